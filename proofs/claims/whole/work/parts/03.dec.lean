theorem dX0_init_0 : decode cX0_init 0 = .ok (.aload_n 0, 1) := by decide +kernel
theorem dX0_init_1 : decode cX0_init 1 = .ok (.invokespecial 5, 3) := by decide +kernel
theorem dX0_init_4 : decode cX0_init 4 = .ok (.aload_n 0, 1) := by decide +kernel
theorem dX0_init_5 : decode cX0_init 5 = .ok (.iconst 0, 1) := by decide +kernel
theorem dX0_init_6 : decode cX0_init 6 = .ok (.putfield 11, 3) := by decide +kernel
theorem dX0_init_9 : decode cX0_init 9 = .ok (.aload_n 0, 1) := by decide +kernel
theorem dX0_init_10 : decode cX0_init 10 = .ok (.sipush 300, 3) := by decide +kernel
theorem dX0_init_13 : decode cX0_init 13 = .ok (.newarray .int, 2) := by decide +kernel
theorem dX0_init_15 : decode cX0_init 15 = .ok (.putfield 17, 3) := by decide +kernel
theorem dX0_init_18 : decode cX0_init 18 = .ok (.aload_n 0, 1) := by decide +kernel
theorem dX0_init_19 : decode cX0_init 19 = .ok (.sipush 300, 3) := by decide +kernel
theorem dX0_init_22 : decode cX0_init 22 = .ok (.newarray .int, 2) := by decide +kernel
theorem dX0_init_24 : decode cX0_init 24 = .ok (.putfield 21, 3) := by decide +kernel
theorem dX0_init_27 : decode cX0_init 27 = .ok (.aload_n 0, 1) := by decide +kernel
theorem dX0_init_28 : decode cX0_init 28 = .ok (.sipush 300, 3) := by decide +kernel
theorem dX0_init_31 : decode cX0_init 31 = .ok (.newarray .boolean, 2) := by decide +kernel
theorem dX0_init_33 : decode cX0_init 33 = .ok (.putfield 24, 3) := by decide +kernel
theorem dX0_init_36 : decode cX0_init 36 = .ok (.return_, 1) := by decide +kernel
theorem dX0_add_0 : decode cX0_add 0 = .ok (.aload_n 0, 1) := by decide +kernel
theorem dX0_add_1 : decode cX0_add 1 = .ok (.getfield 11, 3) := by decide +kernel
theorem dX0_add_4 : decode cX0_add 4 = .ok (.sipush 300, 3) := by decide +kernel
theorem dX0_add_7 : decode cX0_add 7 = .ok (.if_icmp .ge 33, 3) := by decide +kernel
theorem dX0_add_10 : decode cX0_add 10 = .ok (.aload_n 0, 1) := by decide +kernel
theorem dX0_add_11 : decode cX0_add 11 = .ok (.getfield 17, 3) := by decide +kernel
theorem dX0_add_14 : decode cX0_add 14 = .ok (.aload_n 0, 1) := by decide +kernel
theorem dX0_add_15 : decode cX0_add 15 = .ok (.getfield 11, 3) := by decide +kernel
theorem dX0_add_18 : decode cX0_add 18 = .ok (.iload_n 2, 1) := by decide +kernel
theorem dX0_add_19 : decode cX0_add 19 = .ok (.iastore, 1) := by decide +kernel
theorem dX0_add_20 : decode cX0_add 20 = .ok (.aload_n 0, 1) := by decide +kernel
theorem dX0_add_21 : decode cX0_add 21 = .ok (.getfield 21, 3) := by decide +kernel
theorem dX0_add_24 : decode cX0_add 24 = .ok (.aload_n 0, 1) := by decide +kernel
theorem dX0_add_25 : decode cX0_add 25 = .ok (.getfield 11, 3) := by decide +kernel
theorem dX0_add_28 : decode cX0_add 28 = .ok (.iload_n 1, 1) := by decide +kernel
theorem dX0_add_29 : decode cX0_add 29 = .ok (.iastore, 1) := by decide +kernel
theorem dX0_add_30 : decode cX0_add 30 = .ok (.aload_n 0, 1) := by decide +kernel
theorem dX0_add_31 : decode cX0_add 31 = .ok (.dup, 1) := by decide +kernel
theorem dX0_add_32 : decode cX0_add 32 = .ok (.getfield 11, 3) := by decide +kernel
theorem dX0_add_35 : decode cX0_add 35 = .ok (.iconst 1, 1) := by decide +kernel
theorem dX0_add_36 : decode cX0_add 36 = .ok (.iadd, 1) := by decide +kernel
theorem dX0_add_37 : decode cX0_add 37 = .ok (.putfield 11, 3) := by decide +kernel
theorem dX0_add_40 : decode cX0_add 40 = .ok (.return_, 1) := by decide +kernel
theorem dX0_isTaken_0 : decode cX0_isTaken 0 = .ok (.aload_n 0, 1) := by decide +kernel
theorem dX0_isTaken_1 : decode cX0_isTaken 1 = .ok (.iload_n 1, 1) := by decide +kernel
theorem dX0_isTaken_2 : decode cX0_isTaken 2 = .ok (.invokevirtual 28, 3) := by decide +kernel
theorem dX0_isTaken_5 : decode cX0_isTaken 5 = .ok (.iconst (-1), 1) := by decide +kernel
theorem dX0_isTaken_6 : decode cX0_isTaken 6 = .ok (.if_icmp .eq 7, 3) := by decide +kernel
theorem dX0_isTaken_9 : decode cX0_isTaken 9 = .ok (.iconst 1, 1) := by decide +kernel
theorem dX0_isTaken_10 : decode cX0_isTaken 10 = .ok (.goto 4, 3) := by decide +kernel
theorem dX0_isTaken_13 : decode cX0_isTaken 13 = .ok (.iconst 0, 1) := by decide +kernel
theorem dX0_isTaken_14 : decode cX0_isTaken 14 = .ok (.ireturn, 1) := by decide +kernel
theorem dX0_holderOfGood_0 : decode cX0_holderOfGood 0 = .ok (.aload_n 0, 1) := by decide +kernel
theorem dX0_holderOfGood_1 : decode cX0_holderOfGood 1 = .ok (.iload_n 1, 1) := by decide +kernel
theorem dX0_holderOfGood_2 : decode cX0_holderOfGood 2 = .ok (.invokevirtual 28, 3) := by decide +kernel
theorem dX0_holderOfGood_5 : decode cX0_holderOfGood 5 = .ok (.istore_n 2, 1) := by decide +kernel
theorem dX0_holderOfGood_6 : decode cX0_holderOfGood 6 = .ok (.iload_n 2, 1) := by decide +kernel
theorem dX0_holderOfGood_7 : decode cX0_holderOfGood 7 = .ok (.iconst (-1), 1) := by decide +kernel
theorem dX0_holderOfGood_8 : decode cX0_holderOfGood 8 = .ok (.if_icmp .eq 12, 3) := by decide +kernel
theorem dX0_holderOfGood_11 : decode cX0_holderOfGood 11 = .ok (.aload_n 0, 1) := by decide +kernel
theorem dX0_holderOfGood_12 : decode cX0_holderOfGood 12 = .ok (.getfield 24, 3) := by decide +kernel
theorem dX0_holderOfGood_15 : decode cX0_holderOfGood 15 = .ok (.iload_n 2, 1) := by decide +kernel
theorem dX0_holderOfGood_16 : decode cX0_holderOfGood 16 = .ok (.baload, 1) := by decide +kernel
theorem dX0_holderOfGood_17 : decode cX0_holderOfGood 17 = .ok (.ifCond .eq 7, 3) := by decide +kernel
theorem dX0_holderOfGood_20 : decode cX0_holderOfGood 20 = .ok (.iconst 0, 1) := by decide +kernel
theorem dX0_holderOfGood_21 : decode cX0_holderOfGood 21 = .ok (.goto 9, 3) := by decide +kernel
theorem dX0_holderOfGood_24 : decode cX0_holderOfGood 24 = .ok (.aload_n 0, 1) := by decide +kernel
theorem dX0_holderOfGood_25 : decode cX0_holderOfGood 25 = .ok (.getfield 21, 3) := by decide +kernel
theorem dX0_holderOfGood_28 : decode cX0_holderOfGood 28 = .ok (.iload_n 2, 1) := by decide +kernel
theorem dX0_holderOfGood_29 : decode cX0_holderOfGood 29 = .ok (.iaload, 1) := by decide +kernel
theorem dX0_holderOfGood_30 : decode cX0_holderOfGood 30 = .ok (.ireturn, 1) := by decide +kernel
theorem dX0_lose_0 : decode cX0_lose 0 = .ok (.aload_n 0, 1) := by decide +kernel
theorem dX0_lose_1 : decode cX0_lose 1 = .ok (.iload_n 1, 1) := by decide +kernel
theorem dX0_lose_2 : decode cX0_lose 2 = .ok (.invokevirtual 28, 3) := by decide +kernel
theorem dX0_lose_5 : decode cX0_lose 5 = .ok (.istore_n 2, 1) := by decide +kernel
theorem dX0_lose_6 : decode cX0_lose 6 = .ok (.iload_n 2, 1) := by decide +kernel
theorem dX0_lose_7 : decode cX0_lose 7 = .ok (.iconst (-1), 1) := by decide +kernel
theorem dX0_lose_8 : decode cX0_lose 8 = .ok (.if_icmp .eq 10, 3) := by decide +kernel
theorem dX0_lose_11 : decode cX0_lose 11 = .ok (.aload_n 0, 1) := by decide +kernel
theorem dX0_lose_12 : decode cX0_lose 12 = .ok (.getfield 24, 3) := by decide +kernel
theorem dX0_lose_15 : decode cX0_lose 15 = .ok (.iload_n 2, 1) := by decide +kernel
theorem dX0_lose_16 : decode cX0_lose 16 = .ok (.iconst 1, 1) := by decide +kernel
theorem dX0_lose_17 : decode cX0_lose 17 = .ok (.bastore, 1) := by decide +kernel
theorem dX0_lose_18 : decode cX0_lose 18 = .ok (.return_, 1) := by decide +kernel
theorem dX0_countOf_0 : decode cX0_countOf 0 = .ok (.iconst 0, 1) := by decide +kernel
theorem dX0_countOf_1 : decode cX0_countOf 1 = .ok (.istore_n 2, 1) := by decide +kernel
theorem dX0_countOf_2 : decode cX0_countOf 2 = .ok (.iconst 0, 1) := by decide +kernel
theorem dX0_countOf_3 : decode cX0_countOf 3 = .ok (.istore_n 3, 1) := by decide +kernel
theorem dX0_countOf_4 : decode cX0_countOf 4 = .ok (.iload_n 3, 1) := by decide +kernel
theorem dX0_countOf_5 : decode cX0_countOf 5 = .ok (.aload_n 0, 1) := by decide +kernel
theorem dX0_countOf_6 : decode cX0_countOf 6 = .ok (.getfield 11, 3) := by decide +kernel
theorem dX0_countOf_9 : decode cX0_countOf 9 = .ok (.if_icmp .ge 22, 3) := by decide +kernel
theorem dX0_countOf_12 : decode cX0_countOf 12 = .ok (.aload_n 0, 1) := by decide +kernel
theorem dX0_countOf_13 : decode cX0_countOf 13 = .ok (.getfield 21, 3) := by decide +kernel
theorem dX0_countOf_16 : decode cX0_countOf 16 = .ok (.iload_n 3, 1) := by decide +kernel
theorem dX0_countOf_17 : decode cX0_countOf 17 = .ok (.iaload, 1) := by decide +kernel
theorem dX0_countOf_18 : decode cX0_countOf 18 = .ok (.iload_n 1, 1) := by decide +kernel
theorem dX0_countOf_19 : decode cX0_countOf 19 = .ok (.if_icmp .ne 6, 3) := by decide +kernel
theorem dX0_countOf_22 : decode cX0_countOf 22 = .ok (.iinc 2 1, 3) := by decide +kernel
theorem dX0_countOf_25 : decode cX0_countOf 25 = .ok (.iinc 3 1, 3) := by decide +kernel
theorem dX0_countOf_28 : decode cX0_countOf 28 = .ok (.goto (-24), 3) := by decide +kernel
theorem dX0_countOf_31 : decode cX0_countOf 31 = .ok (.iload_n 2, 1) := by decide +kernel
theorem dX0_countOf_32 : decode cX0_countOf 32 = .ok (.ireturn, 1) := by decide +kernel
theorem dX0_moveAll_0 : decode cX0_moveAll 0 = .ok (.iconst 0, 1) := by decide +kernel
theorem dX0_moveAll_1 : decode cX0_moveAll 1 = .ok (.istore_n 3, 1) := by decide +kernel
theorem dX0_moveAll_2 : decode cX0_moveAll 2 = .ok (.iload_n 3, 1) := by decide +kernel
theorem dX0_moveAll_3 : decode cX0_moveAll 3 = .ok (.aload_n 0, 1) := by decide +kernel
theorem dX0_moveAll_4 : decode cX0_moveAll 4 = .ok (.getfield 11, 3) := by decide +kernel
theorem dX0_moveAll_7 : decode cX0_moveAll 7 = .ok (.if_icmp .ge 26, 3) := by decide +kernel
theorem dX0_moveAll_10 : decode cX0_moveAll 10 = .ok (.aload_n 0, 1) := by decide +kernel
theorem dX0_moveAll_11 : decode cX0_moveAll 11 = .ok (.getfield 21, 3) := by decide +kernel
theorem dX0_moveAll_14 : decode cX0_moveAll 14 = .ok (.iload_n 3, 1) := by decide +kernel
theorem dX0_moveAll_15 : decode cX0_moveAll 15 = .ok (.iaload, 1) := by decide +kernel
theorem dX0_moveAll_16 : decode cX0_moveAll 16 = .ok (.iload_n 1, 1) := by decide +kernel
theorem dX0_moveAll_17 : decode cX0_moveAll 17 = .ok (.if_icmp .ne 10, 3) := by decide +kernel
theorem dX0_moveAll_20 : decode cX0_moveAll 20 = .ok (.aload_n 0, 1) := by decide +kernel
theorem dX0_moveAll_21 : decode cX0_moveAll 21 = .ok (.getfield 21, 3) := by decide +kernel
theorem dX0_moveAll_24 : decode cX0_moveAll 24 = .ok (.iload_n 3, 1) := by decide +kernel
theorem dX0_moveAll_25 : decode cX0_moveAll 25 = .ok (.iload_n 2, 1) := by decide +kernel
theorem dX0_moveAll_26 : decode cX0_moveAll 26 = .ok (.iastore, 1) := by decide +kernel
theorem dX0_moveAll_27 : decode cX0_moveAll 27 = .ok (.iinc 3 1, 3) := by decide +kernel
theorem dX0_moveAll_30 : decode cX0_moveAll 30 = .ok (.goto (-28), 3) := by decide +kernel
theorem dX0_moveAll_33 : decode cX0_moveAll 33 = .ok (.return_, 1) := by decide +kernel
theorem dX0_placeOf_0 : decode cX0_placeOf 0 = .ok (.iconst 0, 1) := by decide +kernel
theorem dX0_placeOf_1 : decode cX0_placeOf 1 = .ok (.istore_n 2, 1) := by decide +kernel
theorem dX0_placeOf_2 : decode cX0_placeOf 2 = .ok (.iload_n 2, 1) := by decide +kernel
theorem dX0_placeOf_3 : decode cX0_placeOf 3 = .ok (.aload_n 0, 1) := by decide +kernel
theorem dX0_placeOf_4 : decode cX0_placeOf 4 = .ok (.getfield 11, 3) := by decide +kernel
theorem dX0_placeOf_7 : decode cX0_placeOf 7 = .ok (.if_icmp .ge 21, 3) := by decide +kernel
theorem dX0_placeOf_10 : decode cX0_placeOf 10 = .ok (.aload_n 0, 1) := by decide +kernel
theorem dX0_placeOf_11 : decode cX0_placeOf 11 = .ok (.getfield 17, 3) := by decide +kernel
theorem dX0_placeOf_14 : decode cX0_placeOf 14 = .ok (.iload_n 2, 1) := by decide +kernel
theorem dX0_placeOf_15 : decode cX0_placeOf 15 = .ok (.iaload, 1) := by decide +kernel
theorem dX0_placeOf_16 : decode cX0_placeOf 16 = .ok (.iload_n 1, 1) := by decide +kernel
theorem dX0_placeOf_17 : decode cX0_placeOf 17 = .ok (.if_icmp .ne 5, 3) := by decide +kernel
theorem dX0_placeOf_20 : decode cX0_placeOf 20 = .ok (.iload_n 2, 1) := by decide +kernel
theorem dX0_placeOf_21 : decode cX0_placeOf 21 = .ok (.ireturn, 1) := by decide +kernel
theorem dX0_placeOf_22 : decode cX0_placeOf 22 = .ok (.iinc 2 1, 3) := by decide +kernel
theorem dX0_placeOf_25 : decode cX0_placeOf 25 = .ok (.goto (-23), 3) := by decide +kernel
theorem dX0_placeOf_28 : decode cX0_placeOf 28 = .ok (.iconst (-1), 1) := by decide +kernel
theorem dX0_placeOf_29 : decode cX0_placeOf 29 = .ok (.ireturn, 1) := by decide +kernel
theorem dX1_init_0 : decode cX1_init 0 = .ok (.aload_n 0, 1) := by decide +kernel
theorem dX1_init_1 : decode cX1_init 1 = .ok (.invokespecial 1, 3) := by decide +kernel
theorem dX1_init_4 : decode cX1_init 4 = .ok (.aload_n 0, 1) := by decide +kernel
theorem dX1_init_5 : decode cX1_init 5 = .ok (.iconst 0, 1) := by decide +kernel
theorem dX1_init_6 : decode cX1_init 6 = .ok (.putfield 7, 3) := by decide +kernel
theorem dX1_init_9 : decode cX1_init 9 = .ok (.aload_n 0, 1) := by decide +kernel
theorem dX1_init_10 : decode cX1_init 10 = .ok (.sipush 200, 3) := by decide +kernel
theorem dX1_init_13 : decode cX1_init 13 = .ok (.newarray .int, 2) := by decide +kernel
theorem dX1_init_15 : decode cX1_init 15 = .ok (.putfield 13, 3) := by decide +kernel
theorem dX1_init_18 : decode cX1_init 18 = .ok (.aload_n 0, 1) := by decide +kernel
theorem dX1_init_19 : decode cX1_init 19 = .ok (.sipush 200, 3) := by decide +kernel
theorem dX1_init_22 : decode cX1_init 22 = .ok (.newarray .int, 2) := by decide +kernel
theorem dX1_init_24 : decode cX1_init 24 = .ok (.putfield 17, 3) := by decide +kernel
theorem dX1_init_27 : decode cX1_init 27 = .ok (.aload_n 0, 1) := by decide +kernel
theorem dX1_init_28 : decode cX1_init 28 = .ok (.sipush 200, 3) := by decide +kernel
theorem dX1_init_31 : decode cX1_init 31 = .ok (.newarray .int, 2) := by decide +kernel
theorem dX1_init_33 : decode cX1_init 33 = .ok (.putfield 20, 3) := by decide +kernel
theorem dX1_init_36 : decode cX1_init 36 = .ok (.aload_n 0, 1) := by decide +kernel
theorem dX1_init_37 : decode cX1_init 37 = .ok (.sipush 200, 3) := by decide +kernel
theorem dX1_init_40 : decode cX1_init 40 = .ok (.newarray .long, 2) := by decide +kernel
theorem dX1_init_42 : decode cX1_init 42 = .ok (.putfield 23, 3) := by decide +kernel
theorem dX1_init_45 : decode cX1_init 45 = .ok (.aload_n 0, 1) := by decide +kernel
theorem dX1_init_46 : decode cX1_init 46 = .ok (.sipush 200, 3) := by decide +kernel
theorem dX1_init_49 : decode cX1_init 49 = .ok (.newarray .long, 2) := by decide +kernel
theorem dX1_init_51 : decode cX1_init 51 = .ok (.putfield 27, 3) := by decide +kernel
theorem dX1_init_54 : decode cX1_init 54 = .ok (.aload_n 0, 1) := by decide +kernel
theorem dX1_init_55 : decode cX1_init 55 = .ok (.sipush 200, 3) := by decide +kernel
theorem dX1_init_58 : decode cX1_init 58 = .ok (.newarray .boolean, 2) := by decide +kernel
theorem dX1_init_60 : decode cX1_init 60 = .ok (.putfield 30, 3) := by decide +kernel
theorem dX1_init_63 : decode cX1_init 63 = .ok (.aload_n 0, 1) := by decide +kernel
theorem dX1_init_64 : decode cX1_init 64 = .ok (.sipush 200, 3) := by decide +kernel
theorem dX1_init_67 : decode cX1_init 67 = .ok (.newarray .int, 2) := by decide +kernel
theorem dX1_init_69 : decode cX1_init 69 = .ok (.putfield 34, 3) := by decide +kernel
theorem dX1_init_72 : decode cX1_init 72 = .ok (.return_, 1) := by decide +kernel
theorem dX1_count_0 : decode cX1_count 0 = .ok (.aload_n 0, 1) := by decide +kernel
theorem dX1_count_1 : decode cX1_count 1 = .ok (.getfield 7, 3) := by decide +kernel
theorem dX1_count_4 : decode cX1_count 4 = .ok (.ireturn, 1) := by decide +kernel
theorem dX1_add_0 : decode cX1_add 0 = .ok (.aload_n 0, 1) := by decide +kernel
theorem dX1_add_1 : decode cX1_add 1 = .ok (.getfield 7, 3) := by decide +kernel
theorem dX1_add_4 : decode cX1_add 4 = .ok (.sipush 200, 3) := by decide +kernel
theorem dX1_add_7 : decode cX1_add 7 = .ok (.if_icmp .lt 5, 3) := by decide +kernel
theorem dX1_add_10 : decode cX1_add 10 = .ok (.iconst 0, 1) := by decide +kernel
theorem dX1_add_11 : decode cX1_add 11 = .ok (.ireturn, 1) := by decide +kernel
theorem dX1_add_12 : decode cX1_add 12 = .ok (.aload_n 0, 1) := by decide +kernel
theorem dX1_add_13 : decode cX1_add 13 = .ok (.getfield 13, 3) := by decide +kernel
theorem dX1_add_16 : decode cX1_add 16 = .ok (.aload_n 0, 1) := by decide +kernel
theorem dX1_add_17 : decode cX1_add 17 = .ok (.getfield 7, 3) := by decide +kernel
theorem dX1_add_20 : decode cX1_add 20 = .ok (.iload_n 1, 1) := by decide +kernel
theorem dX1_add_21 : decode cX1_add 21 = .ok (.iastore, 1) := by decide +kernel
theorem dX1_add_22 : decode cX1_add 22 = .ok (.aload_n 0, 1) := by decide +kernel
theorem dX1_add_23 : decode cX1_add 23 = .ok (.getfield 17, 3) := by decide +kernel
theorem dX1_add_26 : decode cX1_add 26 = .ok (.aload_n 0, 1) := by decide +kernel
theorem dX1_add_27 : decode cX1_add 27 = .ok (.getfield 7, 3) := by decide +kernel
theorem dX1_add_30 : decode cX1_add 30 = .ok (.iload_n 2, 1) := by decide +kernel
theorem dX1_add_31 : decode cX1_add 31 = .ok (.iastore, 1) := by decide +kernel
theorem dX1_add_32 : decode cX1_add 32 = .ok (.aload_n 0, 1) := by decide +kernel
theorem dX1_add_33 : decode cX1_add 33 = .ok (.getfield 20, 3) := by decide +kernel
theorem dX1_add_36 : decode cX1_add 36 = .ok (.aload_n 0, 1) := by decide +kernel
theorem dX1_add_37 : decode cX1_add 37 = .ok (.getfield 7, 3) := by decide +kernel
theorem dX1_add_40 : decode cX1_add 40 = .ok (.iload_n 3, 1) := by decide +kernel
theorem dX1_add_41 : decode cX1_add 41 = .ok (.iastore, 1) := by decide +kernel
theorem dX1_add_42 : decode cX1_add 42 = .ok (.aload_n 0, 1) := by decide +kernel
theorem dX1_add_43 : decode cX1_add 43 = .ok (.getfield 23, 3) := by decide +kernel
theorem dX1_add_46 : decode cX1_add 46 = .ok (.aload_n 0, 1) := by decide +kernel
theorem dX1_add_47 : decode cX1_add 47 = .ok (.getfield 7, 3) := by decide +kernel
theorem dX1_add_50 : decode cX1_add 50 = .ok (.lload 4, 2) := by decide +kernel
theorem dX1_add_52 : decode cX1_add 52 = .ok (.lastore, 1) := by decide +kernel
theorem dX1_add_53 : decode cX1_add 53 = .ok (.aload_n 0, 1) := by decide +kernel
theorem dX1_add_54 : decode cX1_add 54 = .ok (.getfield 27, 3) := by decide +kernel
theorem dX1_add_57 : decode cX1_add 57 = .ok (.aload_n 0, 1) := by decide +kernel
theorem dX1_add_58 : decode cX1_add 58 = .ok (.getfield 7, 3) := by decide +kernel
theorem dX1_add_61 : decode cX1_add 61 = .ok (.lload 6, 2) := by decide +kernel
theorem dX1_add_63 : decode cX1_add 63 = .ok (.lastore, 1) := by decide +kernel
theorem dX1_add_64 : decode cX1_add 64 = .ok (.aload_n 0, 1) := by decide +kernel
theorem dX1_add_65 : decode cX1_add 65 = .ok (.aload_n 0, 1) := by decide +kernel
theorem dX1_add_66 : decode cX1_add 66 = .ok (.getfield 7, 3) := by decide +kernel
theorem dX1_add_69 : decode cX1_add 69 = .ok (.invokevirtual 37, 3) := by decide +kernel
theorem dX1_add_72 : decode cX1_add 72 = .ok (.aload_n 0, 1) := by decide +kernel
theorem dX1_add_73 : decode cX1_add 73 = .ok (.dup, 1) := by decide +kernel
theorem dX1_add_74 : decode cX1_add 74 = .ok (.getfield 7, 3) := by decide +kernel
theorem dX1_add_77 : decode cX1_add 77 = .ok (.iconst 1, 1) := by decide +kernel
theorem dX1_add_78 : decode cX1_add 78 = .ok (.iadd, 1) := by decide +kernel
theorem dX1_add_79 : decode cX1_add 79 = .ok (.putfield 7, 3) := by decide +kernel
theorem dX1_add_82 : decode cX1_add 82 = .ok (.aload_n 0, 1) := by decide +kernel
theorem dX1_add_83 : decode cX1_add 83 = .ok (.getfield 7, 3) := by decide +kernel
theorem dX1_add_86 : decode cX1_add 86 = .ok (.ireturn, 1) := by decide +kernel
theorem dX1_putInOrder_0 : decode cX1_putInOrder 0 = .ok (.iload_n 1, 1) := by decide +kernel
theorem dX1_putInOrder_1 : decode cX1_putInOrder 1 = .ok (.istore_n 2, 1) := by decide +kernel
theorem dX1_putInOrder_2 : decode cX1_putInOrder 2 = .ok (.iload_n 2, 1) := by decide +kernel
theorem dX1_putInOrder_3 : decode cX1_putInOrder 3 = .ok (.ifCond .le 46, 3) := by decide +kernel
theorem dX1_putInOrder_6 : decode cX1_putInOrder 6 = .ok (.aload_n 0, 1) := by decide +kernel
theorem dX1_putInOrder_7 : decode cX1_putInOrder 7 = .ok (.getfield 27, 3) := by decide +kernel
theorem dX1_putInOrder_10 : decode cX1_putInOrder 10 = .ok (.aload_n 0, 1) := by decide +kernel
theorem dX1_putInOrder_11 : decode cX1_putInOrder 11 = .ok (.getfield 34, 3) := by decide +kernel
theorem dX1_putInOrder_14 : decode cX1_putInOrder 14 = .ok (.iload_n 2, 1) := by decide +kernel
theorem dX1_putInOrder_15 : decode cX1_putInOrder 15 = .ok (.iconst 1, 1) := by decide +kernel
theorem dX1_putInOrder_16 : decode cX1_putInOrder 16 = .ok (.isub, 1) := by decide +kernel
theorem dX1_putInOrder_17 : decode cX1_putInOrder 17 = .ok (.iaload, 1) := by decide +kernel
theorem dX1_putInOrder_18 : decode cX1_putInOrder 18 = .ok (.laload, 1) := by decide +kernel
theorem dX1_putInOrder_19 : decode cX1_putInOrder 19 = .ok (.aload_n 0, 1) := by decide +kernel
theorem dX1_putInOrder_20 : decode cX1_putInOrder 20 = .ok (.getfield 27, 3) := by decide +kernel
theorem dX1_putInOrder_23 : decode cX1_putInOrder 23 = .ok (.iload_n 1, 1) := by decide +kernel
theorem dX1_putInOrder_24 : decode cX1_putInOrder 24 = .ok (.laload, 1) := by decide +kernel
theorem dX1_putInOrder_25 : decode cX1_putInOrder 25 = .ok (.lcmp, 1) := by decide +kernel
theorem dX1_putInOrder_26 : decode cX1_putInOrder 26 = .ok (.ifCond .le 23, 3) := by decide +kernel
theorem dX1_putInOrder_29 : decode cX1_putInOrder 29 = .ok (.aload_n 0, 1) := by decide +kernel
theorem dX1_putInOrder_30 : decode cX1_putInOrder 30 = .ok (.getfield 34, 3) := by decide +kernel
theorem dX1_putInOrder_33 : decode cX1_putInOrder 33 = .ok (.iload_n 2, 1) := by decide +kernel
theorem dX1_putInOrder_34 : decode cX1_putInOrder 34 = .ok (.aload_n 0, 1) := by decide +kernel
theorem dX1_putInOrder_35 : decode cX1_putInOrder 35 = .ok (.getfield 34, 3) := by decide +kernel
theorem dX1_putInOrder_38 : decode cX1_putInOrder 38 = .ok (.iload_n 2, 1) := by decide +kernel
theorem dX1_putInOrder_39 : decode cX1_putInOrder 39 = .ok (.iconst 1, 1) := by decide +kernel
theorem dX1_putInOrder_40 : decode cX1_putInOrder 40 = .ok (.isub, 1) := by decide +kernel
theorem dX1_putInOrder_41 : decode cX1_putInOrder 41 = .ok (.iaload, 1) := by decide +kernel
theorem dX1_putInOrder_42 : decode cX1_putInOrder 42 = .ok (.iastore, 1) := by decide +kernel
theorem dX1_putInOrder_43 : decode cX1_putInOrder 43 = .ok (.iinc 2 (-1), 3) := by decide +kernel
theorem dX1_putInOrder_46 : decode cX1_putInOrder 46 = .ok (.goto (-44), 3) := by decide +kernel
theorem dX1_putInOrder_49 : decode cX1_putInOrder 49 = .ok (.aload_n 0, 1) := by decide +kernel
theorem dX1_putInOrder_50 : decode cX1_putInOrder 50 = .ok (.getfield 34, 3) := by decide +kernel
theorem dX1_putInOrder_53 : decode cX1_putInOrder 53 = .ok (.iload_n 2, 1) := by decide +kernel
theorem dX1_putInOrder_54 : decode cX1_putInOrder 54 = .ok (.iload_n 1, 1) := by decide +kernel
theorem dX1_putInOrder_55 : decode cX1_putInOrder 55 = .ok (.iastore, 1) := by decide +kernel
theorem dX1_putInOrder_56 : decode cX1_putInOrder 56 = .ok (.return_, 1) := by decide +kernel
theorem dX1_atPlace_0 : decode cX1_atPlace 0 = .ok (.aload_n 0, 1) := by decide +kernel
theorem dX1_atPlace_1 : decode cX1_atPlace 1 = .ok (.getfield 34, 3) := by decide +kernel
theorem dX1_atPlace_4 : decode cX1_atPlace 4 = .ok (.iload_n 1, 1) := by decide +kernel
theorem dX1_atPlace_5 : decode cX1_atPlace 5 = .ok (.iaload, 1) := by decide +kernel
theorem dX1_atPlace_6 : decode cX1_atPlace 6 = .ok (.ireturn, 1) := by decide +kernel
theorem dX1_holderOf_0 : decode cX1_holderOf 0 = .ok (.aload_n 0, 1) := by decide +kernel
theorem dX1_holderOf_1 : decode cX1_holderOf 1 = .ok (.getfield 13, 3) := by decide +kernel
theorem dX1_holderOf_4 : decode cX1_holderOf 4 = .ok (.iload_n 1, 1) := by decide +kernel
theorem dX1_holderOf_5 : decode cX1_holderOf 5 = .ok (.iaload, 1) := by decide +kernel
theorem dX1_holderOf_6 : decode cX1_holderOf 6 = .ok (.ireturn, 1) := by decide +kernel
theorem dX1_itemOf_0 : decode cX1_itemOf 0 = .ok (.aload_n 0, 1) := by decide +kernel
theorem dX1_itemOf_1 : decode cX1_itemOf 1 = .ok (.getfield 20, 3) := by decide +kernel
theorem dX1_itemOf_4 : decode cX1_itemOf 4 = .ok (.iload_n 1, 1) := by decide +kernel
theorem dX1_itemOf_5 : decode cX1_itemOf 5 = .ok (.iaload, 1) := by decide +kernel
theorem dX1_itemOf_6 : decode cX1_itemOf 6 = .ok (.ireturn, 1) := by decide +kernel
theorem dX1_lastDayOf_0 : decode cX1_lastDayOf 0 = .ok (.aload_n 0, 1) := by decide +kernel
theorem dX1_lastDayOf_1 : decode cX1_lastDayOf 1 = .ok (.getfield 27, 3) := by decide +kernel
theorem dX1_lastDayOf_4 : decode cX1_lastDayOf 4 = .ok (.iload_n 1, 1) := by decide +kernel
theorem dX1_lastDayOf_5 : decode cX1_lastDayOf 5 = .ok (.laload, 1) := by decide +kernel
theorem dX1_lastDayOf_6 : decode cX1_lastDayOf 6 = .ok (.lreturn, 1) := by decide +kernel
theorem dX1_isAnonymous_0 : decode cX1_isAnonymous 0 = .ok (.aload_n 0, 1) := by decide +kernel
theorem dX1_isAnonymous_1 : decode cX1_isAnonymous 1 = .ok (.getfield 30, 3) := by decide +kernel
theorem dX1_isAnonymous_4 : decode cX1_isAnonymous 4 = .ok (.iload_n 1, 1) := by decide +kernel
theorem dX1_isAnonymous_5 : decode cX1_isAnonymous 5 = .ok (.baload, 1) := by decide +kernel
theorem dX1_isAnonymous_6 : decode cX1_isAnonymous 6 = .ok (.ireturn, 1) := by decide +kernel
theorem dX1_makeAnonymous_0 : decode cX1_makeAnonymous 0 = .ok (.aload_n 0, 1) := by decide +kernel
theorem dX1_makeAnonymous_1 : decode cX1_makeAnonymous 1 = .ok (.getfield 30, 3) := by decide +kernel
theorem dX1_makeAnonymous_4 : decode cX1_makeAnonymous 4 = .ok (.iload_n 1, 1) := by decide +kernel
theorem dX1_makeAnonymous_5 : decode cX1_makeAnonymous 5 = .ok (.iconst 1, 1) := by decide +kernel
theorem dX1_makeAnonymous_6 : decode cX1_makeAnonymous 6 = .ok (.bastore, 1) := by decide +kernel
theorem dX1_makeAnonymous_7 : decode cX1_makeAnonymous 7 = .ok (.return_, 1) := by decide +kernel
theorem dX1_countNamed_0 : decode cX1_countNamed 0 = .ok (.iconst 0, 1) := by decide +kernel
theorem dX1_countNamed_1 : decode cX1_countNamed 1 = .ok (.istore_n 2, 1) := by decide +kernel
theorem dX1_countNamed_2 : decode cX1_countNamed 2 = .ok (.iconst 0, 1) := by decide +kernel
theorem dX1_countNamed_3 : decode cX1_countNamed 3 = .ok (.istore_n 3, 1) := by decide +kernel
theorem dX1_countNamed_4 : decode cX1_countNamed 4 = .ok (.iload_n 3, 1) := by decide +kernel
theorem dX1_countNamed_5 : decode cX1_countNamed 5 = .ok (.aload_n 0, 1) := by decide +kernel
theorem dX1_countNamed_6 : decode cX1_countNamed 6 = .ok (.getfield 7, 3) := by decide +kernel
theorem dX1_countNamed_9 : decode cX1_countNamed 9 = .ok (.if_icmp .ge 31, 3) := by decide +kernel
theorem dX1_countNamed_12 : decode cX1_countNamed 12 = .ok (.aload_n 0, 1) := by decide +kernel
theorem dX1_countNamed_13 : decode cX1_countNamed 13 = .ok (.getfield 13, 3) := by decide +kernel
theorem dX1_countNamed_16 : decode cX1_countNamed 16 = .ok (.iload_n 3, 1) := by decide +kernel
theorem dX1_countNamed_17 : decode cX1_countNamed 17 = .ok (.iaload, 1) := by decide +kernel
theorem dX1_countNamed_18 : decode cX1_countNamed 18 = .ok (.iload_n 1, 1) := by decide +kernel
theorem dX1_countNamed_19 : decode cX1_countNamed 19 = .ok (.if_icmp .ne 15, 3) := by decide +kernel
theorem dX1_countNamed_22 : decode cX1_countNamed 22 = .ok (.aload_n 0, 1) := by decide +kernel
theorem dX1_countNamed_23 : decode cX1_countNamed 23 = .ok (.getfield 30, 3) := by decide +kernel
theorem dX1_countNamed_26 : decode cX1_countNamed 26 = .ok (.iload_n 3, 1) := by decide +kernel
theorem dX1_countNamed_27 : decode cX1_countNamed 27 = .ok (.baload, 1) := by decide +kernel
theorem dX1_countNamed_28 : decode cX1_countNamed 28 = .ok (.ifCond .ne 6, 3) := by decide +kernel
theorem dX1_countNamed_31 : decode cX1_countNamed 31 = .ok (.iinc 2 1, 3) := by decide +kernel
theorem dX1_countNamed_34 : decode cX1_countNamed 34 = .ok (.iinc 3 1, 3) := by decide +kernel
theorem dX1_countNamed_37 : decode cX1_countNamed 37 = .ok (.goto (-33), 3) := by decide +kernel
theorem dX1_countNamed_40 : decode cX1_countNamed 40 = .ok (.iload_n 2, 1) := by decide +kernel
theorem dX1_countNamed_41 : decode cX1_countNamed 41 = .ok (.ireturn, 1) := by decide +kernel
theorem dX1_countBegun_0 : decode cX1_countBegun 0 = .ok (.iconst 0, 1) := by decide +kernel
theorem dX1_countBegun_1 : decode cX1_countBegun 1 = .ok (.istore 6, 2) := by decide +kernel
theorem dX1_countBegun_3 : decode cX1_countBegun 3 = .ok (.iconst 0, 1) := by decide +kernel
theorem dX1_countBegun_4 : decode cX1_countBegun 4 = .ok (.istore 7, 2) := by decide +kernel
theorem dX1_countBegun_6 : decode cX1_countBegun 6 = .ok (.iload 7, 2) := by decide +kernel
theorem dX1_countBegun_8 : decode cX1_countBegun 8 = .ok (.aload_n 0, 1) := by decide +kernel
theorem dX1_countBegun_9 : decode cX1_countBegun 9 = .ok (.getfield 7, 3) := by decide +kernel
theorem dX1_countBegun_12 : decode cX1_countBegun 12 = .ok (.if_icmp .ge 48, 3) := by decide +kernel
theorem dX1_countBegun_15 : decode cX1_countBegun 15 = .ok (.aload_n 0, 1) := by decide +kernel
theorem dX1_countBegun_16 : decode cX1_countBegun 16 = .ok (.getfield 17, 3) := by decide +kernel
theorem dX1_countBegun_19 : decode cX1_countBegun 19 = .ok (.iload 7, 2) := by decide +kernel
theorem dX1_countBegun_21 : decode cX1_countBegun 21 = .ok (.iaload, 1) := by decide +kernel
theorem dX1_countBegun_22 : decode cX1_countBegun 22 = .ok (.iload_n 1, 1) := by decide +kernel
theorem dX1_countBegun_23 : decode cX1_countBegun 23 = .ok (.if_icmp .ne 31, 3) := by decide +kernel
theorem dX1_countBegun_26 : decode cX1_countBegun 26 = .ok (.aload_n 0, 1) := by decide +kernel
theorem dX1_countBegun_27 : decode cX1_countBegun 27 = .ok (.getfield 23, 3) := by decide +kernel
theorem dX1_countBegun_30 : decode cX1_countBegun 30 = .ok (.iload 7, 2) := by decide +kernel
theorem dX1_countBegun_32 : decode cX1_countBegun 32 = .ok (.laload, 1) := by decide +kernel
theorem dX1_countBegun_33 : decode cX1_countBegun 33 = .ok (.lload_n 2, 1) := by decide +kernel
theorem dX1_countBegun_34 : decode cX1_countBegun 34 = .ok (.lcmp, 1) := by decide +kernel
theorem dX1_countBegun_35 : decode cX1_countBegun 35 = .ok (.ifCond .lt 19, 3) := by decide +kernel
theorem dX1_countBegun_38 : decode cX1_countBegun 38 = .ok (.aload_n 0, 1) := by decide +kernel
theorem dX1_countBegun_39 : decode cX1_countBegun 39 = .ok (.getfield 23, 3) := by decide +kernel
theorem dX1_countBegun_42 : decode cX1_countBegun 42 = .ok (.iload 7, 2) := by decide +kernel
theorem dX1_countBegun_44 : decode cX1_countBegun 44 = .ok (.laload, 1) := by decide +kernel
theorem dX1_countBegun_45 : decode cX1_countBegun 45 = .ok (.lload 4, 2) := by decide +kernel
theorem dX1_countBegun_47 : decode cX1_countBegun 47 = .ok (.lcmp, 1) := by decide +kernel
theorem dX1_countBegun_48 : decode cX1_countBegun 48 = .ok (.ifCond .gt 6, 3) := by decide +kernel
theorem dX1_countBegun_51 : decode cX1_countBegun 51 = .ok (.iinc 6 1, 3) := by decide +kernel
theorem dX1_countBegun_54 : decode cX1_countBegun 54 = .ok (.iinc 7 1, 3) := by decide +kernel
theorem dX1_countBegun_57 : decode cX1_countBegun 57 = .ok (.goto (-51), 3) := by decide +kernel
theorem dX1_countBegun_60 : decode cX1_countBegun 60 = .ok (.iload 6, 2) := by decide +kernel
theorem dX1_countBegun_62 : decode cX1_countBegun 62 = .ok (.ireturn, 1) := by decide +kernel
theorem dX1_moveAll_0 : decode cX1_moveAll 0 = .ok (.iconst 0, 1) := by decide +kernel
theorem dX1_moveAll_1 : decode cX1_moveAll 1 = .ok (.istore_n 3, 1) := by decide +kernel
theorem dX1_moveAll_2 : decode cX1_moveAll 2 = .ok (.iload_n 3, 1) := by decide +kernel
theorem dX1_moveAll_3 : decode cX1_moveAll 3 = .ok (.aload_n 0, 1) := by decide +kernel
theorem dX1_moveAll_4 : decode cX1_moveAll 4 = .ok (.getfield 7, 3) := by decide +kernel
theorem dX1_moveAll_7 : decode cX1_moveAll 7 = .ok (.if_icmp .ge 26, 3) := by decide +kernel
theorem dX1_moveAll_10 : decode cX1_moveAll 10 = .ok (.aload_n 0, 1) := by decide +kernel
theorem dX1_moveAll_11 : decode cX1_moveAll 11 = .ok (.getfield 13, 3) := by decide +kernel
theorem dX1_moveAll_14 : decode cX1_moveAll 14 = .ok (.iload_n 3, 1) := by decide +kernel
theorem dX1_moveAll_15 : decode cX1_moveAll 15 = .ok (.iaload, 1) := by decide +kernel
theorem dX1_moveAll_16 : decode cX1_moveAll 16 = .ok (.iload_n 1, 1) := by decide +kernel
theorem dX1_moveAll_17 : decode cX1_moveAll 17 = .ok (.if_icmp .ne 10, 3) := by decide +kernel
theorem dX1_moveAll_20 : decode cX1_moveAll 20 = .ok (.aload_n 0, 1) := by decide +kernel
theorem dX1_moveAll_21 : decode cX1_moveAll 21 = .ok (.getfield 13, 3) := by decide +kernel
theorem dX1_moveAll_24 : decode cX1_moveAll 24 = .ok (.iload_n 3, 1) := by decide +kernel
theorem dX1_moveAll_25 : decode cX1_moveAll 25 = .ok (.iload_n 2, 1) := by decide +kernel
theorem dX1_moveAll_26 : decode cX1_moveAll 26 = .ok (.iastore, 1) := by decide +kernel
theorem dX1_moveAll_27 : decode cX1_moveAll 27 = .ok (.iinc 3 1, 3) := by decide +kernel
theorem dX1_moveAll_30 : decode cX1_moveAll 30 = .ok (.goto (-28), 3) := by decide +kernel
theorem dX1_moveAll_33 : decode cX1_moveAll 33 = .ok (.return_, 1) := by decide +kernel
theorem dX2_init_0 : decode cX2_init 0 = .ok (.aload_n 0, 1) := by decide +kernel
theorem dX2_init_1 : decode cX2_init 1 = .ok (.invokespecial 1, 3) := by decide +kernel
theorem dX2_init_4 : decode cX2_init 4 = .ok (.aload_n 0, 1) := by decide +kernel
theorem dX2_init_5 : decode cX2_init 5 = .ok (.sipush 732, 3) := by decide +kernel
theorem dX2_init_8 : decode cX2_init 8 = .ok (.newarray .char, 2) := by decide +kernel
theorem dX2_init_10 : decode cX2_init 10 = .ok (.putfield 11, 3) := by decide +kernel
theorem dX2_init_13 : decode cX2_init 13 = .ok (.aload_n 0, 1) := by decide +kernel
theorem dX2_init_14 : decode cX2_init 14 = .ok (.bipush 61, 2) := by decide +kernel
theorem dX2_init_16 : decode cX2_init 16 = .ok (.newarray .int, 2) := by decide +kernel
theorem dX2_init_18 : decode cX2_init 18 = .ok (.putfield 17, 3) := by decide +kernel
theorem dX2_init_21 : decode cX2_init 21 = .ok (.aload_n 0, 1) := by decide +kernel
theorem dX2_init_22 : decode cX2_init 22 = .ok (.bipush 61, 2) := by decide +kernel
theorem dX2_init_24 : decode cX2_init 24 = .ok (.newarray .int, 2) := by decide +kernel
theorem dX2_init_26 : decode cX2_init 26 = .ok (.putfield 21, 3) := by decide +kernel
theorem dX2_init_29 : decode cX2_init 29 = .ok (.aload_n 0, 1) := by decide +kernel
theorem dX2_init_30 : decode cX2_init 30 = .ok (.bipush 13, 2) := by decide +kernel
theorem dX2_init_32 : decode cX2_init 32 = .ok (.newarray .int, 2) := by decide +kernel
theorem dX2_init_34 : decode cX2_init 34 = .ok (.putfield 24, 3) := by decide +kernel
theorem dX2_init_37 : decode cX2_init 37 = .ok (.return_, 1) := by decide +kernel
theorem dX2_put_0 : decode cX2_put 0 = .ok (.aload_n 2, 1) := by decide +kernel
theorem dX2_put_1 : decode cX2_put 1 = .ok (.invokevirtual 27, 3) := by decide +kernel
theorem dX2_put_4 : decode cX2_put 4 = .ok (.istore_n 3, 1) := by decide +kernel
theorem dX2_put_5 : decode cX2_put 5 = .ok (.iconst 0, 1) := by decide +kernel
theorem dX2_put_6 : decode cX2_put 6 = .ok (.istore 4, 2) := by decide +kernel
theorem dX2_put_8 : decode cX2_put 8 = .ok (.iload 4, 2) := by decide +kernel
theorem dX2_put_10 : decode cX2_put 10 = .ok (.iload_n 3, 1) := by decide +kernel
theorem dX2_put_11 : decode cX2_put 11 = .ok (.if_icmp .ge 28, 3) := by decide +kernel
theorem dX2_put_14 : decode cX2_put 14 = .ok (.aload_n 0, 1) := by decide +kernel
theorem dX2_put_15 : decode cX2_put 15 = .ok (.getfield 11, 3) := by decide +kernel
theorem dX2_put_18 : decode cX2_put 18 = .ok (.iload_n 1, 1) := by decide +kernel
theorem dX2_put_19 : decode cX2_put 19 = .ok (.bipush 12, 2) := by decide +kernel
theorem dX2_put_21 : decode cX2_put 21 = .ok (.imul, 1) := by decide +kernel
theorem dX2_put_22 : decode cX2_put 22 = .ok (.iload 4, 2) := by decide +kernel
theorem dX2_put_24 : decode cX2_put 24 = .ok (.iadd, 1) := by decide +kernel
theorem dX2_put_25 : decode cX2_put 25 = .ok (.aload_n 2, 1) := by decide +kernel
theorem dX2_put_26 : decode cX2_put 26 = .ok (.iload 4, 2) := by decide +kernel
theorem dX2_put_28 : decode cX2_put 28 = .ok (.invokevirtual 31, 3) := by decide +kernel
theorem dX2_put_31 : decode cX2_put 31 = .ok (.i2c, 1) := by decide +kernel
theorem dX2_put_32 : decode cX2_put 32 = .ok (.castore, 1) := by decide +kernel
theorem dX2_put_33 : decode cX2_put 33 = .ok (.iinc 4 1, 3) := by decide +kernel
theorem dX2_put_36 : decode cX2_put 36 = .ok (.goto (-28), 3) := by decide +kernel
theorem dX2_put_39 : decode cX2_put 39 = .ok (.aload_n 0, 1) := by decide +kernel
theorem dX2_put_40 : decode cX2_put 40 = .ok (.getfield 17, 3) := by decide +kernel
theorem dX2_put_43 : decode cX2_put 43 = .ok (.iload_n 1, 1) := by decide +kernel
theorem dX2_put_44 : decode cX2_put 44 = .ok (.iload_n 3, 1) := by decide +kernel
theorem dX2_put_45 : decode cX2_put 45 = .ok (.iastore, 1) := by decide +kernel
theorem dX2_put_46 : decode cX2_put 46 = .ok (.aload_n 0, 1) := by decide +kernel
theorem dX2_put_47 : decode cX2_put 47 = .ok (.getfield 21, 3) := by decide +kernel
theorem dX2_put_50 : decode cX2_put 50 = .ok (.iload_n 1, 1) := by decide +kernel
theorem dX2_put_51 : decode cX2_put 51 = .ok (.aload_n 2, 1) := by decide +kernel
theorem dX2_put_52 : decode cX2_put 52 = .ok (.invokevirtual 35, 3) := by decide +kernel
theorem dX2_put_55 : decode cX2_put 55 = .ok (.iastore, 1) := by decide +kernel
theorem dX2_put_56 : decode cX2_put 56 = .ok (.return_, 1) := by decide +kernel
theorem dX2_has_0 : decode cX2_has 0 = .ok (.aload_n 0, 1) := by decide +kernel
theorem dX2_has_1 : decode cX2_has 1 = .ok (.getfield 17, 3) := by decide +kernel
theorem dX2_has_4 : decode cX2_has 4 = .ok (.iload_n 1, 1) := by decide +kernel
theorem dX2_has_5 : decode cX2_has 5 = .ok (.iaload, 1) := by decide +kernel
theorem dX2_has_6 : decode cX2_has 6 = .ok (.ifCond .le 7, 3) := by decide +kernel
theorem dX2_has_9 : decode cX2_has 9 = .ok (.iconst 1, 1) := by decide +kernel
theorem dX2_has_10 : decode cX2_has 10 = .ok (.goto 4, 3) := by decide +kernel
theorem dX2_has_13 : decode cX2_has 13 = .ok (.iconst 0, 1) := by decide +kernel
theorem dX2_has_14 : decode cX2_has 14 = .ok (.ireturn, 1) := by decide +kernel
theorem dX2_isSame_0 : decode cX2_isSame 0 = .ok (.aload_n 2, 1) := by decide +kernel
theorem dX2_isSame_1 : decode cX2_isSame 1 = .ok (.invokevirtual 27, 3) := by decide +kernel
theorem dX2_isSame_4 : decode cX2_isSame 4 = .ok (.istore_n 3, 1) := by decide +kernel
theorem dX2_isSame_5 : decode cX2_isSame 5 = .ok (.aload_n 0, 1) := by decide +kernel
theorem dX2_isSame_6 : decode cX2_isSame 6 = .ok (.getfield 17, 3) := by decide +kernel
theorem dX2_isSame_9 : decode cX2_isSame 9 = .ok (.iload_n 1, 1) := by decide +kernel
theorem dX2_isSame_10 : decode cX2_isSame 10 = .ok (.iaload, 1) := by decide +kernel
theorem dX2_isSame_11 : decode cX2_isSame 11 = .ok (.iload_n 3, 1) := by decide +kernel
theorem dX2_isSame_12 : decode cX2_isSame 12 = .ok (.if_icmp .ne 16, 3) := by decide +kernel
theorem dX2_isSame_15 : decode cX2_isSame 15 = .ok (.aload_n 0, 1) := by decide +kernel
theorem dX2_isSame_16 : decode cX2_isSame 16 = .ok (.getfield 21, 3) := by decide +kernel
theorem dX2_isSame_19 : decode cX2_isSame 19 = .ok (.iload_n 1, 1) := by decide +kernel
theorem dX2_isSame_20 : decode cX2_isSame 20 = .ok (.iaload, 1) := by decide +kernel
theorem dX2_isSame_21 : decode cX2_isSame 21 = .ok (.aload_n 2, 1) := by decide +kernel
theorem dX2_isSame_22 : decode cX2_isSame 22 = .ok (.invokevirtual 35, 3) := by decide +kernel
theorem dX2_isSame_25 : decode cX2_isSame 25 = .ok (.if_icmp .eq 5, 3) := by decide +kernel
theorem dX2_isSame_28 : decode cX2_isSame 28 = .ok (.iconst 0, 1) := by decide +kernel
theorem dX2_isSame_29 : decode cX2_isSame 29 = .ok (.ireturn, 1) := by decide +kernel
theorem dX2_isSame_30 : decode cX2_isSame 30 = .ok (.iconst 0, 1) := by decide +kernel
theorem dX2_isSame_31 : decode cX2_isSame 31 = .ok (.istore 4, 2) := by decide +kernel
theorem dX2_isSame_33 : decode cX2_isSame 33 = .ok (.iload 4, 2) := by decide +kernel
theorem dX2_isSame_35 : decode cX2_isSame 35 = .ok (.iload_n 3, 1) := by decide +kernel
theorem dX2_isSame_36 : decode cX2_isSame 36 = .ok (.if_icmp .ge 27, 3) := by decide +kernel
theorem dX2_isSame_39 : decode cX2_isSame 39 = .ok (.aload_n 0, 1) := by decide +kernel
theorem dX2_isSame_40 : decode cX2_isSame 40 = .ok (.iload_n 1, 1) := by decide +kernel
theorem dX2_isSame_41 : decode cX2_isSame 41 = .ok (.iload 4, 2) := by decide +kernel
theorem dX2_isSame_43 : decode cX2_isSame 43 = .ok (.invokevirtual 38, 3) := by decide +kernel
theorem dX2_isSame_46 : decode cX2_isSame 46 = .ok (.aload_n 2, 1) := by decide +kernel
theorem dX2_isSame_47 : decode cX2_isSame 47 = .ok (.iload 4, 2) := by decide +kernel
theorem dX2_isSame_49 : decode cX2_isSame 49 = .ok (.invokevirtual 31, 3) := by decide +kernel
theorem dX2_isSame_52 : decode cX2_isSame 52 = .ok (.if_icmp .eq 5, 3) := by decide +kernel
theorem dX2_isSame_55 : decode cX2_isSame 55 = .ok (.iconst 0, 1) := by decide +kernel
theorem dX2_isSame_56 : decode cX2_isSame 56 = .ok (.ireturn, 1) := by decide +kernel
theorem dX2_isSame_57 : decode cX2_isSame 57 = .ok (.iinc 4 1, 3) := by decide +kernel
theorem dX2_isSame_60 : decode cX2_isSame 60 = .ok (.goto (-27), 3) := by decide +kernel
theorem dX2_isSame_63 : decode cX2_isSame 63 = .ok (.iconst 1, 1) := by decide +kernel
theorem dX2_isSame_64 : decode cX2_isSame 64 = .ok (.ireturn, 1) := by decide +kernel
theorem dX2_distance_0 : decode cX2_distance 0 = .ok (.aload_n 2, 1) := by decide +kernel
theorem dX2_distance_1 : decode cX2_distance 1 = .ok (.invokevirtual 27, 3) := by decide +kernel
theorem dX2_distance_4 : decode cX2_distance 4 = .ok (.istore_n 3, 1) := by decide +kernel
theorem dX2_distance_5 : decode cX2_distance 5 = .ok (.iconst 0, 1) := by decide +kernel
theorem dX2_distance_6 : decode cX2_distance 6 = .ok (.istore 4, 2) := by decide +kernel
theorem dX2_distance_8 : decode cX2_distance 8 = .ok (.iload 4, 2) := by decide +kernel
theorem dX2_distance_10 : decode cX2_distance 10 = .ok (.iload_n 3, 1) := by decide +kernel
theorem dX2_distance_11 : decode cX2_distance 11 = .ok (.if_icmp .gt 18, 3) := by decide +kernel
theorem dX2_distance_14 : decode cX2_distance 14 = .ok (.aload_n 0, 1) := by decide +kernel
theorem dX2_distance_15 : decode cX2_distance 15 = .ok (.getfield 24, 3) := by decide +kernel
theorem dX2_distance_18 : decode cX2_distance 18 = .ok (.iload 4, 2) := by decide +kernel
theorem dX2_distance_20 : decode cX2_distance 20 = .ok (.iload 4, 2) := by decide +kernel
theorem dX2_distance_22 : decode cX2_distance 22 = .ok (.iastore, 1) := by decide +kernel
theorem dX2_distance_23 : decode cX2_distance 23 = .ok (.iinc 4 1, 3) := by decide +kernel
theorem dX2_distance_26 : decode cX2_distance 26 = .ok (.goto (-18), 3) := by decide +kernel
theorem dX2_distance_29 : decode cX2_distance 29 = .ok (.iconst 1, 1) := by decide +kernel
theorem dX2_distance_30 : decode cX2_distance 30 = .ok (.istore 4, 2) := by decide +kernel
theorem dX2_distance_32 : decode cX2_distance 32 = .ok (.iload 4, 2) := by decide +kernel
theorem dX2_distance_34 : decode cX2_distance 34 = .ok (.aload_n 0, 1) := by decide +kernel
theorem dX2_distance_35 : decode cX2_distance 35 = .ok (.getfield 17, 3) := by decide +kernel
theorem dX2_distance_38 : decode cX2_distance 38 = .ok (.iload_n 1, 1) := by decide +kernel
theorem dX2_distance_39 : decode cX2_distance 39 = .ok (.iaload, 1) := by decide +kernel
theorem dX2_distance_40 : decode cX2_distance 40 = .ok (.if_icmp .gt 121, 3) := by decide +kernel
theorem dX2_distance_43 : decode cX2_distance 43 = .ok (.aload_n 0, 1) := by decide +kernel
theorem dX2_distance_44 : decode cX2_distance 44 = .ok (.iload_n 1, 1) := by decide +kernel
theorem dX2_distance_45 : decode cX2_distance 45 = .ok (.iload 4, 2) := by decide +kernel
theorem dX2_distance_47 : decode cX2_distance 47 = .ok (.iconst 1, 1) := by decide +kernel
theorem dX2_distance_48 : decode cX2_distance 48 = .ok (.isub, 1) := by decide +kernel
theorem dX2_distance_49 : decode cX2_distance 49 = .ok (.invokevirtual 38, 3) := by decide +kernel
theorem dX2_distance_52 : decode cX2_distance 52 = .ok (.istore 5, 2) := by decide +kernel
theorem dX2_distance_54 : decode cX2_distance 54 = .ok (.aload_n 0, 1) := by decide +kernel
theorem dX2_distance_55 : decode cX2_distance 55 = .ok (.getfield 24, 3) := by decide +kernel
theorem dX2_distance_58 : decode cX2_distance 58 = .ok (.iconst 0, 1) := by decide +kernel
theorem dX2_distance_59 : decode cX2_distance 59 = .ok (.iaload, 1) := by decide +kernel
theorem dX2_distance_60 : decode cX2_distance 60 = .ok (.istore 6, 2) := by decide +kernel
theorem dX2_distance_62 : decode cX2_distance 62 = .ok (.aload_n 0, 1) := by decide +kernel
theorem dX2_distance_63 : decode cX2_distance 63 = .ok (.getfield 24, 3) := by decide +kernel
theorem dX2_distance_66 : decode cX2_distance 66 = .ok (.iconst 0, 1) := by decide +kernel
theorem dX2_distance_67 : decode cX2_distance 67 = .ok (.iload 4, 2) := by decide +kernel
theorem dX2_distance_69 : decode cX2_distance 69 = .ok (.iastore, 1) := by decide +kernel
theorem dX2_distance_70 : decode cX2_distance 70 = .ok (.iconst 1, 1) := by decide +kernel
theorem dX2_distance_71 : decode cX2_distance 71 = .ok (.istore 7, 2) := by decide +kernel
theorem dX2_distance_73 : decode cX2_distance 73 = .ok (.iload 7, 2) := by decide +kernel
theorem dX2_distance_75 : decode cX2_distance 75 = .ok (.iload_n 3, 1) := by decide +kernel
theorem dX2_distance_76 : decode cX2_distance 76 = .ok (.if_icmp .gt 79, 3) := by decide +kernel
theorem dX2_distance_79 : decode cX2_distance 79 = .ok (.iload 5, 2) := by decide +kernel
theorem dX2_distance_81 : decode cX2_distance 81 = .ok (.aload_n 2, 1) := by decide +kernel
theorem dX2_distance_82 : decode cX2_distance 82 = .ok (.iload 7, 2) := by decide +kernel
theorem dX2_distance_84 : decode cX2_distance 84 = .ok (.iconst 1, 1) := by decide +kernel
theorem dX2_distance_85 : decode cX2_distance 85 = .ok (.isub, 1) := by decide +kernel
theorem dX2_distance_86 : decode cX2_distance 86 = .ok (.invokevirtual 31, 3) := by decide +kernel
theorem dX2_distance_89 : decode cX2_distance 89 = .ok (.if_icmp .ne 8, 3) := by decide +kernel
theorem dX2_distance_92 : decode cX2_distance 92 = .ok (.iload 6, 2) := by decide +kernel
theorem dX2_distance_94 : decode cX2_distance 94 = .ok (.goto 7, 3) := by decide +kernel
theorem dX2_distance_97 : decode cX2_distance 97 = .ok (.iload 6, 2) := by decide +kernel
theorem dX2_distance_99 : decode cX2_distance 99 = .ok (.iconst 1, 1) := by decide +kernel
theorem dX2_distance_100 : decode cX2_distance 100 = .ok (.iadd, 1) := by decide +kernel
theorem dX2_distance_101 : decode cX2_distance 101 = .ok (.istore 8, 2) := by decide +kernel
theorem dX2_distance_103 : decode cX2_distance 103 = .ok (.aload_n 0, 1) := by decide +kernel
theorem dX2_distance_104 : decode cX2_distance 104 = .ok (.getfield 24, 3) := by decide +kernel
theorem dX2_distance_107 : decode cX2_distance 107 = .ok (.iload 7, 2) := by decide +kernel
theorem dX2_distance_109 : decode cX2_distance 109 = .ok (.iaload, 1) := by decide +kernel
theorem dX2_distance_110 : decode cX2_distance 110 = .ok (.istore 6, 2) := by decide +kernel
theorem dX2_distance_112 : decode cX2_distance 112 = .ok (.aload_n 0, 1) := by decide +kernel
theorem dX2_distance_113 : decode cX2_distance 113 = .ok (.getfield 24, 3) := by decide +kernel
theorem dX2_distance_116 : decode cX2_distance 116 = .ok (.iload 7, 2) := by decide +kernel
theorem dX2_distance_118 : decode cX2_distance 118 = .ok (.iaload, 1) := by decide +kernel
theorem dX2_distance_119 : decode cX2_distance 119 = .ok (.aload_n 0, 1) := by decide +kernel
theorem dX2_distance_120 : decode cX2_distance 120 = .ok (.getfield 24, 3) := by decide +kernel
theorem dX2_distance_123 : decode cX2_distance 123 = .ok (.iload 7, 2) := by decide +kernel
theorem dX2_distance_125 : decode cX2_distance 125 = .ok (.iconst 1, 1) := by decide +kernel
theorem dX2_distance_126 : decode cX2_distance 126 = .ok (.isub, 1) := by decide +kernel
theorem dX2_distance_127 : decode cX2_distance 127 = .ok (.iaload, 1) := by decide +kernel
theorem dX2_distance_128 : decode cX2_distance 128 = .ok (.invokestatic 42, 3) := by decide +kernel
theorem dX2_distance_131 : decode cX2_distance 131 = .ok (.iconst 1, 1) := by decide +kernel
theorem dX2_distance_132 : decode cX2_distance 132 = .ok (.iadd, 1) := by decide +kernel
theorem dX2_distance_133 : decode cX2_distance 133 = .ok (.istore 9, 2) := by decide +kernel
theorem dX2_distance_135 : decode cX2_distance 135 = .ok (.aload_n 0, 1) := by decide +kernel
theorem dX2_distance_136 : decode cX2_distance 136 = .ok (.getfield 24, 3) := by decide +kernel
theorem dX2_distance_139 : decode cX2_distance 139 = .ok (.iload 7, 2) := by decide +kernel
theorem dX2_distance_141 : decode cX2_distance 141 = .ok (.iload 8, 2) := by decide +kernel
theorem dX2_distance_143 : decode cX2_distance 143 = .ok (.iload 9, 2) := by decide +kernel
theorem dX2_distance_145 : decode cX2_distance 145 = .ok (.invokestatic 42, 3) := by decide +kernel
theorem dX2_distance_148 : decode cX2_distance 148 = .ok (.iastore, 1) := by decide +kernel
theorem dX2_distance_149 : decode cX2_distance 149 = .ok (.iinc 7 1, 3) := by decide +kernel
theorem dX2_distance_152 : decode cX2_distance 152 = .ok (.goto (-79), 3) := by decide +kernel
theorem dX2_distance_155 : decode cX2_distance 155 = .ok (.iinc 4 1, 3) := by decide +kernel
theorem dX2_distance_158 : decode cX2_distance 158 = .ok (.goto (-126), 3) := by decide +kernel
theorem dX2_distance_161 : decode cX2_distance 161 = .ok (.aload_n 0, 1) := by decide +kernel
theorem dX2_distance_162 : decode cX2_distance 162 = .ok (.getfield 24, 3) := by decide +kernel
theorem dX2_distance_165 : decode cX2_distance 165 = .ok (.iload_n 3, 1) := by decide +kernel
theorem dX2_distance_166 : decode cX2_distance 166 = .ok (.iaload, 1) := by decide +kernel
theorem dX2_distance_167 : decode cX2_distance 167 = .ok (.ireturn, 1) := by decide +kernel
theorem dX2_letterAt_0 : decode cX2_letterAt 0 = .ok (.aload_n 0, 1) := by decide +kernel
theorem dX2_letterAt_1 : decode cX2_letterAt 1 = .ok (.getfield 11, 3) := by decide +kernel
theorem dX2_letterAt_4 : decode cX2_letterAt 4 = .ok (.iload_n 1, 1) := by decide +kernel
theorem dX2_letterAt_5 : decode cX2_letterAt 5 = .ok (.bipush 12, 2) := by decide +kernel
theorem dX2_letterAt_7 : decode cX2_letterAt 7 = .ok (.imul, 1) := by decide +kernel
theorem dX2_letterAt_8 : decode cX2_letterAt 8 = .ok (.iload_n 2, 1) := by decide +kernel
theorem dX2_letterAt_9 : decode cX2_letterAt 9 = .ok (.iadd, 1) := by decide +kernel
theorem dX2_letterAt_10 : decode cX2_letterAt 10 = .ok (.caload, 1) := by decide +kernel
theorem dX2_letterAt_11 : decode cX2_letterAt 11 = .ok (.ireturn, 1) := by decide +kernel
theorem dX3_init_0 : decode cX3_init 0 = .ok (.aload_n 0, 1) := by decide +kernel
theorem dX3_init_1 : decode cX3_init 1 = .ok (.invokespecial 3, 3) := by decide +kernel
theorem dX3_init_4 : decode cX3_init 4 = .ok (.aload_n 0, 1) := by decide +kernel
theorem dX3_init_5 : decode cX3_init 5 = .ok (.iconst 0, 1) := by decide +kernel
theorem dX3_init_6 : decode cX3_init 6 = .ok (.putfield 9, 3) := by decide +kernel
theorem dX3_init_9 : decode cX3_init 9 = .ok (.aload_n 0, 1) := by decide +kernel
theorem dX3_init_10 : decode cX3_init 10 = .ok (.bipush 61, 2) := by decide +kernel
theorem dX3_init_12 : decode cX3_init 12 = .ok (.newarray .int, 2) := by decide +kernel
theorem dX3_init_14 : decode cX3_init 14 = .ok (.putfield 15, 3) := by decide +kernel
theorem dX3_init_17 : decode cX3_init 17 = .ok (.aload_n 0, 1) := by decide +kernel
theorem dX3_init_18 : decode cX3_init 18 = .ok (.bipush 61, 2) := by decide +kernel
theorem dX3_init_20 : decode cX3_init 20 = .ok (.newarray .int, 2) := by decide +kernel
theorem dX3_init_22 : decode cX3_init 22 = .ok (.putfield 19, 3) := by decide +kernel
theorem dX3_init_25 : decode cX3_init 25 = .ok (.aload_n 0, 1) := by decide +kernel
theorem dX3_init_26 : decode cX3_init 26 = .ok (.bipush 61, 2) := by decide +kernel
theorem dX3_init_28 : decode cX3_init 28 = .ok (.newarray .int, 2) := by decide +kernel
theorem dX3_init_30 : decode cX3_init 30 = .ok (.putfield 22, 3) := by decide +kernel
theorem dX3_init_33 : decode cX3_init 33 = .ok (.aload_n 0, 1) := by decide +kernel
theorem dX3_init_34 : decode cX3_init 34 = .ok (.bipush 61, 2) := by decide +kernel
theorem dX3_init_36 : decode cX3_init 36 = .ok (.newarray .boolean, 2) := by decide +kernel
theorem dX3_init_38 : decode cX3_init 38 = .ok (.putfield 25, 3) := by decide +kernel
theorem dX3_init_41 : decode cX3_init 41 = .ok (.aload_n 0, 1) := by decide +kernel
theorem dX3_init_42 : decode cX3_init 42 = .ok (.sipush 366, 3) := by decide +kernel
theorem dX3_init_45 : decode cX3_init 45 = .ok (.newarray .long, 2) := by decide +kernel
theorem dX3_init_47 : decode cX3_init 47 = .ok (.putfield 29, 3) := by decide +kernel
theorem dX3_init_50 : decode cX3_init 50 = .ok (.iconst 0, 1) := by decide +kernel
theorem dX3_init_51 : decode cX3_init 51 = .ok (.istore_n 1, 1) := by decide +kernel
theorem dX3_init_52 : decode cX3_init 52 = .ok (.iload_n 1, 1) := by decide +kernel
theorem dX3_init_53 : decode cX3_init 53 = .ok (.aload_n 0, 1) := by decide +kernel
theorem dX3_init_54 : decode cX3_init 54 = .ok (.getfield 29, 3) := by decide +kernel
theorem dX3_init_57 : decode cX3_init 57 = .ok (.arraylength, 1) := by decide +kernel
theorem dX3_init_58 : decode cX3_init 58 = .ok (.if_icmp .ge 18, 3) := by decide +kernel
theorem dX3_init_61 : decode cX3_init 61 = .ok (.aload_n 0, 1) := by decide +kernel
theorem dX3_init_62 : decode cX3_init 62 = .ok (.getfield 29, 3) := by decide +kernel
theorem dX3_init_65 : decode cX3_init 65 = .ok (.iload_n 1, 1) := by decide +kernel
theorem dX3_init_66 : decode cX3_init 66 = .ok (.ldc2_w 33, 3) := by decide +kernel
theorem dX3_init_69 : decode cX3_init 69 = .ok (.lastore, 1) := by decide +kernel
theorem dX3_init_70 : decode cX3_init 70 = .ok (.iinc 1 1, 3) := by decide +kernel
theorem dX3_init_73 : decode cX3_init 73 = .ok (.goto (-21), 3) := by decide +kernel
theorem dX3_init_76 : decode cX3_init 76 = .ok (.return_, 1) := by decide +kernel
theorem dX3_count_0 : decode cX3_count 0 = .ok (.aload_n 0, 1) := by decide +kernel
theorem dX3_count_1 : decode cX3_count 1 = .ok (.getfield 9, 3) := by decide +kernel
theorem dX3_count_4 : decode cX3_count 4 = .ok (.ireturn, 1) := by decide +kernel
theorem dX3_add_0 : decode cX3_add 0 = .ok (.aload_n 0, 1) := by decide +kernel
theorem dX3_add_1 : decode cX3_add 1 = .ok (.getfield 9, 3) := by decide +kernel
theorem dX3_add_4 : decode cX3_add 4 = .ok (.bipush 60, 2) := by decide +kernel
theorem dX3_add_6 : decode cX3_add 6 = .ok (.if_icmp .lt 5, 3) := by decide +kernel
theorem dX3_add_9 : decode cX3_add 9 = .ok (.iconst 0, 1) := by decide +kernel
theorem dX3_add_10 : decode cX3_add 10 = .ok (.ireturn, 1) := by decide +kernel
theorem dX3_add_11 : decode cX3_add 11 = .ok (.aload_n 0, 1) := by decide +kernel
theorem dX3_add_12 : decode cX3_add 12 = .ok (.dup, 1) := by decide +kernel
theorem dX3_add_13 : decode cX3_add 13 = .ok (.getfield 9, 3) := by decide +kernel
theorem dX3_add_16 : decode cX3_add 16 = .ok (.iconst 1, 1) := by decide +kernel
theorem dX3_add_17 : decode cX3_add 17 = .ok (.iadd, 1) := by decide +kernel
theorem dX3_add_18 : decode cX3_add 18 = .ok (.putfield 9, 3) := by decide +kernel
theorem dX3_add_21 : decode cX3_add 21 = .ok (.aload_n 0, 1) := by decide +kernel
theorem dX3_add_22 : decode cX3_add 22 = .ok (.getfield 15, 3) := by decide +kernel
theorem dX3_add_25 : decode cX3_add 25 = .ok (.aload_n 0, 1) := by decide +kernel
theorem dX3_add_26 : decode cX3_add 26 = .ok (.getfield 9, 3) := by decide +kernel
theorem dX3_add_29 : decode cX3_add 29 = .ok (.aload_n 0, 1) := by decide +kernel
theorem dX3_add_30 : decode cX3_add 30 = .ok (.getfield 9, 3) := by decide +kernel
theorem dX3_add_33 : decode cX3_add 33 = .ok (.iastore, 1) := by decide +kernel
theorem dX3_add_34 : decode cX3_add 34 = .ok (.aload_n 0, 1) := by decide +kernel
theorem dX3_add_35 : decode cX3_add 35 = .ok (.getfield 19, 3) := by decide +kernel
theorem dX3_add_38 : decode cX3_add 38 = .ok (.aload_n 0, 1) := by decide +kernel
theorem dX3_add_39 : decode cX3_add 39 = .ok (.getfield 9, 3) := by decide +kernel
theorem dX3_add_42 : decode cX3_add 42 = .ok (.iload_n 1, 1) := by decide +kernel
theorem dX3_add_43 : decode cX3_add 43 = .ok (.iastore, 1) := by decide +kernel
theorem dX3_add_44 : decode cX3_add 44 = .ok (.aload_n 0, 1) := by decide +kernel
theorem dX3_add_45 : decode cX3_add 45 = .ok (.getfield 22, 3) := by decide +kernel
theorem dX3_add_48 : decode cX3_add 48 = .ok (.aload_n 0, 1) := by decide +kernel
theorem dX3_add_49 : decode cX3_add 49 = .ok (.getfield 9, 3) := by decide +kernel
theorem dX3_add_52 : decode cX3_add 52 = .ok (.iload_n 2, 1) := by decide +kernel
theorem dX3_add_53 : decode cX3_add 53 = .ok (.iastore, 1) := by decide +kernel
theorem dX3_add_54 : decode cX3_add 54 = .ok (.aload_n 0, 1) := by decide +kernel
theorem dX3_add_55 : decode cX3_add 55 = .ok (.getfield 9, 3) := by decide +kernel
theorem dX3_add_58 : decode cX3_add 58 = .ok (.ireturn, 1) := by decide +kernel
theorem dX3_find_0 : decode cX3_find 0 = .ok (.iload_n 1, 1) := by decide +kernel
theorem dX3_find_1 : decode cX3_find 1 = .ok (.iconst 1, 1) := by decide +kernel
theorem dX3_find_2 : decode cX3_find 2 = .ok (.if_icmp .lt 20, 3) := by decide +kernel
theorem dX3_find_5 : decode cX3_find 5 = .ok (.iload_n 1, 1) := by decide +kernel
theorem dX3_find_6 : decode cX3_find 6 = .ok (.aload_n 0, 1) := by decide +kernel
theorem dX3_find_7 : decode cX3_find 7 = .ok (.getfield 9, 3) := by decide +kernel
theorem dX3_find_10 : decode cX3_find 10 = .ok (.if_icmp .gt 12, 3) := by decide +kernel
theorem dX3_find_13 : decode cX3_find 13 = .ok (.aload_n 0, 1) := by decide +kernel
theorem dX3_find_14 : decode cX3_find 14 = .ok (.getfield 15, 3) := by decide +kernel
theorem dX3_find_17 : decode cX3_find 17 = .ok (.iload_n 1, 1) := by decide +kernel
theorem dX3_find_18 : decode cX3_find 18 = .ok (.iaload, 1) := by decide +kernel
theorem dX3_find_19 : decode cX3_find 19 = .ok (.goto 4, 3) := by decide +kernel
theorem dX3_find_22 : decode cX3_find 22 = .ok (.iconst 0, 1) := by decide +kernel
theorem dX3_find_23 : decode cX3_find 23 = .ok (.ireturn, 1) := by decide +kernel
theorem dX3_isJoined_0 : decode cX3_isJoined 0 = .ok (.aload_n 0, 1) := by decide +kernel
theorem dX3_isJoined_1 : decode cX3_isJoined 1 = .ok (.getfield 15, 3) := by decide +kernel
theorem dX3_isJoined_4 : decode cX3_isJoined 4 = .ok (.iload_n 1, 1) := by decide +kernel
theorem dX3_isJoined_5 : decode cX3_isJoined 5 = .ok (.iaload, 1) := by decide +kernel
theorem dX3_isJoined_6 : decode cX3_isJoined 6 = .ok (.iload_n 1, 1) := by decide +kernel
theorem dX3_isJoined_7 : decode cX3_isJoined 7 = .ok (.if_icmp .eq 7, 3) := by decide +kernel
theorem dX3_isJoined_10 : decode cX3_isJoined 10 = .ok (.iconst 1, 1) := by decide +kernel
theorem dX3_isJoined_11 : decode cX3_isJoined 11 = .ok (.goto 4, 3) := by decide +kernel
theorem dX3_isJoined_14 : decode cX3_isJoined 14 = .ok (.iconst 0, 1) := by decide +kernel
theorem dX3_isJoined_15 : decode cX3_isJoined 15 = .ok (.ireturn, 1) := by decide +kernel
theorem dX3_kindOf_0 : decode cX3_kindOf 0 = .ok (.aload_n 0, 1) := by decide +kernel
theorem dX3_kindOf_1 : decode cX3_kindOf 1 = .ok (.getfield 19, 3) := by decide +kernel
theorem dX3_kindOf_4 : decode cX3_kindOf 4 = .ok (.iload_n 1, 1) := by decide +kernel
theorem dX3_kindOf_5 : decode cX3_kindOf 5 = .ok (.iaload, 1) := by decide +kernel
theorem dX3_kindOf_6 : decode cX3_kindOf 6 = .ok (.ireturn, 1) := by decide +kernel
theorem dX3_guardianOf_0 : decode cX3_guardianOf 0 = .ok (.aload_n 0, 1) := by decide +kernel
theorem dX3_guardianOf_1 : decode cX3_guardianOf 1 = .ok (.getfield 22, 3) := by decide +kernel
theorem dX3_guardianOf_4 : decode cX3_guardianOf 4 = .ok (.iload_n 1, 1) := by decide +kernel
theorem dX3_guardianOf_5 : decode cX3_guardianOf 5 = .ok (.iaload, 1) := by decide +kernel
theorem dX3_guardianOf_6 : decode cX3_guardianOf 6 = .ok (.ireturn, 1) := by decide +kernel
theorem dX3_hasConsent_0 : decode cX3_hasConsent 0 = .ok (.aload_n 0, 1) := by decide +kernel
theorem dX3_hasConsent_1 : decode cX3_hasConsent 1 = .ok (.getfield 25, 3) := by decide +kernel
theorem dX3_hasConsent_4 : decode cX3_hasConsent 4 = .ok (.iload_n 1, 1) := by decide +kernel
theorem dX3_hasConsent_5 : decode cX3_hasConsent 5 = .ok (.baload, 1) := by decide +kernel
theorem dX3_hasConsent_6 : decode cX3_hasConsent 6 = .ok (.ireturn, 1) := by decide +kernel
theorem dX3_setConsent_0 : decode cX3_setConsent 0 = .ok (.aload_n 0, 1) := by decide +kernel
theorem dX3_setConsent_1 : decode cX3_setConsent 1 = .ok (.getfield 25, 3) := by decide +kernel
theorem dX3_setConsent_4 : decode cX3_setConsent 4 = .ok (.iload_n 1, 1) := by decide +kernel
theorem dX3_setConsent_5 : decode cX3_setConsent 5 = .ok (.iload_n 2, 1) := by decide +kernel
theorem dX3_setConsent_6 : decode cX3_setConsent 6 = .ok (.bastore, 1) := by decide +kernel
theorem dX3_setConsent_7 : decode cX3_setConsent 7 = .ok (.return_, 1) := by decide +kernel
theorem dX3_setBlock_0 : decode cX3_setBlock 0 = .ok (.aload_n 0, 1) := by decide +kernel
theorem dX3_setBlock_1 : decode cX3_setBlock 1 = .ok (.getfield 29, 3) := by decide +kernel
theorem dX3_setBlock_4 : decode cX3_setBlock 4 = .ok (.iload_n 1, 1) := by decide +kernel
theorem dX3_setBlock_5 : decode cX3_setBlock 5 = .ok (.bipush 6, 2) := by decide +kernel
theorem dX3_setBlock_7 : decode cX3_setBlock 7 = .ok (.imul, 1) := by decide +kernel
theorem dX3_setBlock_8 : decode cX3_setBlock 8 = .ok (.iload_n 2, 1) := by decide +kernel
theorem dX3_setBlock_9 : decode cX3_setBlock 9 = .ok (.iadd, 1) := by decide +kernel
theorem dX3_setBlock_10 : decode cX3_setBlock 10 = .ok (.lload_n 3, 1) := by decide +kernel
theorem dX3_setBlock_11 : decode cX3_setBlock 11 = .ok (.lastore, 1) := by decide +kernel
theorem dX3_setBlock_12 : decode cX3_setBlock 12 = .ok (.return_, 1) := by decide +kernel
theorem dX3_hasBlock_0 : decode cX3_hasBlock 0 = .ok (.aload_n 0, 1) := by decide +kernel
theorem dX3_hasBlock_1 : decode cX3_hasBlock 1 = .ok (.getfield 29, 3) := by decide +kernel
theorem dX3_hasBlock_4 : decode cX3_hasBlock 4 = .ok (.iload_n 1, 1) := by decide +kernel
theorem dX3_hasBlock_5 : decode cX3_hasBlock 5 = .ok (.bipush 6, 2) := by decide +kernel
theorem dX3_hasBlock_7 : decode cX3_hasBlock 7 = .ok (.imul, 1) := by decide +kernel
theorem dX3_hasBlock_8 : decode cX3_hasBlock 8 = .ok (.iload_n 2, 1) := by decide +kernel
theorem dX3_hasBlock_9 : decode cX3_hasBlock 9 = .ok (.iadd, 1) := by decide +kernel
theorem dX3_hasBlock_10 : decode cX3_hasBlock 10 = .ok (.laload, 1) := by decide +kernel
theorem dX3_hasBlock_11 : decode cX3_hasBlock 11 = .ok (.lstore 5, 2) := by decide +kernel
theorem dX3_hasBlock_13 : decode cX3_hasBlock 13 = .ok (.lload 5, 2) := by decide +kernel
theorem dX3_hasBlock_15 : decode cX3_hasBlock 15 = .ok (.ldc2_w 33, 3) := by decide +kernel
theorem dX3_hasBlock_18 : decode cX3_hasBlock 18 = .ok (.lcmp, 1) := by decide +kernel
theorem dX3_hasBlock_19 : decode cX3_hasBlock 19 = .ok (.ifCond .eq 14, 3) := by decide +kernel
theorem dX3_hasBlock_22 : decode cX3_hasBlock 22 = .ok (.lload_n 3, 1) := by decide +kernel
theorem dX3_hasBlock_23 : decode cX3_hasBlock 23 = .ok (.lload 5, 2) := by decide +kernel
theorem dX3_hasBlock_25 : decode cX3_hasBlock 25 = .ok (.lcmp, 1) := by decide +kernel
theorem dX3_hasBlock_26 : decode cX3_hasBlock 26 = .ok (.ifCond .gt 7, 3) := by decide +kernel
theorem dX3_hasBlock_29 : decode cX3_hasBlock 29 = .ok (.iconst 1, 1) := by decide +kernel
theorem dX3_hasBlock_30 : decode cX3_hasBlock 30 = .ok (.goto 4, 3) := by decide +kernel
theorem dX3_hasBlock_33 : decode cX3_hasBlock 33 = .ok (.iconst 0, 1) := by decide +kernel
theorem dX3_hasBlock_34 : decode cX3_hasBlock 34 = .ok (.ireturn, 1) := by decide +kernel
theorem dX3_wardOf_0 : decode cX3_wardOf 0 = .ok (.iconst 0, 1) := by decide +kernel
theorem dX3_wardOf_1 : decode cX3_wardOf 1 = .ok (.istore_n 3, 1) := by decide +kernel
theorem dX3_wardOf_2 : decode cX3_wardOf 2 = .ok (.iconst 1, 1) := by decide +kernel
theorem dX3_wardOf_3 : decode cX3_wardOf 3 = .ok (.istore 4, 2) := by decide +kernel
theorem dX3_wardOf_5 : decode cX3_wardOf 5 = .ok (.iload 4, 2) := by decide +kernel
theorem dX3_wardOf_7 : decode cX3_wardOf 7 = .ok (.aload_n 0, 1) := by decide +kernel
theorem dX3_wardOf_8 : decode cX3_wardOf 8 = .ok (.getfield 9, 3) := by decide +kernel
theorem dX3_wardOf_11 : decode cX3_wardOf 11 = .ok (.if_icmp .gt 31, 3) := by decide +kernel
theorem dX3_wardOf_14 : decode cX3_wardOf 14 = .ok (.aload_n 0, 1) := by decide +kernel
theorem dX3_wardOf_15 : decode cX3_wardOf 15 = .ok (.getfield 22, 3) := by decide +kernel
theorem dX3_wardOf_18 : decode cX3_wardOf 18 = .ok (.iload 4, 2) := by decide +kernel
theorem dX3_wardOf_20 : decode cX3_wardOf 20 = .ok (.iaload, 1) := by decide +kernel
theorem dX3_wardOf_21 : decode cX3_wardOf 21 = .ok (.iload_n 1, 1) := by decide +kernel
theorem dX3_wardOf_22 : decode cX3_wardOf 22 = .ok (.if_icmp .ne 14, 3) := by decide +kernel
theorem dX3_wardOf_25 : decode cX3_wardOf 25 = .ok (.iinc 3 1, 3) := by decide +kernel
theorem dX3_wardOf_28 : decode cX3_wardOf 28 = .ok (.iload_n 3, 1) := by decide +kernel
theorem dX3_wardOf_29 : decode cX3_wardOf 29 = .ok (.iload_n 2, 1) := by decide +kernel
theorem dX3_wardOf_30 : decode cX3_wardOf 30 = .ok (.if_icmp .ne 6, 3) := by decide +kernel
theorem dX3_wardOf_33 : decode cX3_wardOf 33 = .ok (.iload 4, 2) := by decide +kernel
theorem dX3_wardOf_35 : decode cX3_wardOf 35 = .ok (.ireturn, 1) := by decide +kernel
theorem dX3_wardOf_36 : decode cX3_wardOf 36 = .ok (.iinc 4 1, 3) := by decide +kernel
theorem dX3_wardOf_39 : decode cX3_wardOf 39 = .ok (.goto (-34), 3) := by decide +kernel
theorem dX3_wardOf_42 : decode cX3_wardOf 42 = .ok (.iconst 0, 1) := by decide +kernel
theorem dX3_wardOf_43 : decode cX3_wardOf 43 = .ok (.ireturn, 1) := by decide +kernel
theorem dX3_merge_0 : decode cX3_merge 0 = .ok (.aload_n 0, 1) := by decide +kernel
theorem dX3_merge_1 : decode cX3_merge 1 = .ok (.getfield 22, 3) := by decide +kernel
theorem dX3_merge_4 : decode cX3_merge 4 = .ok (.iload_n 1, 1) := by decide +kernel
theorem dX3_merge_5 : decode cX3_merge 5 = .ok (.iconst 0, 1) := by decide +kernel
theorem dX3_merge_6 : decode cX3_merge 6 = .ok (.iastore, 1) := by decide +kernel
theorem dX3_merge_7 : decode cX3_merge 7 = .ok (.iconst 1, 1) := by decide +kernel
theorem dX3_merge_8 : decode cX3_merge 8 = .ok (.istore_n 3, 1) := by decide +kernel
theorem dX3_merge_9 : decode cX3_merge 9 = .ok (.iload_n 3, 1) := by decide +kernel
theorem dX3_merge_10 : decode cX3_merge 10 = .ok (.aload_n 0, 1) := by decide +kernel
theorem dX3_merge_11 : decode cX3_merge 11 = .ok (.getfield 9, 3) := by decide +kernel
theorem dX3_merge_14 : decode cX3_merge 14 = .ok (.if_icmp .gt 43, 3) := by decide +kernel
theorem dX3_merge_17 : decode cX3_merge 17 = .ok (.aload_n 0, 1) := by decide +kernel
theorem dX3_merge_18 : decode cX3_merge 18 = .ok (.getfield 15, 3) := by decide +kernel
theorem dX3_merge_21 : decode cX3_merge 21 = .ok (.iload_n 3, 1) := by decide +kernel
theorem dX3_merge_22 : decode cX3_merge 22 = .ok (.iaload, 1) := by decide +kernel
theorem dX3_merge_23 : decode cX3_merge 23 = .ok (.iload_n 1, 1) := by decide +kernel
theorem dX3_merge_24 : decode cX3_merge 24 = .ok (.if_icmp .ne 10, 3) := by decide +kernel
theorem dX3_merge_27 : decode cX3_merge 27 = .ok (.aload_n 0, 1) := by decide +kernel
theorem dX3_merge_28 : decode cX3_merge 28 = .ok (.getfield 15, 3) := by decide +kernel
theorem dX3_merge_31 : decode cX3_merge 31 = .ok (.iload_n 3, 1) := by decide +kernel
theorem dX3_merge_32 : decode cX3_merge 32 = .ok (.iload_n 2, 1) := by decide +kernel
theorem dX3_merge_33 : decode cX3_merge 33 = .ok (.iastore, 1) := by decide +kernel
theorem dX3_merge_34 : decode cX3_merge 34 = .ok (.aload_n 0, 1) := by decide +kernel
theorem dX3_merge_35 : decode cX3_merge 35 = .ok (.getfield 22, 3) := by decide +kernel
theorem dX3_merge_38 : decode cX3_merge 38 = .ok (.iload_n 3, 1) := by decide +kernel
theorem dX3_merge_39 : decode cX3_merge 39 = .ok (.iaload, 1) := by decide +kernel
theorem dX3_merge_40 : decode cX3_merge 40 = .ok (.iload_n 1, 1) := by decide +kernel
theorem dX3_merge_41 : decode cX3_merge 41 = .ok (.if_icmp .ne 10, 3) := by decide +kernel
theorem dX3_merge_44 : decode cX3_merge 44 = .ok (.aload_n 0, 1) := by decide +kernel
theorem dX3_merge_45 : decode cX3_merge 45 = .ok (.getfield 22, 3) := by decide +kernel
theorem dX3_merge_48 : decode cX3_merge 48 = .ok (.iload_n 3, 1) := by decide +kernel
theorem dX3_merge_49 : decode cX3_merge 49 = .ok (.iload_n 2, 1) := by decide +kernel
theorem dX3_merge_50 : decode cX3_merge 50 = .ok (.iastore, 1) := by decide +kernel
theorem dX3_merge_51 : decode cX3_merge 51 = .ok (.iinc 3 1, 3) := by decide +kernel
theorem dX3_merge_54 : decode cX3_merge 54 = .ok (.goto (-45), 3) := by decide +kernel
theorem dX3_merge_57 : decode cX3_merge 57 = .ok (.iconst 0, 1) := by decide +kernel
theorem dX3_merge_58 : decode cX3_merge 58 = .ok (.istore_n 3, 1) := by decide +kernel
theorem dX3_merge_59 : decode cX3_merge 59 = .ok (.iload_n 3, 1) := by decide +kernel
theorem dX3_merge_60 : decode cX3_merge 60 = .ok (.bipush 6, 2) := by decide +kernel
theorem dX3_merge_62 : decode cX3_merge 62 = .ok (.if_icmp .ge 49, 3) := by decide +kernel
theorem dX3_merge_65 : decode cX3_merge 65 = .ok (.aload_n 0, 1) := by decide +kernel
theorem dX3_merge_66 : decode cX3_merge 66 = .ok (.getfield 29, 3) := by decide +kernel
theorem dX3_merge_69 : decode cX3_merge 69 = .ok (.iload_n 1, 1) := by decide +kernel
theorem dX3_merge_70 : decode cX3_merge 70 = .ok (.bipush 6, 2) := by decide +kernel
theorem dX3_merge_72 : decode cX3_merge 72 = .ok (.imul, 1) := by decide +kernel
theorem dX3_merge_73 : decode cX3_merge 73 = .ok (.iload_n 3, 1) := by decide +kernel
theorem dX3_merge_74 : decode cX3_merge 74 = .ok (.iadd, 1) := by decide +kernel
theorem dX3_merge_75 : decode cX3_merge 75 = .ok (.laload, 1) := by decide +kernel
theorem dX3_merge_76 : decode cX3_merge 76 = .ok (.lstore 4, 2) := by decide +kernel
theorem dX3_merge_78 : decode cX3_merge 78 = .ok (.iload_n 2, 1) := by decide +kernel
theorem dX3_merge_79 : decode cX3_merge 79 = .ok (.bipush 6, 2) := by decide +kernel
theorem dX3_merge_81 : decode cX3_merge 81 = .ok (.imul, 1) := by decide +kernel
theorem dX3_merge_82 : decode cX3_merge 82 = .ok (.iload_n 3, 1) := by decide +kernel
theorem dX3_merge_83 : decode cX3_merge 83 = .ok (.iadd, 1) := by decide +kernel
theorem dX3_merge_84 : decode cX3_merge 84 = .ok (.istore 6, 2) := by decide +kernel
theorem dX3_merge_86 : decode cX3_merge 86 = .ok (.aload_n 0, 1) := by decide +kernel
theorem dX3_merge_87 : decode cX3_merge 87 = .ok (.getfield 29, 3) := by decide +kernel
theorem dX3_merge_90 : decode cX3_merge 90 = .ok (.iload 6, 2) := by decide +kernel
theorem dX3_merge_92 : decode cX3_merge 92 = .ok (.aload_n 0, 1) := by decide +kernel
theorem dX3_merge_93 : decode cX3_merge 93 = .ok (.getfield 29, 3) := by decide +kernel
theorem dX3_merge_96 : decode cX3_merge 96 = .ok (.iload 6, 2) := by decide +kernel
theorem dX3_merge_98 : decode cX3_merge 98 = .ok (.laload, 1) := by decide +kernel
theorem dX3_merge_99 : decode cX3_merge 99 = .ok (.lload 4, 2) := by decide +kernel
theorem dX3_merge_101 : decode cX3_merge 101 = .ok (.invokestatic 35, 3) := by decide +kernel
theorem dX3_merge_104 : decode cX3_merge 104 = .ok (.lastore, 1) := by decide +kernel
theorem dX3_merge_105 : decode cX3_merge 105 = .ok (.iinc 3 1, 3) := by decide +kernel
theorem dX3_merge_108 : decode cX3_merge 108 = .ok (.goto (-49), 3) := by decide +kernel
theorem dX3_merge_111 : decode cX3_merge 111 = .ok (.return_, 1) := by decide +kernel
theorem dX4_init_0 : decode cX4_init 0 = .ok (.aload_n 0, 1) := by decide +kernel
theorem dX4_init_1 : decode cX4_init 1 = .ok (.invokespecial 3, 3) := by decide +kernel
theorem dX4_init_4 : decode cX4_init 4 = .ok (.aload_n 0, 1) := by decide +kernel
theorem dX4_init_5 : decode cX4_init 5 = .ok (.iconst 0, 1) := by decide +kernel
theorem dX4_init_6 : decode cX4_init 6 = .ok (.putfield 9, 3) := by decide +kernel
theorem dX4_init_9 : decode cX4_init 9 = .ok (.aload_n 0, 1) := by decide +kernel
theorem dX4_init_10 : decode cX4_init 10 = .ok (.bipush 40, 2) := by decide +kernel
theorem dX4_init_12 : decode cX4_init 12 = .ok (.newarray .int, 2) := by decide +kernel
theorem dX4_init_14 : decode cX4_init 14 = .ok (.putfield 15, 3) := by decide +kernel
theorem dX4_init_17 : decode cX4_init 17 = .ok (.return_, 1) := by decide +kernel
theorem dX4_collect_0 : decode cX4_collect 0 = .ok (.aload_n 0, 1) := by decide +kernel
theorem dX4_collect_1 : decode cX4_collect 1 = .ok (.getfield 9, 3) := by decide +kernel
theorem dX4_collect_4 : decode cX4_collect 4 = .ok (.bipush 40, 2) := by decide +kernel
theorem dX4_collect_6 : decode cX4_collect 6 = .ok (.if_icmp .ge 23, 3) := by decide +kernel
theorem dX4_collect_9 : decode cX4_collect 9 = .ok (.aload_n 0, 1) := by decide +kernel
theorem dX4_collect_10 : decode cX4_collect 10 = .ok (.getfield 15, 3) := by decide +kernel
theorem dX4_collect_13 : decode cX4_collect 13 = .ok (.aload_n 0, 1) := by decide +kernel
theorem dX4_collect_14 : decode cX4_collect 14 = .ok (.getfield 9, 3) := by decide +kernel
theorem dX4_collect_17 : decode cX4_collect 17 = .ok (.iload_n 1, 1) := by decide +kernel
theorem dX4_collect_18 : decode cX4_collect 18 = .ok (.iastore, 1) := by decide +kernel
theorem dX4_collect_19 : decode cX4_collect 19 = .ok (.aload_n 0, 1) := by decide +kernel
theorem dX4_collect_20 : decode cX4_collect 20 = .ok (.dup, 1) := by decide +kernel
theorem dX4_collect_21 : decode cX4_collect 21 = .ok (.getfield 9, 3) := by decide +kernel
theorem dX4_collect_24 : decode cX4_collect 24 = .ok (.iconst 1, 1) := by decide +kernel
theorem dX4_collect_25 : decode cX4_collect 25 = .ok (.iadd, 1) := by decide +kernel
theorem dX4_collect_26 : decode cX4_collect 26 = .ok (.putfield 9, 3) := by decide +kernel
theorem dX4_collect_29 : decode cX4_collect 29 = .ok (.return_, 1) := by decide +kernel
theorem dX4_clear_0 : decode cX4_clear 0 = .ok (.aload_n 0, 1) := by decide +kernel
theorem dX4_clear_1 : decode cX4_clear 1 = .ok (.iconst 0, 1) := by decide +kernel
theorem dX4_clear_2 : decode cX4_clear 2 = .ok (.putfield 9, 3) := by decide +kernel
theorem dX4_clear_5 : decode cX4_clear 5 = .ok (.return_, 1) := by decide +kernel
theorem dX4_signAt_0 : decode cX4_signAt 0 = .ok (.iload_n 1, 1) := by decide +kernel
theorem dX4_signAt_1 : decode cX4_signAt 1 = .ok (.ifCond .lt 20, 3) := by decide +kernel
theorem dX4_signAt_4 : decode cX4_signAt 4 = .ok (.iload_n 1, 1) := by decide +kernel
theorem dX4_signAt_5 : decode cX4_signAt 5 = .ok (.aload_n 0, 1) := by decide +kernel
theorem dX4_signAt_6 : decode cX4_signAt 6 = .ok (.getfield 9, 3) := by decide +kernel
theorem dX4_signAt_9 : decode cX4_signAt 9 = .ok (.if_icmp .ge 12, 3) := by decide +kernel
theorem dX4_signAt_12 : decode cX4_signAt 12 = .ok (.aload_n 0, 1) := by decide +kernel
theorem dX4_signAt_13 : decode cX4_signAt 13 = .ok (.getfield 15, 3) := by decide +kernel
theorem dX4_signAt_16 : decode cX4_signAt 16 = .ok (.iload_n 1, 1) := by decide +kernel
theorem dX4_signAt_17 : decode cX4_signAt 17 = .ok (.iaload, 1) := by decide +kernel
theorem dX4_signAt_18 : decode cX4_signAt 18 = .ok (.goto 4, 3) := by decide +kernel
theorem dX4_signAt_21 : decode cX4_signAt 21 = .ok (.iconst (-1), 1) := by decide +kernel
theorem dX4_signAt_22 : decode cX4_signAt 22 = .ok (.ireturn, 1) := by decide +kernel
theorem dX4_nameLength_0 : decode cX4_nameLength 0 = .ok (.aload_n 0, 1) := by decide +kernel
theorem dX4_nameLength_1 : decode cX4_nameLength 1 = .ok (.getfield 19, 3) := by decide +kernel
theorem dX4_nameLength_4 : decode cX4_nameLength 4 = .ok (.ireturn, 1) := by decide +kernel
theorem dX4_kind_0 : decode cX4_kind 0 = .ok (.aload_n 0, 1) := by decide +kernel
theorem dX4_kind_1 : decode cX4_kind 1 = .ok (.getfield 22, 3) := by decide +kernel
theorem dX4_kind_4 : decode cX4_kind 4 = .ok (.ireturn, 1) := by decide +kernel
theorem dX4_year_0 : decode cX4_year 0 = .ok (.aload_n 0, 1) := by decide +kernel
theorem dX4_year_1 : decode cX4_year 1 = .ok (.getfield 25, 3) := by decide +kernel
theorem dX4_year_4 : decode cX4_year 4 = .ok (.ireturn, 1) := by decide +kernel
theorem dX4_readNameAlone_0 : decode cX4_readNameAlone 0 = .ok (.aload_n 0, 1) := by decide +kernel
theorem dX4_readNameAlone_1 : decode cX4_readNameAlone 1 = .ok (.invokevirtual 28, 3) := by decide +kernel
theorem dX4_readNameAlone_4 : decode cX4_readNameAlone 4 = .ok (.aload_n 0, 1) := by decide +kernel
theorem dX4_readNameAlone_5 : decode cX4_readNameAlone 5 = .ok (.getfield 19, 3) := by decide +kernel
theorem dX4_readNameAlone_8 : decode cX4_readNameAlone 8 = .ok (.ifCond .le 18, 3) := by decide +kernel
theorem dX4_readNameAlone_11 : decode cX4_readNameAlone 11 = .ok (.aload_n 0, 1) := by decide +kernel
theorem dX4_readNameAlone_12 : decode cX4_readNameAlone 12 = .ok (.getfield 19, 3) := by decide +kernel
theorem dX4_readNameAlone_15 : decode cX4_readNameAlone 15 = .ok (.aload_n 0, 1) := by decide +kernel
theorem dX4_readNameAlone_16 : decode cX4_readNameAlone 16 = .ok (.getfield 9, 3) := by decide +kernel
theorem dX4_readNameAlone_19 : decode cX4_readNameAlone 19 = .ok (.if_icmp .ne 7, 3) := by decide +kernel
theorem dX4_readNameAlone_22 : decode cX4_readNameAlone 22 = .ok (.iconst 1, 1) := by decide +kernel
theorem dX4_readNameAlone_23 : decode cX4_readNameAlone 23 = .ok (.goto 4, 3) := by decide +kernel
theorem dX4_readNameAlone_26 : decode cX4_readNameAlone 26 = .ok (.iconst 0, 1) := by decide +kernel
theorem dX4_readNameAlone_27 : decode cX4_readNameAlone 27 = .ok (.ireturn, 1) := by decide +kernel
theorem dX4_readAll_0 : decode cX4_readAll 0 = .ok (.aload_n 0, 1) := by decide +kernel
theorem dX4_readAll_1 : decode cX4_readAll 1 = .ok (.invokevirtual 28, 3) := by decide +kernel
theorem dX4_readAll_4 : decode cX4_readAll 4 = .ok (.aload_n 0, 1) := by decide +kernel
theorem dX4_readAll_5 : decode cX4_readAll 5 = .ok (.getfield 19, 3) := by decide +kernel
theorem dX4_readAll_8 : decode cX4_readAll 8 = .ok (.istore_n 1, 1) := by decide +kernel
theorem dX4_readAll_9 : decode cX4_readAll 9 = .ok (.iload_n 1, 1) := by decide +kernel
theorem dX4_readAll_10 : decode cX4_readAll 10 = .ok (.ifCond .eq 13, 3) := by decide +kernel
theorem dX4_readAll_13 : decode cX4_readAll 13 = .ok (.aload_n 0, 1) := by decide +kernel
theorem dX4_readAll_14 : decode cX4_readAll 14 = .ok (.iload_n 1, 1) := by decide +kernel
theorem dX4_readAll_15 : decode cX4_readAll 15 = .ok (.invokevirtual 31, 3) := by decide +kernel
theorem dX4_readAll_18 : decode cX4_readAll 18 = .ok (.bipush 32, 2) := by decide +kernel
theorem dX4_readAll_20 : decode cX4_readAll 20 = .ok (.if_icmp .eq 5, 3) := by decide +kernel
theorem dX4_readAll_23 : decode cX4_readAll 23 = .ok (.iload_n 1, 1) := by decide +kernel
theorem dX4_readAll_24 : decode cX4_readAll 24 = .ok (.ireturn, 1) := by decide +kernel
theorem dX4_readAll_25 : decode cX4_readAll 25 = .ok (.iinc 1 1, 3) := by decide +kernel
theorem dX4_readAll_28 : decode cX4_readAll 28 = .ok (.aload_n 0, 1) := by decide +kernel
theorem dX4_readAll_29 : decode cX4_readAll 29 = .ok (.iload_n 1, 1) := by decide +kernel
theorem dX4_readAll_30 : decode cX4_readAll 30 = .ok (.bipush 48, 2) := by decide +kernel
theorem dX4_readAll_32 : decode cX4_readAll 32 = .ok (.bipush 52, 2) := by decide +kernel
theorem dX4_readAll_34 : decode cX4_readAll 34 = .ok (.invokevirtual 35, 3) := by decide +kernel
theorem dX4_readAll_37 : decode cX4_readAll 37 = .ok (.ifCond .ne 5, 3) := by decide +kernel
theorem dX4_readAll_40 : decode cX4_readAll 40 = .ok (.iload_n 1, 1) := by decide +kernel
theorem dX4_readAll_41 : decode cX4_readAll 41 = .ok (.ireturn, 1) := by decide +kernel
theorem dX4_readAll_42 : decode cX4_readAll 42 = .ok (.aload_n 0, 1) := by decide +kernel
theorem dX4_readAll_43 : decode cX4_readAll 43 = .ok (.aload_n 0, 1) := by decide +kernel
theorem dX4_readAll_44 : decode cX4_readAll 44 = .ok (.iload_n 1, 1) := by decide +kernel
theorem dX4_readAll_45 : decode cX4_readAll 45 = .ok (.invokevirtual 31, 3) := by decide +kernel
theorem dX4_readAll_48 : decode cX4_readAll 48 = .ok (.bipush 48, 2) := by decide +kernel
theorem dX4_readAll_50 : decode cX4_readAll 50 = .ok (.isub, 1) := by decide +kernel
theorem dX4_readAll_51 : decode cX4_readAll 51 = .ok (.putfield 22, 3) := by decide +kernel
theorem dX4_readAll_54 : decode cX4_readAll 54 = .ok (.iinc 1 1, 3) := by decide +kernel
theorem dX4_readAll_57 : decode cX4_readAll 57 = .ok (.aload_n 0, 1) := by decide +kernel
theorem dX4_readAll_58 : decode cX4_readAll 58 = .ok (.iload_n 1, 1) := by decide +kernel
theorem dX4_readAll_59 : decode cX4_readAll 59 = .ok (.invokevirtual 31, 3) := by decide +kernel
theorem dX4_readAll_62 : decode cX4_readAll 62 = .ok (.bipush 32, 2) := by decide +kernel
theorem dX4_readAll_64 : decode cX4_readAll 64 = .ok (.if_icmp .eq 5, 3) := by decide +kernel
theorem dX4_readAll_67 : decode cX4_readAll 67 = .ok (.iload_n 1, 1) := by decide +kernel
theorem dX4_readAll_68 : decode cX4_readAll 68 = .ok (.ireturn, 1) := by decide +kernel
theorem dX4_readAll_69 : decode cX4_readAll 69 = .ok (.aload_n 0, 1) := by decide +kernel
theorem dX4_readAll_70 : decode cX4_readAll 70 = .ok (.iload_n 1, 1) := by decide +kernel
theorem dX4_readAll_71 : decode cX4_readAll 71 = .ok (.iconst 1, 1) := by decide +kernel
theorem dX4_readAll_72 : decode cX4_readAll 72 = .ok (.iadd, 1) := by decide +kernel
theorem dX4_readAll_73 : decode cX4_readAll 73 = .ok (.invokevirtual 39, 3) := by decide +kernel
theorem dX4_readAll_76 : decode cX4_readAll 76 = .ok (.ireturn, 1) := by decide +kernel
theorem dX4_readName_0 : decode cX4_readName 0 = .ok (.iconst 0, 1) := by decide +kernel
theorem dX4_readName_1 : decode cX4_readName 1 = .ok (.istore_n 1, 1) := by decide +kernel
theorem dX4_readName_2 : decode cX4_readName 2 = .ok (.iload_n 1, 1) := by decide +kernel
theorem dX4_readName_3 : decode cX4_readName 3 = .ok (.bipush 12, 2) := by decide +kernel
theorem dX4_readName_5 : decode cX4_readName 5 = .ok (.if_icmp .ge 21, 3) := by decide +kernel
theorem dX4_readName_8 : decode cX4_readName 8 = .ok (.aload_n 0, 1) := by decide +kernel
theorem dX4_readName_9 : decode cX4_readName 9 = .ok (.iload_n 1, 1) := by decide +kernel
theorem dX4_readName_10 : decode cX4_readName 10 = .ok (.bipush 97, 2) := by decide +kernel
theorem dX4_readName_12 : decode cX4_readName 12 = .ok (.bipush 122, 2) := by decide +kernel
theorem dX4_readName_14 : decode cX4_readName 14 = .ok (.invokevirtual 35, 3) := by decide +kernel
theorem dX4_readName_17 : decode cX4_readName 17 = .ok (.ifCond .eq 9, 3) := by decide +kernel
theorem dX4_readName_20 : decode cX4_readName 20 = .ok (.iinc 1 1, 3) := by decide +kernel
theorem dX4_readName_23 : decode cX4_readName 23 = .ok (.goto (-21), 3) := by decide +kernel
theorem dX4_readName_26 : decode cX4_readName 26 = .ok (.aload_n 0, 1) := by decide +kernel
theorem dX4_readName_27 : decode cX4_readName 27 = .ok (.iload_n 1, 1) := by decide +kernel
theorem dX4_readName_28 : decode cX4_readName 28 = .ok (.putfield 19, 3) := by decide +kernel
theorem dX4_readName_31 : decode cX4_readName 31 = .ok (.return_, 1) := by decide +kernel
theorem dX4_readYear_0 : decode cX4_readYear 0 = .ok (.iload_n 1, 1) := by decide +kernel
theorem dX4_readYear_1 : decode cX4_readYear 1 = .ok (.istore_n 2, 1) := by decide +kernel
theorem dX4_readYear_2 : decode cX4_readYear 2 = .ok (.aload_n 0, 1) := by decide +kernel
theorem dX4_readYear_3 : decode cX4_readYear 3 = .ok (.iconst 0, 1) := by decide +kernel
theorem dX4_readYear_4 : decode cX4_readYear 4 = .ok (.putfield 25, 3) := by decide +kernel
theorem dX4_readYear_7 : decode cX4_readYear 7 = .ok (.iload_n 2, 1) := by decide +kernel
theorem dX4_readYear_8 : decode cX4_readYear 8 = .ok (.iload_n 1, 1) := by decide +kernel
theorem dX4_readYear_9 : decode cX4_readYear 9 = .ok (.iconst 5, 1) := by decide +kernel
theorem dX4_readYear_10 : decode cX4_readYear 10 = .ok (.iadd, 1) := by decide +kernel
theorem dX4_readYear_11 : decode cX4_readYear 11 = .ok (.if_icmp .ge 41, 3) := by decide +kernel
theorem dX4_readYear_14 : decode cX4_readYear 14 = .ok (.aload_n 0, 1) := by decide +kernel
theorem dX4_readYear_15 : decode cX4_readYear 15 = .ok (.iload_n 2, 1) := by decide +kernel
theorem dX4_readYear_16 : decode cX4_readYear 16 = .ok (.bipush 48, 2) := by decide +kernel
theorem dX4_readYear_18 : decode cX4_readYear 18 = .ok (.bipush 57, 2) := by decide +kernel
theorem dX4_readYear_20 : decode cX4_readYear 20 = .ok (.invokevirtual 35, 3) := by decide +kernel
theorem dX4_readYear_23 : decode cX4_readYear 23 = .ok (.ifCond .eq 29, 3) := by decide +kernel
theorem dX4_readYear_26 : decode cX4_readYear 26 = .ok (.aload_n 0, 1) := by decide +kernel
theorem dX4_readYear_27 : decode cX4_readYear 27 = .ok (.aload_n 0, 1) := by decide +kernel
theorem dX4_readYear_28 : decode cX4_readYear 28 = .ok (.getfield 25, 3) := by decide +kernel
theorem dX4_readYear_31 : decode cX4_readYear 31 = .ok (.bipush 10, 2) := by decide +kernel
theorem dX4_readYear_33 : decode cX4_readYear 33 = .ok (.imul, 1) := by decide +kernel
theorem dX4_readYear_34 : decode cX4_readYear 34 = .ok (.aload_n 0, 1) := by decide +kernel
theorem dX4_readYear_35 : decode cX4_readYear 35 = .ok (.iload_n 2, 1) := by decide +kernel
theorem dX4_readYear_36 : decode cX4_readYear 36 = .ok (.invokevirtual 31, 3) := by decide +kernel
theorem dX4_readYear_39 : decode cX4_readYear 39 = .ok (.iadd, 1) := by decide +kernel
theorem dX4_readYear_40 : decode cX4_readYear 40 = .ok (.bipush 48, 2) := by decide +kernel
theorem dX4_readYear_42 : decode cX4_readYear 42 = .ok (.isub, 1) := by decide +kernel
theorem dX4_readYear_43 : decode cX4_readYear 43 = .ok (.putfield 25, 3) := by decide +kernel
theorem dX4_readYear_46 : decode cX4_readYear 46 = .ok (.iinc 2 1, 3) := by decide +kernel
theorem dX4_readYear_49 : decode cX4_readYear 49 = .ok (.goto (-42), 3) := by decide +kernel
theorem dX4_readYear_52 : decode cX4_readYear 52 = .ok (.iload_n 2, 1) := by decide +kernel
theorem dX4_readYear_53 : decode cX4_readYear 53 = .ok (.iload_n 1, 1) := by decide +kernel
theorem dX4_readYear_54 : decode cX4_readYear 54 = .ok (.if_icmp .eq 11, 3) := by decide +kernel
theorem dX4_readYear_57 : decode cX4_readYear 57 = .ok (.iload_n 2, 1) := by decide +kernel
theorem dX4_readYear_58 : decode cX4_readYear 58 = .ok (.aload_n 0, 1) := by decide +kernel
theorem dX4_readYear_59 : decode cX4_readYear 59 = .ok (.getfield 9, 3) := by decide +kernel
theorem dX4_readYear_62 : decode cX4_readYear 62 = .ok (.if_icmp .ge 7, 3) := by decide +kernel
theorem dX4_readYear_65 : decode cX4_readYear 65 = .ok (.iload_n 2, 1) := by decide +kernel
theorem dX4_readYear_66 : decode cX4_readYear 66 = .ok (.goto 4, 3) := by decide +kernel
theorem dX4_readYear_69 : decode cX4_readYear 69 = .ok (.iconst (-1), 1) := by decide +kernel
theorem dX4_readYear_70 : decode cX4_readYear 70 = .ok (.ireturn, 1) := by decide +kernel
theorem dX4_isAmong_0 : decode cX4_isAmong 0 = .ok (.aload_n 0, 1) := by decide +kernel
theorem dX4_isAmong_1 : decode cX4_isAmong 1 = .ok (.iload_n 1, 1) := by decide +kernel
theorem dX4_isAmong_2 : decode cX4_isAmong 2 = .ok (.invokevirtual 31, 3) := by decide +kernel
theorem dX4_isAmong_5 : decode cX4_isAmong 5 = .ok (.istore 4, 2) := by decide +kernel
theorem dX4_isAmong_7 : decode cX4_isAmong 7 = .ok (.iload 4, 2) := by decide +kernel
theorem dX4_isAmong_9 : decode cX4_isAmong 9 = .ok (.iload_n 2, 1) := by decide +kernel
theorem dX4_isAmong_10 : decode cX4_isAmong 10 = .ok (.if_icmp .lt 13, 3) := by decide +kernel
theorem dX4_isAmong_13 : decode cX4_isAmong 13 = .ok (.iload 4, 2) := by decide +kernel
theorem dX4_isAmong_15 : decode cX4_isAmong 15 = .ok (.iload_n 3, 1) := by decide +kernel
theorem dX4_isAmong_16 : decode cX4_isAmong 16 = .ok (.if_icmp .gt 7, 3) := by decide +kernel
theorem dX4_isAmong_19 : decode cX4_isAmong 19 = .ok (.iconst 1, 1) := by decide +kernel
theorem dX4_isAmong_20 : decode cX4_isAmong 20 = .ok (.goto 4, 3) := by decide +kernel
theorem dX4_isAmong_23 : decode cX4_isAmong 23 = .ok (.iconst 0, 1) := by decide +kernel
theorem dX4_isAmong_24 : decode cX4_isAmong 24 = .ok (.ireturn, 1) := by decide +kernel
theorem dX5_init_0 : decode cX5_init 0 = .ok (.aload_n 0, 1) := by decide +kernel
theorem dX5_init_1 : decode cX5_init 1 = .ok (.invokespecial 1, 3) := by decide +kernel
theorem dX5_init_4 : decode cX5_init 4 = .ok (.aload_n 0, 1) := by decide +kernel
theorem dX5_init_5 : decode cX5_init 5 = .ok (.new 7, 3) := by decide +kernel
theorem dX5_init_8 : decode cX5_init 8 = .ok (.dup, 1) := by decide +kernel
theorem dX5_init_9 : decode cX5_init 9 = .ok (.invokespecial 9, 3) := by decide +kernel
theorem dX5_init_12 : decode cX5_init 12 = .ok (.putfield 10, 3) := by decide +kernel
theorem dX5_init_15 : decode cX5_init 15 = .ok (.aload_n 0, 1) := by decide +kernel
theorem dX5_init_16 : decode cX5_init 16 = .ok (.new 16, 3) := by decide +kernel
theorem dX5_init_19 : decode cX5_init 19 = .ok (.dup, 1) := by decide +kernel
theorem dX5_init_20 : decode cX5_init 20 = .ok (.invokespecial 18, 3) := by decide +kernel
theorem dX5_init_23 : decode cX5_init 23 = .ok (.putfield 19, 3) := by decide +kernel
theorem dX5_init_26 : decode cX5_init 26 = .ok (.aload_n 0, 1) := by decide +kernel
theorem dX5_init_27 : decode cX5_init 27 = .ok (.new 23, 3) := by decide +kernel
theorem dX5_init_30 : decode cX5_init 30 = .ok (.dup, 1) := by decide +kernel
theorem dX5_init_31 : decode cX5_init 31 = .ok (.invokespecial 25, 3) := by decide +kernel
theorem dX5_init_34 : decode cX5_init 34 = .ok (.putfield 26, 3) := by decide +kernel
theorem dX5_init_37 : decode cX5_init 37 = .ok (.aload_n 0, 1) := by decide +kernel
theorem dX5_init_38 : decode cX5_init 38 = .ok (.new 30, 3) := by decide +kernel
theorem dX5_init_41 : decode cX5_init 41 = .ok (.dup, 1) := by decide +kernel
theorem dX5_init_42 : decode cX5_init 42 = .ok (.invokespecial 32, 3) := by decide +kernel
theorem dX5_init_45 : decode cX5_init 45 = .ok (.putfield 33, 3) := by decide +kernel
theorem dX5_init_48 : decode cX5_init 48 = .ok (.aload_n 0, 1) := by decide +kernel
theorem dX5_init_49 : decode cX5_init 49 = .ok (.new 37, 3) := by decide +kernel
theorem dX5_init_52 : decode cX5_init 52 = .ok (.dup, 1) := by decide +kernel
theorem dX5_init_53 : decode cX5_init 53 = .ok (.invokespecial 39, 3) := by decide +kernel
theorem dX5_init_56 : decode cX5_init 56 = .ok (.putfield 40, 3) := by decide +kernel
theorem dX5_init_59 : decode cX5_init 59 = .ok (.aload_n 0, 1) := by decide +kernel
theorem dX5_init_60 : decode cX5_init 60 = .ok (.iconst 5, 1) := by decide +kernel
theorem dX5_init_61 : decode cX5_init 61 = .ok (.newarray .int, 2) := by decide +kernel
theorem dX5_init_63 : decode cX5_init 63 = .ok (.putfield 44, 3) := by decide +kernel
theorem dX5_init_66 : decode cX5_init 66 = .ok (.iconst 0, 1) := by decide +kernel
theorem dX5_init_67 : decode cX5_init 67 = .ok (.istore_n 1, 1) := by decide +kernel
theorem dX5_init_68 : decode cX5_init 68 = .ok (.iload_n 1, 1) := by decide +kernel
theorem dX5_init_69 : decode cX5_init 69 = .ok (.iconst 5, 1) := by decide +kernel
theorem dX5_init_70 : decode cX5_init 70 = .ok (.if_icmp .ge 17, 3) := by decide +kernel
theorem dX5_init_73 : decode cX5_init 73 = .ok (.aload_n 0, 1) := by decide +kernel
theorem dX5_init_74 : decode cX5_init 74 = .ok (.getfield 44, 3) := by decide +kernel
theorem dX5_init_77 : decode cX5_init 77 = .ok (.iload_n 1, 1) := by decide +kernel
theorem dX5_init_78 : decode cX5_init 78 = .ok (.bipush 30, 2) := by decide +kernel
theorem dX5_init_80 : decode cX5_init 80 = .ok (.iastore, 1) := by decide +kernel
theorem dX5_init_81 : decode cX5_init 81 = .ok (.iinc 1 1, 3) := by decide +kernel
theorem dX5_init_84 : decode cX5_init 84 = .ok (.goto (-16), 3) := by decide +kernel
theorem dX5_init_87 : decode cX5_init 87 = .ok (.return_, 1) := by decide +kernel
theorem dX5_reader_0 : decode cX5_reader 0 = .ok (.iload_n 1, 1) := by decide +kernel
theorem dX5_reader_1 : decode cX5_reader 1 = .ok (.invokestatic 48, 3) := by decide +kernel
theorem dX5_reader_4 : decode cX5_reader 4 = .ok (.ifCond .ne 5, 3) := by decide +kernel
theorem dX5_reader_7 : decode cX5_reader 7 = .ok (.iconst 0, 1) := by decide +kernel
theorem dX5_reader_8 : decode cX5_reader 8 = .ok (.ireturn, 1) := by decide +kernel
theorem dX5_reader_9 : decode cX5_reader 9 = .ok (.iload_n 2, 1) := by decide +kernel
theorem dX5_reader_10 : decode cX5_reader 10 = .ok (.ifCond .ne 13, 3) := by decide +kernel
theorem dX5_reader_13 : decode cX5_reader 13 = .ok (.aload_n 0, 1) := by decide +kernel
theorem dX5_reader_14 : decode cX5_reader 14 = .ok (.getfield 10, 3) := by decide +kernel
theorem dX5_reader_17 : decode cX5_reader 17 = .ok (.iload_n 1, 1) := by decide +kernel
theorem dX5_reader_18 : decode cX5_reader 18 = .ok (.iconst 0, 1) := by decide +kernel
theorem dX5_reader_19 : decode cX5_reader 19 = .ok (.invokevirtual 52, 3) := by decide +kernel
theorem dX5_reader_22 : decode cX5_reader 22 = .ok (.ireturn, 1) := by decide +kernel
theorem dX5_reader_23 : decode cX5_reader 23 = .ok (.aload_n 0, 1) := by decide +kernel
theorem dX5_reader_24 : decode cX5_reader 24 = .ok (.getfield 10, 3) := by decide +kernel
theorem dX5_reader_27 : decode cX5_reader 27 = .ok (.iload_n 2, 1) := by decide +kernel
theorem dX5_reader_28 : decode cX5_reader 28 = .ok (.invokevirtual 56, 3) := by decide +kernel
theorem dX5_reader_31 : decode cX5_reader 31 = .ok (.istore_n 3, 1) := by decide +kernel
theorem dX5_reader_32 : decode cX5_reader 32 = .ok (.iload_n 3, 1) := by decide +kernel
theorem dX5_reader_33 : decode cX5_reader 33 = .ok (.ifCond .eq 14, 3) := by decide +kernel
theorem dX5_reader_36 : decode cX5_reader 36 = .ok (.aload_n 0, 1) := by decide +kernel
theorem dX5_reader_37 : decode cX5_reader 37 = .ok (.getfield 10, 3) := by decide +kernel
theorem dX5_reader_40 : decode cX5_reader 40 = .ok (.iload_n 3, 1) := by decide +kernel
theorem dX5_reader_41 : decode cX5_reader 41 = .ok (.invokevirtual 60, 3) := by decide +kernel
theorem dX5_reader_44 : decode cX5_reader 44 = .ok (.ifCond .eq 5, 3) := by decide +kernel
theorem dX5_reader_47 : decode cX5_reader 47 = .ok (.iconst 0, 1) := by decide +kernel
theorem dX5_reader_48 : decode cX5_reader 48 = .ok (.ireturn, 1) := by decide +kernel
theorem dX5_reader_49 : decode cX5_reader 49 = .ok (.aload_n 0, 1) := by decide +kernel
theorem dX5_reader_50 : decode cX5_reader 50 = .ok (.getfield 10, 3) := by decide +kernel
theorem dX5_reader_53 : decode cX5_reader 53 = .ok (.iload_n 1, 1) := by decide +kernel
theorem dX5_reader_54 : decode cX5_reader 54 = .ok (.iload_n 3, 1) := by decide +kernel
theorem dX5_reader_55 : decode cX5_reader 55 = .ok (.invokevirtual 52, 3) := by decide +kernel
theorem dX5_reader_58 : decode cX5_reader 58 = .ok (.ireturn, 1) := by decide +kernel
theorem dX5_card_0 : decode cX5_card 0 = .ok (.aload_n 0, 1) := by decide +kernel
theorem dX5_card_1 : decode cX5_card 1 = .ok (.getfield 10, 3) := by decide +kernel
theorem dX5_card_4 : decode cX5_card 4 = .ok (.iload_n 1, 1) := by decide +kernel
theorem dX5_card_5 : decode cX5_card 5 = .ok (.invokevirtual 56, 3) := by decide +kernel
theorem dX5_card_8 : decode cX5_card 8 = .ok (.istore_n 3, 1) := by decide +kernel
theorem dX5_card_9 : decode cX5_card 9 = .ok (.iload_n 3, 1) := by decide +kernel
theorem dX5_card_10 : decode cX5_card 10 = .ok (.ifCond .eq 15, 3) := by decide +kernel
theorem dX5_card_13 : decode cX5_card 13 = .ok (.aload_n 0, 1) := by decide +kernel
theorem dX5_card_14 : decode cX5_card 14 = .ok (.getfield 26, 3) := by decide +kernel
theorem dX5_card_17 : decode cX5_card 17 = .ok (.iload_n 3, 1) := by decide +kernel
theorem dX5_card_18 : decode cX5_card 18 = .ok (.invokevirtual 63, 3) := by decide +kernel
theorem dX5_card_21 : decode cX5_card 21 = .ok (.iconst 5, 1) := by decide +kernel
theorem dX5_card_22 : decode cX5_card 22 = .ok (.if_icmp .lt 5, 3) := by decide +kernel
theorem dX5_card_25 : decode cX5_card 25 = .ok (.iconst 0, 1) := by decide +kernel
theorem dX5_card_26 : decode cX5_card 26 = .ok (.ireturn, 1) := by decide +kernel
theorem dX5_card_27 : decode cX5_card 27 = .ok (.aload_n 0, 1) := by decide +kernel
theorem dX5_card_28 : decode cX5_card 28 = .ok (.getfield 26, 3) := by decide +kernel
theorem dX5_card_31 : decode cX5_card 31 = .ok (.iload_n 2, 1) := by decide +kernel
theorem dX5_card_32 : decode cX5_card 32 = .ok (.invokevirtual 66, 3) := by decide +kernel
theorem dX5_card_35 : decode cX5_card 35 = .ok (.ifCond .eq 5, 3) := by decide +kernel
theorem dX5_card_38 : decode cX5_card 38 = .ok (.iconst (-1), 1) := by decide +kernel
theorem dX5_card_39 : decode cX5_card 39 = .ok (.ireturn, 1) := by decide +kernel
theorem dX5_card_40 : decode cX5_card 40 = .ok (.aload_n 0, 1) := by decide +kernel
theorem dX5_card_41 : decode cX5_card 41 = .ok (.getfield 26, 3) := by decide +kernel
theorem dX5_card_44 : decode cX5_card 44 = .ok (.iload_n 3, 1) := by decide +kernel
theorem dX5_card_45 : decode cX5_card 45 = .ok (.iload_n 2, 1) := by decide +kernel
theorem dX5_card_46 : decode cX5_card 46 = .ok (.invokevirtual 69, 3) := by decide +kernel
theorem dX5_card_49 : decode cX5_card 49 = .ok (.aload_n 0, 1) := by decide +kernel
theorem dX5_card_50 : decode cX5_card 50 = .ok (.getfield 26, 3) := by decide +kernel
theorem dX5_card_53 : decode cX5_card 53 = .ok (.iload_n 3, 1) := by decide +kernel
theorem dX5_card_54 : decode cX5_card 54 = .ok (.invokevirtual 63, 3) := by decide +kernel
theorem dX5_card_57 : decode cX5_card 57 = .ok (.ireturn, 1) := by decide +kernel
theorem dX5_whose_0 : decode cX5_whose 0 = .ok (.aload_n 0, 1) := by decide +kernel
theorem dX5_whose_1 : decode cX5_whose 1 = .ok (.getfield 26, 3) := by decide +kernel
theorem dX5_whose_4 : decode cX5_whose 4 = .ok (.iload_n 1, 1) := by decide +kernel
theorem dX5_whose_5 : decode cX5_whose 5 = .ok (.invokevirtual 72, 3) := by decide +kernel
theorem dX5_whose_8 : decode cX5_whose 8 = .ok (.ireturn, 1) := by decide +kernel
theorem dX5_lost_0 : decode cX5_lost 0 = .ok (.aload_n 0, 1) := by decide +kernel
theorem dX5_lost_1 : decode cX5_lost 1 = .ok (.getfield 26, 3) := by decide +kernel
theorem dX5_lost_4 : decode cX5_lost 4 = .ok (.iload_n 1, 1) := by decide +kernel
theorem dX5_lost_5 : decode cX5_lost 5 = .ok (.invokevirtual 72, 3) := by decide +kernel
theorem dX5_lost_8 : decode cX5_lost 8 = .ok (.istore_n 3, 1) := by decide +kernel
theorem dX5_lost_9 : decode cX5_lost 9 = .ok (.iload_n 3, 1) := by decide +kernel
theorem dX5_lost_10 : decode cX5_lost 10 = .ok (.ifCond .ne 5, 3) := by decide +kernel
theorem dX5_lost_13 : decode cX5_lost 13 = .ok (.iconst 0, 1) := by decide +kernel
theorem dX5_lost_14 : decode cX5_lost 14 = .ok (.ireturn, 1) := by decide +kernel
theorem dX5_lost_15 : decode cX5_lost 15 = .ok (.aload_n 0, 1) := by decide +kernel
theorem dX5_lost_16 : decode cX5_lost 16 = .ok (.getfield 26, 3) := by decide +kernel
theorem dX5_lost_19 : decode cX5_lost 19 = .ok (.iload_n 2, 1) := by decide +kernel
theorem dX5_lost_20 : decode cX5_lost 20 = .ok (.invokevirtual 66, 3) := by decide +kernel
theorem dX5_lost_23 : decode cX5_lost 23 = .ok (.ifCond .eq 5, 3) := by decide +kernel
theorem dX5_lost_26 : decode cX5_lost 26 = .ok (.iconst (-1), 1) := by decide +kernel
theorem dX5_lost_27 : decode cX5_lost 27 = .ok (.ireturn, 1) := by decide +kernel
theorem dX5_lost_28 : decode cX5_lost 28 = .ok (.aload_n 0, 1) := by decide +kernel
theorem dX5_lost_29 : decode cX5_lost 29 = .ok (.getfield 26, 3) := by decide +kernel
theorem dX5_lost_32 : decode cX5_lost 32 = .ok (.iload_n 3, 1) := by decide +kernel
theorem dX5_lost_33 : decode cX5_lost 33 = .ok (.invokevirtual 63, 3) := by decide +kernel
theorem dX5_lost_36 : decode cX5_lost 36 = .ok (.iconst 5, 1) := by decide +kernel
theorem dX5_lost_37 : decode cX5_lost 37 = .ok (.if_icmp .lt 6, 3) := by decide +kernel
theorem dX5_lost_40 : decode cX5_lost 40 = .ok (.bipush (-2), 2) := by decide +kernel
theorem dX5_lost_42 : decode cX5_lost 42 = .ok (.ireturn, 1) := by decide +kernel
theorem dX5_lost_43 : decode cX5_lost 43 = .ok (.aload_n 0, 1) := by decide +kernel
theorem dX5_lost_44 : decode cX5_lost 44 = .ok (.getfield 26, 3) := by decide +kernel
theorem dX5_lost_47 : decode cX5_lost 47 = .ok (.iload_n 1, 1) := by decide +kernel
theorem dX5_lost_48 : decode cX5_lost 48 = .ok (.invokevirtual 75, 3) := by decide +kernel
theorem dX5_lost_51 : decode cX5_lost 51 = .ok (.aload_n 0, 1) := by decide +kernel
theorem dX5_lost_52 : decode cX5_lost 52 = .ok (.getfield 26, 3) := by decide +kernel
theorem dX5_lost_55 : decode cX5_lost 55 = .ok (.iload_n 3, 1) := by decide +kernel
theorem dX5_lost_56 : decode cX5_lost 56 = .ok (.iload_n 2, 1) := by decide +kernel
theorem dX5_lost_57 : decode cX5_lost 57 = .ok (.invokevirtual 69, 3) := by decide +kernel
theorem dX5_lost_60 : decode cX5_lost 60 = .ok (.iload_n 3, 1) := by decide +kernel
theorem dX5_lost_61 : decode cX5_lost 61 = .ok (.ireturn, 1) := by decide +kernel
theorem dX5_block_0 : decode cX5_block 0 = .ok (.aload_n 0, 1) := by decide +kernel
theorem dX5_block_1 : decode cX5_block 1 = .ok (.getfield 10, 3) := by decide +kernel
theorem dX5_block_4 : decode cX5_block 4 = .ok (.iload_n 1, 1) := by decide +kernel
theorem dX5_block_5 : decode cX5_block 5 = .ok (.invokevirtual 56, 3) := by decide +kernel
theorem dX5_block_8 : decode cX5_block 8 = .ok (.istore 5, 2) := by decide +kernel
theorem dX5_block_10 : decode cX5_block 10 = .ok (.iload 5, 2) := by decide +kernel
theorem dX5_block_12 : decode cX5_block 12 = .ok (.ifCond .eq 20, 3) := by decide +kernel
theorem dX5_block_15 : decode cX5_block 15 = .ok (.iload_n 2, 1) := by decide +kernel
theorem dX5_block_16 : decode cX5_block 16 = .ok (.ifCond .lt 16, 3) := by decide +kernel
theorem dX5_block_19 : decode cX5_block 19 = .ok (.iload_n 2, 1) := by decide +kernel
theorem dX5_block_20 : decode cX5_block 20 = .ok (.bipush 6, 2) := by decide +kernel
theorem dX5_block_22 : decode cX5_block 22 = .ok (.if_icmp .ge 10, 3) := by decide +kernel
theorem dX5_block_25 : decode cX5_block 25 = .ok (.lload_n 3, 1) := by decide +kernel
theorem dX5_block_26 : decode cX5_block 26 = .ok (.invokestatic 79, 3) := by decide +kernel
theorem dX5_block_29 : decode cX5_block 29 = .ok (.ifCond .ne 5, 3) := by decide +kernel
theorem dX5_block_32 : decode cX5_block 32 = .ok (.iconst 0, 1) := by decide +kernel
theorem dX5_block_33 : decode cX5_block 33 = .ok (.ireturn, 1) := by decide +kernel
theorem dX5_block_34 : decode cX5_block 34 = .ok (.aload_n 0, 1) := by decide +kernel
theorem dX5_block_35 : decode cX5_block 35 = .ok (.getfield 10, 3) := by decide +kernel
theorem dX5_block_38 : decode cX5_block 38 = .ok (.iload 5, 2) := by decide +kernel
theorem dX5_block_40 : decode cX5_block 40 = .ok (.iload_n 2, 1) := by decide +kernel
theorem dX5_block_41 : decode cX5_block 41 = .ok (.lload_n 3, 1) := by decide +kernel
theorem dX5_block_42 : decode cX5_block 42 = .ok (.invokevirtual 83, 3) := by decide +kernel
theorem dX5_block_45 : decode cX5_block 45 = .ok (.iconst 1, 1) := by decide +kernel
theorem dX5_block_46 : decode cX5_block 46 = .ok (.ireturn, 1) := by decide +kernel
theorem dX5_blocked_0 : decode cX5_blocked 0 = .ok (.aload_n 0, 1) := by decide +kernel
theorem dX5_blocked_1 : decode cX5_blocked 1 = .ok (.getfield 10, 3) := by decide +kernel
theorem dX5_blocked_4 : decode cX5_blocked 4 = .ok (.iload_n 1, 1) := by decide +kernel
theorem dX5_blocked_5 : decode cX5_blocked 5 = .ok (.invokevirtual 56, 3) := by decide +kernel
theorem dX5_blocked_8 : decode cX5_blocked 8 = .ok (.istore 4, 2) := by decide +kernel
theorem dX5_blocked_10 : decode cX5_blocked 10 = .ok (.iload 4, 2) := by decide +kernel
theorem dX5_blocked_12 : decode cX5_blocked 12 = .ok (.ifCond .ne 5, 3) := by decide +kernel
theorem dX5_blocked_15 : decode cX5_blocked 15 = .ok (.iconst (-1), 1) := by decide +kernel
theorem dX5_blocked_16 : decode cX5_blocked 16 = .ok (.ireturn, 1) := by decide +kernel
theorem dX5_blocked_17 : decode cX5_blocked 17 = .ok (.aload_n 0, 1) := by decide +kernel
theorem dX5_blocked_18 : decode cX5_blocked 18 = .ok (.getfield 10, 3) := by decide +kernel
theorem dX5_blocked_21 : decode cX5_blocked 21 = .ok (.iload 4, 2) := by decide +kernel
theorem dX5_blocked_23 : decode cX5_blocked 23 = .ok (.invokevirtual 60, 3) := by decide +kernel
theorem dX5_blocked_26 : decode cX5_blocked 26 = .ok (.istore 5, 2) := by decide +kernel
theorem dX5_blocked_28 : decode cX5_blocked 28 = .ok (.iconst 0, 1) := by decide +kernel
theorem dX5_blocked_29 : decode cX5_blocked 29 = .ok (.istore 6, 2) := by decide +kernel
theorem dX5_blocked_31 : decode cX5_blocked 31 = .ok (.iload 6, 2) := by decide +kernel
theorem dX5_blocked_33 : decode cX5_blocked 33 = .ok (.bipush 6, 2) := by decide +kernel
theorem dX5_blocked_35 : decode cX5_blocked 35 = .ok (.if_icmp .ge 50, 3) := by decide +kernel
theorem dX5_blocked_38 : decode cX5_blocked 38 = .ok (.aload_n 0, 1) := by decide +kernel
theorem dX5_blocked_39 : decode cX5_blocked 39 = .ok (.getfield 10, 3) := by decide +kernel
theorem dX5_blocked_42 : decode cX5_blocked 42 = .ok (.iload 4, 2) := by decide +kernel
theorem dX5_blocked_44 : decode cX5_blocked 44 = .ok (.iload 6, 2) := by decide +kernel
theorem dX5_blocked_46 : decode cX5_blocked 46 = .ok (.lload_n 2, 1) := by decide +kernel
theorem dX5_blocked_47 : decode cX5_blocked 47 = .ok (.invokevirtual 87, 3) := by decide +kernel
theorem dX5_blocked_50 : decode cX5_blocked 50 = .ok (.ifCond .eq 6, 3) := by decide +kernel
theorem dX5_blocked_53 : decode cX5_blocked 53 = .ok (.iload 6, 2) := by decide +kernel
theorem dX5_blocked_55 : decode cX5_blocked 55 = .ok (.ireturn, 1) := by decide +kernel
theorem dX5_blocked_56 : decode cX5_blocked 56 = .ok (.iload 5, 2) := by decide +kernel
theorem dX5_blocked_58 : decode cX5_blocked 58 = .ok (.ifCond .eq 21, 3) := by decide +kernel
theorem dX5_blocked_61 : decode cX5_blocked 61 = .ok (.aload_n 0, 1) := by decide +kernel
theorem dX5_blocked_62 : decode cX5_blocked 62 = .ok (.getfield 10, 3) := by decide +kernel
theorem dX5_blocked_65 : decode cX5_blocked 65 = .ok (.iload 5, 2) := by decide +kernel
theorem dX5_blocked_67 : decode cX5_blocked 67 = .ok (.iload 6, 2) := by decide +kernel
theorem dX5_blocked_69 : decode cX5_blocked 69 = .ok (.lload_n 2, 1) := by decide +kernel
theorem dX5_blocked_70 : decode cX5_blocked 70 = .ok (.invokevirtual 87, 3) := by decide +kernel
theorem dX5_blocked_73 : decode cX5_blocked 73 = .ok (.ifCond .eq 6, 3) := by decide +kernel
theorem dX5_blocked_76 : decode cX5_blocked 76 = .ok (.iload 6, 2) := by decide +kernel
theorem dX5_blocked_78 : decode cX5_blocked 78 = .ok (.ireturn, 1) := by decide +kernel
theorem dX5_blocked_79 : decode cX5_blocked 79 = .ok (.iinc 6 1, 3) := by decide +kernel
theorem dX5_blocked_82 : decode cX5_blocked 82 = .ok (.goto (-51), 3) := by decide +kernel
theorem dX5_blocked_85 : decode cX5_blocked 85 = .ok (.iconst (-1), 1) := by decide +kernel
theorem dX5_blocked_86 : decode cX5_blocked 86 = .ok (.ireturn, 1) := by decide +kernel
theorem dX5_consent_0 : decode cX5_consent 0 = .ok (.aload_n 0, 1) := by decide +kernel
theorem dX5_consent_1 : decode cX5_consent 1 = .ok (.getfield 10, 3) := by decide +kernel
theorem dX5_consent_4 : decode cX5_consent 4 = .ok (.iload_n 1, 1) := by decide +kernel
theorem dX5_consent_5 : decode cX5_consent 5 = .ok (.invokevirtual 56, 3) := by decide +kernel
theorem dX5_consent_8 : decode cX5_consent 8 = .ok (.istore 5, 2) := by decide +kernel
theorem dX5_consent_10 : decode cX5_consent 10 = .ok (.iload 5, 2) := by decide +kernel
theorem dX5_consent_12 : decode cX5_consent 12 = .ok (.ifCond .eq 10, 3) := by decide +kernel
theorem dX5_consent_15 : decode cX5_consent 15 = .ok (.lload_n 3, 1) := by decide +kernel
theorem dX5_consent_16 : decode cX5_consent 16 = .ok (.invokestatic 79, 3) := by decide +kernel
theorem dX5_consent_19 : decode cX5_consent 19 = .ok (.ifCond .ne 5, 3) := by decide +kernel
theorem dX5_consent_22 : decode cX5_consent 22 = .ok (.iconst (-1), 1) := by decide +kernel
theorem dX5_consent_23 : decode cX5_consent 23 = .ok (.ireturn, 1) := by decide +kernel
theorem dX5_consent_24 : decode cX5_consent 24 = .ok (.aload_n 0, 1) := by decide +kernel
theorem dX5_consent_25 : decode cX5_consent 25 = .ok (.getfield 10, 3) := by decide +kernel
theorem dX5_consent_28 : decode cX5_consent 28 = .ok (.iload 5, 2) := by decide +kernel
theorem dX5_consent_30 : decode cX5_consent 30 = .ok (.invokevirtual 91, 3) := by decide +kernel
theorem dX5_consent_33 : decode cX5_consent 33 = .ok (.ifCond .eq 11, 3) := by decide +kernel
theorem dX5_consent_36 : decode cX5_consent 36 = .ok (.iload_n 2, 1) := by decide +kernel
theorem dX5_consent_37 : decode cX5_consent 37 = .ok (.ifCond .ne 7, 3) := by decide +kernel
theorem dX5_consent_40 : decode cX5_consent 40 = .ok (.iconst 1, 1) := by decide +kernel
theorem dX5_consent_41 : decode cX5_consent 41 = .ok (.goto 4, 3) := by decide +kernel
theorem dX5_consent_44 : decode cX5_consent 44 = .ok (.iconst 0, 1) := by decide +kernel
theorem dX5_consent_45 : decode cX5_consent 45 = .ok (.istore 6, 2) := by decide +kernel
theorem dX5_consent_47 : decode cX5_consent 47 = .ok (.aload_n 0, 1) := by decide +kernel
theorem dX5_consent_48 : decode cX5_consent 48 = .ok (.getfield 10, 3) := by decide +kernel
theorem dX5_consent_51 : decode cX5_consent 51 = .ok (.iload 5, 2) := by decide +kernel
theorem dX5_consent_53 : decode cX5_consent 53 = .ok (.iload_n 2, 1) := by decide +kernel
theorem dX5_consent_54 : decode cX5_consent 54 = .ok (.invokevirtual 94, 3) := by decide +kernel
theorem dX5_consent_57 : decode cX5_consent 57 = .ok (.iload 6, 2) := by decide +kernel
theorem dX5_consent_59 : decode cX5_consent 59 = .ok (.ifCond .eq 13, 3) := by decide +kernel
theorem dX5_consent_62 : decode cX5_consent 62 = .ok (.aload_n 0, 1) := by decide +kernel
theorem dX5_consent_63 : decode cX5_consent 63 = .ok (.iload 5, 2) := by decide +kernel
theorem dX5_consent_65 : decode cX5_consent 65 = .ok (.lload_n 3, 1) := by decide +kernel
theorem dX5_consent_66 : decode cX5_consent 66 = .ok (.invokevirtual 98, 3) := by decide +kernel
theorem dX5_consent_69 : decode cX5_consent 69 = .ok (.goto 4, 3) := by decide +kernel
theorem dX5_consent_72 : decode cX5_consent 72 = .ok (.iconst 0, 1) := by decide +kernel
theorem dX5_consent_73 : decode cX5_consent 73 = .ok (.ireturn, 1) := by decide +kernel
theorem dX5_keeps_0 : decode cX5_keeps 0 = .ok (.iload_n 1, 1) := by decide +kernel
theorem dX5_keeps_1 : decode cX5_keeps 1 = .ok (.invokestatic 48, 3) := by decide +kernel
theorem dX5_keeps_4 : decode cX5_keeps 4 = .ok (.ifCond .eq 13, 3) := by decide +kernel
theorem dX5_keeps_7 : decode cX5_keeps 7 = .ok (.iload_n 2, 1) := by decide +kernel
theorem dX5_keeps_8 : decode cX5_keeps 8 = .ok (.ifCond .lt 9, 3) := by decide +kernel
theorem dX5_keeps_11 : decode cX5_keeps 11 = .ok (.iload_n 2, 1) := by decide +kernel
theorem dX5_keeps_12 : decode cX5_keeps 12 = .ok (.ldc 102, 2) := by decide +kernel
theorem dX5_keeps_14 : decode cX5_keeps 14 = .ok (.if_icmp .le 5, 3) := by decide +kernel
theorem dX5_keeps_17 : decode cX5_keeps 17 = .ok (.iconst (-1), 1) := by decide +kernel
theorem dX5_keeps_18 : decode cX5_keeps 18 = .ok (.ireturn, 1) := by decide +kernel
theorem dX5_keeps_19 : decode cX5_keeps 19 = .ok (.aload_n 0, 1) := by decide +kernel
theorem dX5_keeps_20 : decode cX5_keeps 20 = .ok (.getfield 44, 3) := by decide +kernel
theorem dX5_keeps_23 : decode cX5_keeps 23 = .ok (.iload_n 1, 1) := by decide +kernel
theorem dX5_keeps_24 : decode cX5_keeps 24 = .ok (.iaload, 1) := by decide +kernel
theorem dX5_keeps_25 : decode cX5_keeps 25 = .ok (.istore_n 3, 1) := by decide +kernel
theorem dX5_keeps_26 : decode cX5_keeps 26 = .ok (.aload_n 0, 1) := by decide +kernel
theorem dX5_keeps_27 : decode cX5_keeps 27 = .ok (.getfield 44, 3) := by decide +kernel
theorem dX5_keeps_30 : decode cX5_keeps 30 = .ok (.iload_n 1, 1) := by decide +kernel
theorem dX5_keeps_31 : decode cX5_keeps 31 = .ok (.iload_n 2, 1) := by decide +kernel
theorem dX5_keeps_32 : decode cX5_keeps 32 = .ok (.iastore, 1) := by decide +kernel
theorem dX5_keeps_33 : decode cX5_keeps 33 = .ok (.iload_n 3, 1) := by decide +kernel
theorem dX5_keeps_34 : decode cX5_keeps 34 = .ok (.ireturn, 1) := by decide +kernel
theorem dX5_loan_0 : decode cX5_loan 0 = .ok (.aload_n 0, 1) := by decide +kernel
theorem dX5_loan_1 : decode cX5_loan 1 = .ok (.getfield 10, 3) := by decide +kernel
theorem dX5_loan_4 : decode cX5_loan 4 = .ok (.iload_n 1, 1) := by decide +kernel
theorem dX5_loan_5 : decode cX5_loan 5 = .ok (.invokevirtual 56, 3) := by decide +kernel
theorem dX5_loan_8 : decode cX5_loan 8 = .ok (.istore 7, 2) := by decide +kernel
theorem dX5_loan_10 : decode cX5_loan 10 = .ok (.iload 7, 2) := by decide +kernel
theorem dX5_loan_12 : decode cX5_loan 12 = .ok (.ifCond .eq 25, 3) := by decide +kernel
theorem dX5_loan_15 : decode cX5_loan 15 = .ok (.lload_n 3, 1) := by decide +kernel
theorem dX5_loan_16 : decode cX5_loan 16 = .ok (.invokestatic 79, 3) := by decide +kernel
theorem dX5_loan_19 : decode cX5_loan 19 = .ok (.ifCond .eq 18, 3) := by decide +kernel
theorem dX5_loan_22 : decode cX5_loan 22 = .ok (.lload 5, 2) := by decide +kernel
theorem dX5_loan_24 : decode cX5_loan 24 = .ok (.invokestatic 79, 3) := by decide +kernel
theorem dX5_loan_27 : decode cX5_loan 27 = .ok (.ifCond .eq 10, 3) := by decide +kernel
theorem dX5_loan_30 : decode cX5_loan 30 = .ok (.lload_n 3, 1) := by decide +kernel
theorem dX5_loan_31 : decode cX5_loan 31 = .ok (.lload 5, 2) := by decide +kernel
theorem dX5_loan_33 : decode cX5_loan 33 = .ok (.lcmp, 1) := by decide +kernel
theorem dX5_loan_34 : decode cX5_loan 34 = .ok (.ifCond .le 5, 3) := by decide +kernel
theorem dX5_loan_37 : decode cX5_loan 37 = .ok (.iconst 0, 1) := by decide +kernel
theorem dX5_loan_38 : decode cX5_loan 38 = .ok (.ireturn, 1) := by decide +kernel
theorem dX5_loan_39 : decode cX5_loan 39 = .ok (.aload_n 0, 1) := by decide +kernel
theorem dX5_loan_40 : decode cX5_loan 40 = .ok (.getfield 33, 3) := by decide +kernel
theorem dX5_loan_43 : decode cX5_loan 43 = .ok (.iload 7, 2) := by decide +kernel
theorem dX5_loan_45 : decode cX5_loan 45 = .ok (.aload_n 0, 1) := by decide +kernel
theorem dX5_loan_46 : decode cX5_loan 46 = .ok (.getfield 10, 3) := by decide +kernel
theorem dX5_loan_49 : decode cX5_loan 49 = .ok (.iload 7, 2) := by decide +kernel
theorem dX5_loan_51 : decode cX5_loan 51 = .ok (.invokevirtual 103, 3) := by decide +kernel
theorem dX5_loan_54 : decode cX5_loan 54 = .ok (.iload_n 2, 1) := by decide +kernel
theorem dX5_loan_55 : decode cX5_loan 55 = .ok (.lload_n 3, 1) := by decide +kernel
theorem dX5_loan_56 : decode cX5_loan 56 = .ok (.lload 5, 2) := by decide +kernel
theorem dX5_loan_58 : decode cX5_loan 58 = .ok (.invokevirtual 106, 3) := by decide +kernel
theorem dX5_loan_61 : decode cX5_loan 61 = .ok (.ireturn, 1) := by decide +kernel
theorem dX5_kept_0 : decode cX5_kept 0 = .ok (.aload_n 0, 1) := by decide +kernel
theorem dX5_kept_1 : decode cX5_kept 1 = .ok (.getfield 10, 3) := by decide +kernel
theorem dX5_kept_4 : decode cX5_kept 4 = .ok (.iload_n 1, 1) := by decide +kernel
theorem dX5_kept_5 : decode cX5_kept 5 = .ok (.invokevirtual 56, 3) := by decide +kernel
theorem dX5_kept_8 : decode cX5_kept 8 = .ok (.istore 5, 2) := by decide +kernel
theorem dX5_kept_10 : decode cX5_kept 10 = .ok (.iload 5, 2) := by decide +kernel
theorem dX5_kept_12 : decode cX5_kept 12 = .ok (.ifCond .ne 6, 3) := by decide +kernel
theorem dX5_kept_15 : decode cX5_kept 15 = .ok (.ldc 109, 2) := by decide +kernel
theorem dX5_kept_17 : decode cX5_kept 17 = .ok (.ireturn, 1) := by decide +kernel
theorem dX5_kept_18 : decode cX5_kept 18 = .ok (.iconst 0, 1) := by decide +kernel
theorem dX5_kept_19 : decode cX5_kept 19 = .ok (.istore 6, 2) := by decide +kernel
theorem dX5_kept_21 : decode cX5_kept 21 = .ok (.iconst 0, 1) := by decide +kernel
theorem dX5_kept_22 : decode cX5_kept 22 = .ok (.istore 7, 2) := by decide +kernel
theorem dX5_kept_24 : decode cX5_kept 24 = .ok (.iload 7, 2) := by decide +kernel
theorem dX5_kept_26 : decode cX5_kept 26 = .ok (.aload_n 0, 1) := by decide +kernel
theorem dX5_kept_27 : decode cX5_kept 27 = .ok (.getfield 33, 3) := by decide +kernel
theorem dX5_kept_30 : decode cX5_kept 30 = .ok (.invokevirtual 110, 3) := by decide +kernel
theorem dX5_kept_33 : decode cX5_kept 33 = .ok (.if_icmp .ge 63, 3) := by decide +kernel
theorem dX5_kept_36 : decode cX5_kept 36 = .ok (.aload_n 0, 1) := by decide +kernel
theorem dX5_kept_37 : decode cX5_kept 37 = .ok (.getfield 33, 3) := by decide +kernel
theorem dX5_kept_40 : decode cX5_kept 40 = .ok (.iload 7, 2) := by decide +kernel
theorem dX5_kept_42 : decode cX5_kept 42 = .ok (.invokevirtual 114, 3) := by decide +kernel
theorem dX5_kept_45 : decode cX5_kept 45 = .ok (.istore 8, 2) := by decide +kernel
theorem dX5_kept_47 : decode cX5_kept 47 = .ok (.aload_n 0, 1) := by decide +kernel
theorem dX5_kept_48 : decode cX5_kept 48 = .ok (.getfield 33, 3) := by decide +kernel
theorem dX5_kept_51 : decode cX5_kept 51 = .ok (.iload 8, 2) := by decide +kernel
theorem dX5_kept_53 : decode cX5_kept 53 = .ok (.invokevirtual 117, 3) := by decide +kernel
theorem dX5_kept_56 : decode cX5_kept 56 = .ok (.iload 5, 2) := by decide +kernel
theorem dX5_kept_58 : decode cX5_kept 58 = .ok (.if_icmp .ne 32, 3) := by decide +kernel
theorem dX5_kept_61 : decode cX5_kept 61 = .ok (.aload_n 0, 1) := by decide +kernel
theorem dX5_kept_62 : decode cX5_kept 62 = .ok (.iload 8, 2) := by decide +kernel
theorem dX5_kept_64 : decode cX5_kept 64 = .ok (.lload_n 3, 1) := by decide +kernel
theorem dX5_kept_65 : decode cX5_kept 65 = .ok (.invokevirtual 120, 3) := by decide +kernel
theorem dX5_kept_68 : decode cX5_kept 68 = .ok (.ifCond .eq 22, 3) := by decide +kernel
theorem dX5_kept_71 : decode cX5_kept 71 = .ok (.iload 6, 2) := by decide +kernel
theorem dX5_kept_73 : decode cX5_kept 73 = .ok (.iload_n 2, 1) := by decide +kernel
theorem dX5_kept_74 : decode cX5_kept 74 = .ok (.if_icmp .ne 13, 3) := by decide +kernel
theorem dX5_kept_77 : decode cX5_kept 77 = .ok (.aload_n 0, 1) := by decide +kernel
theorem dX5_kept_78 : decode cX5_kept 78 = .ok (.getfield 33, 3) := by decide +kernel
theorem dX5_kept_81 : decode cX5_kept 81 = .ok (.iload 8, 2) := by decide +kernel
theorem dX5_kept_83 : decode cX5_kept 83 = .ok (.invokevirtual 124, 3) := by decide +kernel
theorem dX5_kept_86 : decode cX5_kept 86 = .ok (.ireturn, 1) := by decide +kernel
theorem dX5_kept_87 : decode cX5_kept 87 = .ok (.iinc 6 1, 3) := by decide +kernel
theorem dX5_kept_90 : decode cX5_kept 90 = .ok (.iinc 7 1, 3) := by decide +kernel
theorem dX5_kept_93 : decode cX5_kept 93 = .ok (.goto (-69), 3) := by decide +kernel
theorem dX5_kept_96 : decode cX5_kept 96 = .ok (.ldc 109, 2) := by decide +kernel
theorem dX5_kept_98 : decode cX5_kept 98 = .ok (.ireturn, 1) := by decide +kernel
theorem dX5_anonymise_0 : decode cX5_anonymise 0 = .ok (.lload_n 1, 1) := by decide +kernel
theorem dX5_anonymise_1 : decode cX5_anonymise 1 = .ok (.invokestatic 79, 3) := by decide +kernel
theorem dX5_anonymise_4 : decode cX5_anonymise 4 = .ok (.ifCond .ne 5, 3) := by decide +kernel
theorem dX5_anonymise_7 : decode cX5_anonymise 7 = .ok (.iconst (-1), 1) := by decide +kernel
theorem dX5_anonymise_8 : decode cX5_anonymise 8 = .ok (.ireturn, 1) := by decide +kernel
theorem dX5_anonymise_9 : decode cX5_anonymise 9 = .ok (.iconst 0, 1) := by decide +kernel
theorem dX5_anonymise_10 : decode cX5_anonymise 10 = .ok (.istore_n 3, 1) := by decide +kernel
theorem dX5_anonymise_11 : decode cX5_anonymise 11 = .ok (.iconst 0, 1) := by decide +kernel
theorem dX5_anonymise_12 : decode cX5_anonymise 12 = .ok (.istore 4, 2) := by decide +kernel
theorem dX5_anonymise_14 : decode cX5_anonymise 14 = .ok (.iload 4, 2) := by decide +kernel
theorem dX5_anonymise_16 : decode cX5_anonymise 16 = .ok (.aload_n 0, 1) := by decide +kernel
theorem dX5_anonymise_17 : decode cX5_anonymise 17 = .ok (.getfield 33, 3) := by decide +kernel
theorem dX5_anonymise_20 : decode cX5_anonymise 20 = .ok (.invokevirtual 110, 3) := by decide +kernel
theorem dX5_anonymise_23 : decode cX5_anonymise 23 = .ok (.if_icmp .ge 22, 3) := by decide +kernel
theorem dX5_anonymise_26 : decode cX5_anonymise 26 = .ok (.aload_n 0, 1) := by decide +kernel
theorem dX5_anonymise_27 : decode cX5_anonymise 27 = .ok (.iload 4, 2) := by decide +kernel
theorem dX5_anonymise_29 : decode cX5_anonymise 29 = .ok (.lload_n 1, 1) := by decide +kernel
theorem dX5_anonymise_30 : decode cX5_anonymise 30 = .ok (.invokevirtual 127, 3) := by decide +kernel
theorem dX5_anonymise_33 : decode cX5_anonymise 33 = .ok (.ifCond .eq 6, 3) := by decide +kernel
theorem dX5_anonymise_36 : decode cX5_anonymise 36 = .ok (.iinc 3 1, 3) := by decide +kernel
theorem dX5_anonymise_39 : decode cX5_anonymise 39 = .ok (.iinc 4 1, 3) := by decide +kernel
theorem dX5_anonymise_42 : decode cX5_anonymise 42 = .ok (.goto (-28), 3) := by decide +kernel
theorem dX5_anonymise_45 : decode cX5_anonymise 45 = .ok (.iload_n 3, 1) := by decide +kernel
theorem dX5_anonymise_46 : decode cX5_anonymise 46 = .ok (.ireturn, 1) := by decide +kernel
theorem dX5_join_0 : decode cX5_join 0 = .ok (.aload_n 0, 1) := by decide +kernel
theorem dX5_join_1 : decode cX5_join 1 = .ok (.getfield 10, 3) := by decide +kernel
theorem dX5_join_4 : decode cX5_join 4 = .ok (.iload_n 1, 1) := by decide +kernel
theorem dX5_join_5 : decode cX5_join 5 = .ok (.invokevirtual 56, 3) := by decide +kernel
theorem dX5_join_8 : decode cX5_join 8 = .ok (.istore_n 3, 1) := by decide +kernel
theorem dX5_join_9 : decode cX5_join 9 = .ok (.aload_n 0, 1) := by decide +kernel
theorem dX5_join_10 : decode cX5_join 10 = .ok (.getfield 10, 3) := by decide +kernel
theorem dX5_join_13 : decode cX5_join 13 = .ok (.iload_n 2, 1) := by decide +kernel
theorem dX5_join_14 : decode cX5_join 14 = .ok (.invokevirtual 56, 3) := by decide +kernel
theorem dX5_join_17 : decode cX5_join 17 = .ok (.istore 4, 2) := by decide +kernel
theorem dX5_join_19 : decode cX5_join 19 = .ok (.iload_n 3, 1) := by decide +kernel
theorem dX5_join_20 : decode cX5_join 20 = .ok (.ifCond .eq 24, 3) := by decide +kernel
theorem dX5_join_23 : decode cX5_join 23 = .ok (.iload 4, 2) := by decide +kernel
theorem dX5_join_25 : decode cX5_join 25 = .ok (.ifCond .eq 19, 3) := by decide +kernel
theorem dX5_join_28 : decode cX5_join 28 = .ok (.iload_n 3, 1) := by decide +kernel
theorem dX5_join_29 : decode cX5_join 29 = .ok (.iload 4, 2) := by decide +kernel
theorem dX5_join_31 : decode cX5_join 31 = .ok (.if_icmp .eq 13, 3) := by decide +kernel
theorem dX5_join_34 : decode cX5_join 34 = .ok (.aload_n 0, 1) := by decide +kernel
theorem dX5_join_35 : decode cX5_join 35 = .ok (.iload_n 3, 1) := by decide +kernel
theorem dX5_join_36 : decode cX5_join 36 = .ok (.iload 4, 2) := by decide +kernel
theorem dX5_join_38 : decode cX5_join 38 = .ok (.invokevirtual 130, 3) := by decide +kernel
theorem dX5_join_41 : decode cX5_join 41 = .ok (.ifCond .ne 5, 3) := by decide +kernel
theorem dX5_join_44 : decode cX5_join 44 = .ok (.iconst 0, 1) := by decide +kernel
theorem dX5_join_45 : decode cX5_join 45 = .ok (.ireturn, 1) := by decide +kernel
theorem dX5_join_46 : decode cX5_join 46 = .ok (.aload_n 0, 1) := by decide +kernel
theorem dX5_join_47 : decode cX5_join 47 = .ok (.getfield 10, 3) := by decide +kernel
theorem dX5_join_50 : decode cX5_join 50 = .ok (.iload_n 3, 1) := by decide +kernel
theorem dX5_join_51 : decode cX5_join 51 = .ok (.iload 4, 2) := by decide +kernel
theorem dX5_join_53 : decode cX5_join 53 = .ok (.invokevirtual 134, 3) := by decide +kernel
theorem dX5_join_56 : decode cX5_join 56 = .ok (.aload_n 0, 1) := by decide +kernel
theorem dX5_join_57 : decode cX5_join 57 = .ok (.getfield 26, 3) := by decide +kernel
theorem dX5_join_60 : decode cX5_join 60 = .ok (.iload_n 3, 1) := by decide +kernel
theorem dX5_join_61 : decode cX5_join 61 = .ok (.iload 4, 2) := by decide +kernel
theorem dX5_join_63 : decode cX5_join 63 = .ok (.invokevirtual 137, 3) := by decide +kernel
theorem dX5_join_66 : decode cX5_join 66 = .ok (.aload_n 0, 1) := by decide +kernel
theorem dX5_join_67 : decode cX5_join 67 = .ok (.getfield 33, 3) := by decide +kernel
theorem dX5_join_70 : decode cX5_join 70 = .ok (.iload_n 3, 1) := by decide +kernel
theorem dX5_join_71 : decode cX5_join 71 = .ok (.iload 4, 2) := by decide +kernel
theorem dX5_join_73 : decode cX5_join 73 = .ok (.invokevirtual 140, 3) := by decide +kernel
theorem dX5_join_76 : decode cX5_join 76 = .ok (.iconst 1, 1) := by decide +kernel
theorem dX5_join_77 : decode cX5_join 77 = .ok (.ireturn, 1) := by decide +kernel
theorem dX5_family_0 : decode cX5_family 0 = .ok (.aload_n 0, 1) := by decide +kernel
theorem dX5_family_1 : decode cX5_family 1 = .ok (.getfield 10, 3) := by decide +kernel
theorem dX5_family_4 : decode cX5_family 4 = .ok (.iload_n 1, 1) := by decide +kernel
theorem dX5_family_5 : decode cX5_family 5 = .ok (.invokevirtual 56, 3) := by decide +kernel
theorem dX5_family_8 : decode cX5_family 8 = .ok (.istore_n 3, 1) := by decide +kernel
theorem dX5_family_9 : decode cX5_family 9 = .ok (.iload_n 3, 1) := by decide +kernel
theorem dX5_family_10 : decode cX5_family 10 = .ok (.ifCond .ne 5, 3) := by decide +kernel
theorem dX5_family_13 : decode cX5_family 13 = .ok (.iconst 0, 1) := by decide +kernel
theorem dX5_family_14 : decode cX5_family 14 = .ok (.ireturn, 1) := by decide +kernel
theorem dX5_family_15 : decode cX5_family 15 = .ok (.aload_n 0, 1) := by decide +kernel
theorem dX5_family_16 : decode cX5_family 16 = .ok (.getfield 10, 3) := by decide +kernel
theorem dX5_family_19 : decode cX5_family 19 = .ok (.iload_n 3, 1) := by decide +kernel
theorem dX5_family_20 : decode cX5_family 20 = .ok (.invokevirtual 60, 3) := by decide +kernel
theorem dX5_family_23 : decode cX5_family 23 = .ok (.istore 4, 2) := by decide +kernel
theorem dX5_family_25 : decode cX5_family 25 = .ok (.iload 4, 2) := by decide +kernel
theorem dX5_family_27 : decode cX5_family 27 = .ok (.ifCond .ne 7, 3) := by decide +kernel
theorem dX5_family_30 : decode cX5_family 30 = .ok (.iload_n 3, 1) := by decide +kernel
theorem dX5_family_31 : decode cX5_family 31 = .ok (.goto 5, 3) := by decide +kernel
theorem dX5_family_34 : decode cX5_family 34 = .ok (.iload 4, 2) := by decide +kernel
theorem dX5_family_36 : decode cX5_family 36 = .ok (.istore 5, 2) := by decide +kernel
theorem dX5_family_38 : decode cX5_family 38 = .ok (.iload_n 2, 1) := by decide +kernel
theorem dX5_family_39 : decode cX5_family 39 = .ok (.ifCond .ne 8, 3) := by decide +kernel
theorem dX5_family_42 : decode cX5_family 42 = .ok (.iload 5, 2) := by decide +kernel
theorem dX5_family_44 : decode cX5_family 44 = .ok (.goto 13, 3) := by decide +kernel
theorem dX5_family_47 : decode cX5_family 47 = .ok (.aload_n 0, 1) := by decide +kernel
theorem dX5_family_48 : decode cX5_family 48 = .ok (.getfield 10, 3) := by decide +kernel
theorem dX5_family_51 : decode cX5_family 51 = .ok (.iload 5, 2) := by decide +kernel
theorem dX5_family_53 : decode cX5_family 53 = .ok (.iload_n 2, 1) := by decide +kernel
theorem dX5_family_54 : decode cX5_family 54 = .ok (.invokevirtual 141, 3) := by decide +kernel
theorem dX5_family_57 : decode cX5_family 57 = .ok (.ireturn, 1) := by decide +kernel
theorem dX5_sign_0 : decode cX5_sign 0 = .ok (.aload_n 0, 1) := by decide +kernel
theorem dX5_sign_1 : decode cX5_sign 1 = .ok (.getfield 40, 3) := by decide +kernel
theorem dX5_sign_4 : decode cX5_sign 4 = .ok (.iload_n 1, 1) := by decide +kernel
theorem dX5_sign_5 : decode cX5_sign 5 = .ok (.sipush 255, 3) := by decide +kernel
theorem dX5_sign_8 : decode cX5_sign 8 = .ok (.iand, 1) := by decide +kernel
theorem dX5_sign_9 : decode cX5_sign 9 = .ok (.invokevirtual 144, 3) := by decide +kernel
theorem dX5_sign_12 : decode cX5_sign 12 = .ok (.return_, 1) := by decide +kernel
theorem dX5_import0_0 : decode cX5_import0 0 = .ok (.aload_n 0, 1) := by decide +kernel
theorem dX5_import0_1 : decode cX5_import0 1 = .ok (.getfield 40, 3) := by decide +kernel
theorem dX5_import0_4 : decode cX5_import0 4 = .ok (.invokevirtual 147, 3) := by decide +kernel
theorem dX5_import0_7 : decode cX5_import0 7 = .ok (.istore_n 1, 1) := by decide +kernel
theorem dX5_import0_8 : decode cX5_import0 8 = .ok (.iload_n 1, 1) := by decide +kernel
theorem dX5_import0_9 : decode cX5_import0 9 = .ok (.iconst (-1), 1) := by decide +kernel
theorem dX5_import0_10 : decode cX5_import0 10 = .ok (.if_icmp .ne 10, 3) := by decide +kernel
theorem dX5_import0_13 : decode cX5_import0 13 = .ok (.aload_n 0, 1) := by decide +kernel
theorem dX5_import0_14 : decode cX5_import0 14 = .ok (.invokevirtual 150, 3) := by decide +kernel
theorem dX5_import0_17 : decode cX5_import0 17 = .ok (.goto 7, 3) := by decide +kernel
theorem dX5_import0_20 : decode cX5_import0 20 = .ok (.bipush (-100), 2) := by decide +kernel
theorem dX5_import0_22 : decode cX5_import0 22 = .ok (.iload_n 1, 1) := by decide +kernel
theorem dX5_import0_23 : decode cX5_import0 23 = .ok (.isub, 1) := by decide +kernel
theorem dX5_import0_24 : decode cX5_import0 24 = .ok (.istore_n 2, 1) := by decide +kernel
theorem dX5_import0_25 : decode cX5_import0 25 = .ok (.aload_n 0, 1) := by decide +kernel
theorem dX5_import0_26 : decode cX5_import0 26 = .ok (.getfield 40, 3) := by decide +kernel
theorem dX5_import0_29 : decode cX5_import0 29 = .ok (.invokevirtual 153, 3) := by decide +kernel
theorem dX5_import0_32 : decode cX5_import0 32 = .ok (.iload_n 2, 1) := by decide +kernel
theorem dX5_import0_33 : decode cX5_import0 33 = .ok (.ireturn, 1) := by decide +kernel
theorem dX5_like_0 : decode cX5_like 0 = .ok (.aload_n 0, 1) := by decide +kernel
theorem dX5_like_1 : decode cX5_like 1 = .ok (.getfield 40, 3) := by decide +kernel
theorem dX5_like_4 : decode cX5_like 4 = .ok (.invokevirtual 156, 3) := by decide +kernel
theorem dX5_like_7 : decode cX5_like 7 = .ok (.ifCond .eq 10, 3) := by decide +kernel
theorem dX5_like_10 : decode cX5_like 10 = .ok (.aload_n 0, 1) := by decide +kernel
theorem dX5_like_11 : decode cX5_like 11 = .ok (.invokevirtual 160, 3) := by decide +kernel
theorem dX5_like_14 : decode cX5_like 14 = .ok (.goto 4, 3) := by decide +kernel
theorem dX5_like_17 : decode cX5_like 17 = .ok (.iconst 0, 1) := by decide +kernel
theorem dX5_like_18 : decode cX5_like 18 = .ok (.istore_n 1, 1) := by decide +kernel
theorem dX5_like_19 : decode cX5_like 19 = .ok (.aload_n 0, 1) := by decide +kernel
theorem dX5_like_20 : decode cX5_like 20 = .ok (.getfield 40, 3) := by decide +kernel
theorem dX5_like_23 : decode cX5_like 23 = .ok (.invokevirtual 153, 3) := by decide +kernel
theorem dX5_like_26 : decode cX5_like 26 = .ok (.iload_n 1, 1) := by decide +kernel
theorem dX5_like_27 : decode cX5_like 27 = .ok (.ireturn, 1) := by decide +kernel
theorem dX5_about_0 : decode cX5_about 0 = .ok (.aload_n 0, 1) := by decide +kernel
theorem dX5_about_1 : decode cX5_about 1 = .ok (.getfield 10, 3) := by decide +kernel
theorem dX5_about_4 : decode cX5_about 4 = .ok (.iload_n 1, 1) := by decide +kernel
theorem dX5_about_5 : decode cX5_about 5 = .ok (.invokevirtual 56, 3) := by decide +kernel
theorem dX5_about_8 : decode cX5_about 8 = .ok (.istore_n 3, 1) := by decide +kernel
theorem dX5_about_9 : decode cX5_about 9 = .ok (.iload_n 3, 1) := by decide +kernel
theorem dX5_about_10 : decode cX5_about 10 = .ok (.ifCond .ne 5, 3) := by decide +kernel
theorem dX5_about_13 : decode cX5_about 13 = .ok (.iconst (-1), 1) := by decide +kernel
theorem dX5_about_14 : decode cX5_about 14 = .ok (.ireturn, 1) := by decide +kernel
theorem dX5_about_15 : decode cX5_about 15 = .ok (.iload_n 2, 1) := by decide +kernel
theorem dX5_about_16 : decode cX5_about 16 = .ok (.tableswitch 89 0 4 #[36, 45, 54, 63, 80], 36) := by decide +kernel
theorem dX5_about_52 : decode cX5_about 52 = .ok (.aload_n 0, 1) := by decide +kernel
theorem dX5_about_53 : decode cX5_about 53 = .ok (.getfield 10, 3) := by decide +kernel
theorem dX5_about_56 : decode cX5_about 56 = .ok (.iload_n 3, 1) := by decide +kernel
theorem dX5_about_57 : decode cX5_about 57 = .ok (.invokevirtual 103, 3) := by decide +kernel
theorem dX5_about_60 : decode cX5_about 60 = .ok (.ireturn, 1) := by decide +kernel
theorem dX5_about_61 : decode cX5_about 61 = .ok (.aload_n 0, 1) := by decide +kernel
theorem dX5_about_62 : decode cX5_about 62 = .ok (.getfield 10, 3) := by decide +kernel
theorem dX5_about_65 : decode cX5_about 65 = .ok (.iload_n 3, 1) := by decide +kernel
theorem dX5_about_66 : decode cX5_about 66 = .ok (.invokevirtual 60, 3) := by decide +kernel
theorem dX5_about_69 : decode cX5_about 69 = .ok (.ireturn, 1) := by decide +kernel
theorem dX5_about_70 : decode cX5_about 70 = .ok (.aload_n 0, 1) := by decide +kernel
theorem dX5_about_71 : decode cX5_about 71 = .ok (.getfield 26, 3) := by decide +kernel
theorem dX5_about_74 : decode cX5_about 74 = .ok (.iload_n 3, 1) := by decide +kernel
theorem dX5_about_75 : decode cX5_about 75 = .ok (.invokevirtual 63, 3) := by decide +kernel
theorem dX5_about_78 : decode cX5_about 78 = .ok (.ireturn, 1) := by decide +kernel
theorem dX5_about_79 : decode cX5_about 79 = .ok (.aload_n 0, 1) := by decide +kernel
theorem dX5_about_80 : decode cX5_about 80 = .ok (.getfield 10, 3) := by decide +kernel
theorem dX5_about_83 : decode cX5_about 83 = .ok (.iload_n 3, 1) := by decide +kernel
theorem dX5_about_84 : decode cX5_about 84 = .ok (.invokevirtual 91, 3) := by decide +kernel
theorem dX5_about_87 : decode cX5_about 87 = .ok (.ifCond .eq 7, 3) := by decide +kernel
theorem dX5_about_90 : decode cX5_about 90 = .ok (.iconst 1, 1) := by decide +kernel
theorem dX5_about_91 : decode cX5_about 91 = .ok (.goto 4, 3) := by decide +kernel
theorem dX5_about_94 : decode cX5_about 94 = .ok (.iconst 0, 1) := by decide +kernel
theorem dX5_about_95 : decode cX5_about 95 = .ok (.ireturn, 1) := by decide +kernel
theorem dX5_about_96 : decode cX5_about 96 = .ok (.aload_n 0, 1) := by decide +kernel
theorem dX5_about_97 : decode cX5_about 97 = .ok (.getfield 33, 3) := by decide +kernel
theorem dX5_about_100 : decode cX5_about 100 = .ok (.iload_n 3, 1) := by decide +kernel
theorem dX5_about_101 : decode cX5_about 101 = .ok (.invokevirtual 163, 3) := by decide +kernel
theorem dX5_about_104 : decode cX5_about 104 = .ok (.ireturn, 1) := by decide +kernel
theorem dX5_about_105 : decode cX5_about 105 = .ok (.iconst (-1), 1) := by decide +kernel
theorem dX5_about_106 : decode cX5_about 106 = .ok (.ireturn, 1) := by decide +kernel
theorem dX5_statistics_0 : decode cX5_statistics 0 = .ok (.iload_n 1, 1) := by decide +kernel
theorem dX5_statistics_1 : decode cX5_statistics 1 = .ok (.invokestatic 48, 3) := by decide +kernel
theorem dX5_statistics_4 : decode cX5_statistics 4 = .ok (.ifCond .eq 17, 3) := by decide +kernel
theorem dX5_statistics_7 : decode cX5_statistics 7 = .ok (.aload_n 0, 1) := by decide +kernel
theorem dX5_statistics_8 : decode cX5_statistics 8 = .ok (.getfield 33, 3) := by decide +kernel
theorem dX5_statistics_11 : decode cX5_statistics 11 = .ok (.iload_n 1, 1) := by decide +kernel
theorem dX5_statistics_12 : decode cX5_statistics 12 = .ok (.lload_n 2, 1) := by decide +kernel
theorem dX5_statistics_13 : decode cX5_statistics 13 = .ok (.lload 4, 2) := by decide +kernel
theorem dX5_statistics_15 : decode cX5_statistics 15 = .ok (.invokevirtual 166, 3) := by decide +kernel
theorem dX5_statistics_18 : decode cX5_statistics 18 = .ok (.goto 4, 3) := by decide +kernel
theorem dX5_statistics_21 : decode cX5_statistics 21 = .ok (.iconst (-1), 1) := by decide +kernel
theorem dX5_statistics_22 : decode cX5_statistics 22 = .ok (.ireturn, 1) := by decide +kernel
theorem dX5_isKind_0 : decode cX5_isKind 0 = .ok (.iload_n 0, 1) := by decide +kernel
theorem dX5_isKind_1 : decode cX5_isKind 1 = .ok (.ifCond .lt 12, 3) := by decide +kernel
theorem dX5_isKind_4 : decode cX5_isKind 4 = .ok (.iload_n 0, 1) := by decide +kernel
theorem dX5_isKind_5 : decode cX5_isKind 5 = .ok (.iconst 5, 1) := by decide +kernel
theorem dX5_isKind_6 : decode cX5_isKind 6 = .ok (.if_icmp .ge 7, 3) := by decide +kernel
theorem dX5_isKind_9 : decode cX5_isKind 9 = .ok (.iconst 1, 1) := by decide +kernel
theorem dX5_isKind_10 : decode cX5_isKind 10 = .ok (.goto 4, 3) := by decide +kernel
theorem dX5_isKind_13 : decode cX5_isKind 13 = .ok (.iconst 0, 1) := by decide +kernel
theorem dX5_isKind_14 : decode cX5_isKind 14 = .ok (.ireturn, 1) := by decide +kernel
theorem dX5_isDay_0 : decode cX5_isDay 0 = .ok (.lload_n 0, 1) := by decide +kernel
theorem dX5_isDay_1 : decode cX5_isDay 1 = .ok (.lconst 0, 1) := by decide +kernel
theorem dX5_isDay_2 : decode cX5_isDay 2 = .ok (.lcmp, 1) := by decide +kernel
theorem dX5_isDay_3 : decode cX5_isDay 3 = .ok (.ifCond .lt 15, 3) := by decide +kernel
theorem dX5_isDay_6 : decode cX5_isDay 6 = .ok (.lload_n 0, 1) := by decide +kernel
theorem dX5_isDay_7 : decode cX5_isDay 7 = .ok (.ldc2_w 170, 3) := by decide +kernel
theorem dX5_isDay_10 : decode cX5_isDay 10 = .ok (.lcmp, 1) := by decide +kernel
theorem dX5_isDay_11 : decode cX5_isDay 11 = .ok (.ifCond .gt 7, 3) := by decide +kernel
theorem dX5_isDay_14 : decode cX5_isDay 14 = .ok (.iconst 1, 1) := by decide +kernel
theorem dX5_isDay_15 : decode cX5_isDay 15 = .ok (.goto 4, 3) := by decide +kernel
theorem dX5_isDay_18 : decode cX5_isDay 18 = .ok (.iconst 0, 1) := by decide +kernel
theorem dX5_isDay_19 : decode cX5_isDay 19 = .ok (.ireturn, 1) := by decide +kernel
theorem dX5_isKept_0 : decode cX5_isKept 0 = .ok (.aload_n 0, 1) := by decide +kernel
theorem dX5_isKept_1 : decode cX5_isKept 1 = .ok (.getfield 33, 3) := by decide +kernel
theorem dX5_isKept_4 : decode cX5_isKept 4 = .ok (.iload_n 1, 1) := by decide +kernel
theorem dX5_isKept_5 : decode cX5_isKept 5 = .ok (.invokevirtual 172, 3) := by decide +kernel
theorem dX5_isKept_8 : decode cX5_isKept 8 = .ok (.ifCond .eq 5, 3) := by decide +kernel
theorem dX5_isKept_11 : decode cX5_isKept 11 = .ok (.iconst 0, 1) := by decide +kernel
theorem dX5_isKept_12 : decode cX5_isKept 12 = .ok (.ireturn, 1) := by decide +kernel
theorem dX5_isKept_13 : decode cX5_isKept 13 = .ok (.aload_n 0, 1) := by decide +kernel
theorem dX5_isKept_14 : decode cX5_isKept 14 = .ok (.getfield 33, 3) := by decide +kernel
theorem dX5_isKept_17 : decode cX5_isKept 17 = .ok (.iload_n 1, 1) := by decide +kernel
theorem dX5_isKept_18 : decode cX5_isKept 18 = .ok (.invokevirtual 117, 3) := by decide +kernel
theorem dX5_isKept_21 : decode cX5_isKept 21 = .ok (.istore 4, 2) := by decide +kernel
theorem dX5_isKept_23 : decode cX5_isKept 23 = .ok (.aload_n 0, 1) := by decide +kernel
theorem dX5_isKept_24 : decode cX5_isKept 24 = .ok (.getfield 10, 3) := by decide +kernel
theorem dX5_isKept_27 : decode cX5_isKept 27 = .ok (.iload 4, 2) := by decide +kernel
theorem dX5_isKept_29 : decode cX5_isKept 29 = .ok (.invokevirtual 91, 3) := by decide +kernel
theorem dX5_isKept_32 : decode cX5_isKept 32 = .ok (.ifCond .ne 32, 3) := by decide +kernel
theorem dX5_isKept_35 : decode cX5_isKept 35 = .ok (.lload_n 2, 1) := by decide +kernel
theorem dX5_isKept_36 : decode cX5_isKept 36 = .ok (.aload_n 0, 1) := by decide +kernel
theorem dX5_isKept_37 : decode cX5_isKept 37 = .ok (.getfield 33, 3) := by decide +kernel
theorem dX5_isKept_40 : decode cX5_isKept 40 = .ok (.iload_n 1, 1) := by decide +kernel
theorem dX5_isKept_41 : decode cX5_isKept 41 = .ok (.invokevirtual 175, 3) := by decide +kernel
theorem dX5_isKept_44 : decode cX5_isKept 44 = .ok (.aload_n 0, 1) := by decide +kernel
theorem dX5_isKept_45 : decode cX5_isKept 45 = .ok (.getfield 44, 3) := by decide +kernel
theorem dX5_isKept_48 : decode cX5_isKept 48 = .ok (.aload_n 0, 1) := by decide +kernel
theorem dX5_isKept_49 : decode cX5_isKept 49 = .ok (.getfield 10, 3) := by decide +kernel
theorem dX5_isKept_52 : decode cX5_isKept 52 = .ok (.iload 4, 2) := by decide +kernel
theorem dX5_isKept_54 : decode cX5_isKept 54 = .ok (.invokevirtual 103, 3) := by decide +kernel
theorem dX5_isKept_57 : decode cX5_isKept 57 = .ok (.iaload, 1) := by decide +kernel
theorem dX5_isKept_58 : decode cX5_isKept 58 = .ok (.i2l, 1) := by decide +kernel
theorem dX5_isKept_59 : decode cX5_isKept 59 = .ok (.ladd, 1) := by decide +kernel
theorem dX5_isKept_60 : decode cX5_isKept 60 = .ok (.lcmp, 1) := by decide +kernel
theorem dX5_isKept_61 : decode cX5_isKept 61 = .ok (.ifCond .gt 7, 3) := by decide +kernel
theorem dX5_isKept_64 : decode cX5_isKept 64 = .ok (.iconst 1, 1) := by decide +kernel
theorem dX5_isKept_65 : decode cX5_isKept 65 = .ok (.goto 4, 3) := by decide +kernel
theorem dX5_isKept_68 : decode cX5_isKept 68 = .ok (.iconst 0, 1) := by decide +kernel
theorem dX5_isKept_69 : decode cX5_isKept 69 = .ok (.ireturn, 1) := by decide +kernel
theorem dX5_anonymiseUnlessKept_0 : decode cX5_anonymiseUnlessKept 0 = .ok (.aload_n 0, 1) := by decide +kernel
theorem dX5_anonymiseUnlessKept_1 : decode cX5_anonymiseUnlessKept 1 = .ok (.getfield 33, 3) := by decide +kernel
theorem dX5_anonymiseUnlessKept_4 : decode cX5_anonymiseUnlessKept 4 = .ok (.iload_n 1, 1) := by decide +kernel
theorem dX5_anonymiseUnlessKept_5 : decode cX5_anonymiseUnlessKept 5 = .ok (.invokevirtual 172, 3) := by decide +kernel
theorem dX5_anonymiseUnlessKept_8 : decode cX5_anonymiseUnlessKept 8 = .ok (.ifCond .ne 12, 3) := by decide +kernel
theorem dX5_anonymiseUnlessKept_11 : decode cX5_anonymiseUnlessKept 11 = .ok (.aload_n 0, 1) := by decide +kernel
theorem dX5_anonymiseUnlessKept_12 : decode cX5_anonymiseUnlessKept 12 = .ok (.iload_n 1, 1) := by decide +kernel
theorem dX5_anonymiseUnlessKept_13 : decode cX5_anonymiseUnlessKept 13 = .ok (.lload_n 2, 1) := by decide +kernel
theorem dX5_anonymiseUnlessKept_14 : decode cX5_anonymiseUnlessKept 14 = .ok (.invokevirtual 120, 3) := by decide +kernel
theorem dX5_anonymiseUnlessKept_17 : decode cX5_anonymiseUnlessKept 17 = .ok (.ifCond .eq 5, 3) := by decide +kernel
theorem dX5_anonymiseUnlessKept_20 : decode cX5_anonymiseUnlessKept 20 = .ok (.iconst 0, 1) := by decide +kernel
theorem dX5_anonymiseUnlessKept_21 : decode cX5_anonymiseUnlessKept 21 = .ok (.ireturn, 1) := by decide +kernel
theorem dX5_anonymiseUnlessKept_22 : decode cX5_anonymiseUnlessKept 22 = .ok (.aload_n 0, 1) := by decide +kernel
theorem dX5_anonymiseUnlessKept_23 : decode cX5_anonymiseUnlessKept 23 = .ok (.getfield 33, 3) := by decide +kernel
theorem dX5_anonymiseUnlessKept_26 : decode cX5_anonymiseUnlessKept 26 = .ok (.iload_n 1, 1) := by decide +kernel
theorem dX5_anonymiseUnlessKept_27 : decode cX5_anonymiseUnlessKept 27 = .ok (.invokevirtual 179, 3) := by decide +kernel
theorem dX5_anonymiseUnlessKept_30 : decode cX5_anonymiseUnlessKept 30 = .ok (.iconst 1, 1) := by decide +kernel
theorem dX5_anonymiseUnlessKept_31 : decode cX5_anonymiseUnlessKept 31 = .ok (.ireturn, 1) := by decide +kernel
theorem dX5_anonymiseLoansOf_0 : decode cX5_anonymiseLoansOf 0 = .ok (.iconst 0, 1) := by decide +kernel
theorem dX5_anonymiseLoansOf_1 : decode cX5_anonymiseLoansOf 1 = .ok (.istore 4, 2) := by decide +kernel
theorem dX5_anonymiseLoansOf_3 : decode cX5_anonymiseLoansOf 3 = .ok (.iconst 0, 1) := by decide +kernel
theorem dX5_anonymiseLoansOf_4 : decode cX5_anonymiseLoansOf 4 = .ok (.istore 5, 2) := by decide +kernel
theorem dX5_anonymiseLoansOf_6 : decode cX5_anonymiseLoansOf 6 = .ok (.iload 5, 2) := by decide +kernel
theorem dX5_anonymiseLoansOf_8 : decode cX5_anonymiseLoansOf 8 = .ok (.aload_n 0, 1) := by decide +kernel
theorem dX5_anonymiseLoansOf_9 : decode cX5_anonymiseLoansOf 9 = .ok (.getfield 33, 3) := by decide +kernel
theorem dX5_anonymiseLoansOf_12 : decode cX5_anonymiseLoansOf 12 = .ok (.invokevirtual 110, 3) := by decide +kernel
theorem dX5_anonymiseLoansOf_15 : decode cX5_anonymiseLoansOf 15 = .ok (.if_icmp .ge 35, 3) := by decide +kernel
theorem dX5_anonymiseLoansOf_18 : decode cX5_anonymiseLoansOf 18 = .ok (.aload_n 0, 1) := by decide +kernel
theorem dX5_anonymiseLoansOf_19 : decode cX5_anonymiseLoansOf 19 = .ok (.getfield 33, 3) := by decide +kernel
theorem dX5_anonymiseLoansOf_22 : decode cX5_anonymiseLoansOf 22 = .ok (.iload 5, 2) := by decide +kernel
theorem dX5_anonymiseLoansOf_24 : decode cX5_anonymiseLoansOf 24 = .ok (.invokevirtual 117, 3) := by decide +kernel
theorem dX5_anonymiseLoansOf_27 : decode cX5_anonymiseLoansOf 27 = .ok (.iload_n 1, 1) := by decide +kernel
theorem dX5_anonymiseLoansOf_28 : decode cX5_anonymiseLoansOf 28 = .ok (.if_icmp .ne 16, 3) := by decide +kernel
theorem dX5_anonymiseLoansOf_31 : decode cX5_anonymiseLoansOf 31 = .ok (.aload_n 0, 1) := by decide +kernel
theorem dX5_anonymiseLoansOf_32 : decode cX5_anonymiseLoansOf 32 = .ok (.iload 5, 2) := by decide +kernel
theorem dX5_anonymiseLoansOf_34 : decode cX5_anonymiseLoansOf 34 = .ok (.lload_n 2, 1) := by decide +kernel
theorem dX5_anonymiseLoansOf_35 : decode cX5_anonymiseLoansOf 35 = .ok (.invokevirtual 127, 3) := by decide +kernel
theorem dX5_anonymiseLoansOf_38 : decode cX5_anonymiseLoansOf 38 = .ok (.ifCond .eq 6, 3) := by decide +kernel
theorem dX5_anonymiseLoansOf_41 : decode cX5_anonymiseLoansOf 41 = .ok (.iinc 4 1, 3) := by decide +kernel
theorem dX5_anonymiseLoansOf_44 : decode cX5_anonymiseLoansOf 44 = .ok (.iinc 5 1, 3) := by decide +kernel
theorem dX5_anonymiseLoansOf_47 : decode cX5_anonymiseLoansOf 47 = .ok (.goto (-41), 3) := by decide +kernel
theorem dX5_anonymiseLoansOf_50 : decode cX5_anonymiseLoansOf 50 = .ok (.iload 4, 2) := by decide +kernel
theorem dX5_anonymiseLoansOf_52 : decode cX5_anonymiseLoansOf 52 = .ok (.ireturn, 1) := by decide +kernel
theorem dX5_mayJoin_0 : decode cX5_mayJoin 0 = .ok (.aload_n 0, 1) := by decide +kernel
theorem dX5_mayJoin_1 : decode cX5_mayJoin 1 = .ok (.getfield 10, 3) := by decide +kernel
theorem dX5_mayJoin_4 : decode cX5_mayJoin 4 = .ok (.iload_n 2, 1) := by decide +kernel
theorem dX5_mayJoin_5 : decode cX5_mayJoin 5 = .ok (.invokevirtual 60, 3) := by decide +kernel
theorem dX5_mayJoin_8 : decode cX5_mayJoin 8 = .ok (.istore_n 3, 1) := by decide +kernel
theorem dX5_mayJoin_9 : decode cX5_mayJoin 9 = .ok (.iload_n 3, 1) := by decide +kernel
theorem dX5_mayJoin_10 : decode cX5_mayJoin 10 = .ok (.ifCond .eq 20, 3) := by decide +kernel
theorem dX5_mayJoin_13 : decode cX5_mayJoin 13 = .ok (.iload_n 3, 1) := by decide +kernel
theorem dX5_mayJoin_14 : decode cX5_mayJoin 14 = .ok (.iload_n 1, 1) := by decide +kernel
theorem dX5_mayJoin_15 : decode cX5_mayJoin 15 = .ok (.if_icmp .eq 19, 3) := by decide +kernel
theorem dX5_mayJoin_18 : decode cX5_mayJoin 18 = .ok (.aload_n 0, 1) := by decide +kernel
theorem dX5_mayJoin_19 : decode cX5_mayJoin 19 = .ok (.getfield 10, 3) := by decide +kernel
theorem dX5_mayJoin_22 : decode cX5_mayJoin 22 = .ok (.iload_n 1, 1) := by decide +kernel
theorem dX5_mayJoin_23 : decode cX5_mayJoin 23 = .ok (.iconst 1, 1) := by decide +kernel
theorem dX5_mayJoin_24 : decode cX5_mayJoin 24 = .ok (.invokevirtual 141, 3) := by decide +kernel
theorem dX5_mayJoin_27 : decode cX5_mayJoin 27 = .ok (.ifCond .ne 7, 3) := by decide +kernel
theorem dX5_mayJoin_30 : decode cX5_mayJoin 30 = .ok (.iconst 1, 1) := by decide +kernel
theorem dX5_mayJoin_31 : decode cX5_mayJoin 31 = .ok (.goto 4, 3) := by decide +kernel
theorem dX5_mayJoin_34 : decode cX5_mayJoin 34 = .ok (.iconst 0, 1) := by decide +kernel
theorem dX5_mayJoin_35 : decode cX5_mayJoin 35 = .ok (.ireturn, 1) := by decide +kernel
theorem dX5_importFittingRow_0 : decode cX5_importFittingRow 0 = .ok (.aload_n 0, 1) := by decide +kernel
theorem dX5_importFittingRow_1 : decode cX5_importFittingRow 1 = .ok (.invokevirtual 182, 3) := by decide +kernel
theorem dX5_importFittingRow_4 : decode cX5_importFittingRow 4 = .ok (.istore_n 1, 1) := by decide +kernel
theorem dX5_importFittingRow_5 : decode cX5_importFittingRow 5 = .ok (.iload_n 1, 1) := by decide +kernel
theorem dX5_importFittingRow_6 : decode cX5_importFittingRow 6 = .ok (.ifCond .eq 6, 3) := by decide +kernel
theorem dX5_importFittingRow_9 : decode cX5_importFittingRow 9 = .ok (.iload_n 1, 1) := by decide +kernel
theorem dX5_importFittingRow_10 : decode cX5_importFittingRow 10 = .ok (.ineg, 1) := by decide +kernel
theorem dX5_importFittingRow_11 : decode cX5_importFittingRow 11 = .ok (.ireturn, 1) := by decide +kernel
theorem dX5_importFittingRow_12 : decode cX5_importFittingRow 12 = .ok (.aload_n 0, 1) := by decide +kernel
theorem dX5_importFittingRow_13 : decode cX5_importFittingRow 13 = .ok (.getfield 10, 3) := by decide +kernel
theorem dX5_importFittingRow_16 : decode cX5_importFittingRow 16 = .ok (.aload_n 0, 1) := by decide +kernel
theorem dX5_importFittingRow_17 : decode cX5_importFittingRow 17 = .ok (.getfield 40, 3) := by decide +kernel
theorem dX5_importFittingRow_20 : decode cX5_importFittingRow 20 = .ok (.invokevirtual 185, 3) := by decide +kernel
theorem dX5_importFittingRow_23 : decode cX5_importFittingRow 23 = .ok (.iconst 0, 1) := by decide +kernel
theorem dX5_importFittingRow_24 : decode cX5_importFittingRow 24 = .ok (.invokevirtual 52, 3) := by decide +kernel
theorem dX5_importFittingRow_27 : decode cX5_importFittingRow 27 = .ok (.istore_n 2, 1) := by decide +kernel
theorem dX5_importFittingRow_28 : decode cX5_importFittingRow 28 = .ok (.iload_n 2, 1) := by decide +kernel
theorem dX5_importFittingRow_29 : decode cX5_importFittingRow 29 = .ok (.ifCond .eq 15, 3) := by decide +kernel
theorem dX5_importFittingRow_32 : decode cX5_importFittingRow 32 = .ok (.aload_n 0, 1) := by decide +kernel
theorem dX5_importFittingRow_33 : decode cX5_importFittingRow 33 = .ok (.getfield 19, 3) := by decide +kernel
theorem dX5_importFittingRow_36 : decode cX5_importFittingRow 36 = .ok (.iload_n 2, 1) := by decide +kernel
theorem dX5_importFittingRow_37 : decode cX5_importFittingRow 37 = .ok (.aload_n 0, 1) := by decide +kernel
theorem dX5_importFittingRow_38 : decode cX5_importFittingRow 38 = .ok (.getfield 40, 3) := by decide +kernel
theorem dX5_importFittingRow_41 : decode cX5_importFittingRow 41 = .ok (.invokevirtual 188, 3) := by decide +kernel
theorem dX5_importFittingRow_44 : decode cX5_importFittingRow 44 = .ok (.iload_n 2, 1) := by decide +kernel
theorem dX5_importFittingRow_45 : decode cX5_importFittingRow 45 = .ok (.ireturn, 1) := by decide +kernel
theorem dX5_firstNamed_0 : decode cX5_firstNamed 0 = .ok (.iconst 1, 1) := by decide +kernel
theorem dX5_firstNamed_1 : decode cX5_firstNamed 1 = .ok (.istore_n 1, 1) := by decide +kernel
theorem dX5_firstNamed_2 : decode cX5_firstNamed 2 = .ok (.iload_n 1, 1) := by decide +kernel
theorem dX5_firstNamed_3 : decode cX5_firstNamed 3 = .ok (.aload_n 0, 1) := by decide +kernel
theorem dX5_firstNamed_4 : decode cX5_firstNamed 4 = .ok (.getfield 10, 3) := by decide +kernel
theorem dX5_firstNamed_7 : decode cX5_firstNamed 7 = .ok (.invokevirtual 192, 3) := by decide +kernel
theorem dX5_firstNamed_10 : decode cX5_firstNamed 10 = .ok (.if_icmp .gt 37, 3) := by decide +kernel
theorem dX5_firstNamed_13 : decode cX5_firstNamed 13 = .ok (.aload_n 0, 1) := by decide +kernel
theorem dX5_firstNamed_14 : decode cX5_firstNamed 14 = .ok (.getfield 10, 3) := by decide +kernel
theorem dX5_firstNamed_17 : decode cX5_firstNamed 17 = .ok (.iload_n 1, 1) := by decide +kernel
theorem dX5_firstNamed_18 : decode cX5_firstNamed 18 = .ok (.invokevirtual 193, 3) := by decide +kernel
theorem dX5_firstNamed_21 : decode cX5_firstNamed 21 = .ok (.ifCond .ne 20, 3) := by decide +kernel
theorem dX5_firstNamed_24 : decode cX5_firstNamed 24 = .ok (.aload_n 0, 1) := by decide +kernel
theorem dX5_firstNamed_25 : decode cX5_firstNamed 25 = .ok (.getfield 19, 3) := by decide +kernel
theorem dX5_firstNamed_28 : decode cX5_firstNamed 28 = .ok (.iload_n 1, 1) := by decide +kernel
theorem dX5_firstNamed_29 : decode cX5_firstNamed 29 = .ok (.aload_n 0, 1) := by decide +kernel
theorem dX5_firstNamed_30 : decode cX5_firstNamed 30 = .ok (.getfield 40, 3) := by decide +kernel
theorem dX5_firstNamed_33 : decode cX5_firstNamed 33 = .ok (.invokevirtual 196, 3) := by decide +kernel
theorem dX5_firstNamed_36 : decode cX5_firstNamed 36 = .ok (.ifCond .eq 5, 3) := by decide +kernel
theorem dX5_firstNamed_39 : decode cX5_firstNamed 39 = .ok (.iload_n 1, 1) := by decide +kernel
theorem dX5_firstNamed_40 : decode cX5_firstNamed 40 = .ok (.ireturn, 1) := by decide +kernel
theorem dX5_firstNamed_41 : decode cX5_firstNamed 41 = .ok (.iinc 1 1, 3) := by decide +kernel
theorem dX5_firstNamed_44 : decode cX5_firstNamed 44 = .ok (.goto (-42), 3) := by decide +kernel
theorem dX5_firstNamed_47 : decode cX5_firstNamed 47 = .ok (.iconst 0, 1) := by decide +kernel
theorem dX5_firstNamed_48 : decode cX5_firstNamed 48 = .ok (.ireturn, 1) := by decide +kernel
theorem dX5_nearestNamed_0 : decode cX5_nearestNamed 0 = .ok (.iconst 0, 1) := by decide +kernel
theorem dX5_nearestNamed_1 : decode cX5_nearestNamed 1 = .ok (.istore_n 1, 1) := by decide +kernel
theorem dX5_nearestNamed_2 : decode cX5_nearestNamed 2 = .ok (.iconst 4, 1) := by decide +kernel
theorem dX5_nearestNamed_3 : decode cX5_nearestNamed 3 = .ok (.istore_n 2, 1) := by decide +kernel
theorem dX5_nearestNamed_4 : decode cX5_nearestNamed 4 = .ok (.iconst 1, 1) := by decide +kernel
theorem dX5_nearestNamed_5 : decode cX5_nearestNamed 5 = .ok (.istore_n 3, 1) := by decide +kernel
theorem dX5_nearestNamed_6 : decode cX5_nearestNamed 6 = .ok (.iload_n 3, 1) := by decide +kernel
theorem dX5_nearestNamed_7 : decode cX5_nearestNamed 7 = .ok (.aload_n 0, 1) := by decide +kernel
theorem dX5_nearestNamed_8 : decode cX5_nearestNamed 8 = .ok (.getfield 10, 3) := by decide +kernel
theorem dX5_nearestNamed_11 : decode cX5_nearestNamed 11 = .ok (.invokevirtual 192, 3) := by decide +kernel
theorem dX5_nearestNamed_14 : decode cX5_nearestNamed 14 = .ok (.if_icmp .gt 56, 3) := by decide +kernel
theorem dX5_nearestNamed_17 : decode cX5_nearestNamed 17 = .ok (.aload_n 0, 1) := by decide +kernel
theorem dX5_nearestNamed_18 : decode cX5_nearestNamed 18 = .ok (.getfield 10, 3) := by decide +kernel
theorem dX5_nearestNamed_21 : decode cX5_nearestNamed 21 = .ok (.iload_n 3, 1) := by decide +kernel
theorem dX5_nearestNamed_22 : decode cX5_nearestNamed 22 = .ok (.invokevirtual 193, 3) := by decide +kernel
theorem dX5_nearestNamed_25 : decode cX5_nearestNamed 25 = .ok (.ifCond .ne 39, 3) := by decide +kernel
theorem dX5_nearestNamed_28 : decode cX5_nearestNamed 28 = .ok (.aload_n 0, 1) := by decide +kernel
theorem dX5_nearestNamed_29 : decode cX5_nearestNamed 29 = .ok (.getfield 19, 3) := by decide +kernel
theorem dX5_nearestNamed_32 : decode cX5_nearestNamed 32 = .ok (.iload_n 3, 1) := by decide +kernel
theorem dX5_nearestNamed_33 : decode cX5_nearestNamed 33 = .ok (.invokevirtual 200, 3) := by decide +kernel
theorem dX5_nearestNamed_36 : decode cX5_nearestNamed 36 = .ok (.ifCond .eq 28, 3) := by decide +kernel
theorem dX5_nearestNamed_39 : decode cX5_nearestNamed 39 = .ok (.aload_n 0, 1) := by decide +kernel
theorem dX5_nearestNamed_40 : decode cX5_nearestNamed 40 = .ok (.getfield 19, 3) := by decide +kernel
theorem dX5_nearestNamed_43 : decode cX5_nearestNamed 43 = .ok (.iload_n 3, 1) := by decide +kernel
theorem dX5_nearestNamed_44 : decode cX5_nearestNamed 44 = .ok (.aload_n 0, 1) := by decide +kernel
theorem dX5_nearestNamed_45 : decode cX5_nearestNamed 45 = .ok (.getfield 40, 3) := by decide +kernel
theorem dX5_nearestNamed_48 : decode cX5_nearestNamed 48 = .ok (.invokevirtual 203, 3) := by decide +kernel
theorem dX5_nearestNamed_51 : decode cX5_nearestNamed 51 = .ok (.istore 4, 2) := by decide +kernel
theorem dX5_nearestNamed_53 : decode cX5_nearestNamed 53 = .ok (.iload 4, 2) := by decide +kernel
theorem dX5_nearestNamed_55 : decode cX5_nearestNamed 55 = .ok (.iload_n 2, 1) := by decide +kernel
theorem dX5_nearestNamed_56 : decode cX5_nearestNamed 56 = .ok (.if_icmp .ge 8, 3) := by decide +kernel
theorem dX5_nearestNamed_59 : decode cX5_nearestNamed 59 = .ok (.iload 4, 2) := by decide +kernel
theorem dX5_nearestNamed_61 : decode cX5_nearestNamed 61 = .ok (.istore_n 2, 1) := by decide +kernel
theorem dX5_nearestNamed_62 : decode cX5_nearestNamed 62 = .ok (.iload_n 3, 1) := by decide +kernel
theorem dX5_nearestNamed_63 : decode cX5_nearestNamed 63 = .ok (.istore_n 1, 1) := by decide +kernel
theorem dX5_nearestNamed_64 : decode cX5_nearestNamed 64 = .ok (.iinc 3 1, 3) := by decide +kernel
theorem dX5_nearestNamed_67 : decode cX5_nearestNamed 67 = .ok (.goto (-61), 3) := by decide +kernel
theorem dX5_nearestNamed_70 : decode cX5_nearestNamed 70 = .ok (.iload_n 1, 1) := by decide +kernel
theorem dX5_nearestNamed_71 : decode cX5_nearestNamed 71 = .ok (.ireturn, 1) := by decide +kernel
