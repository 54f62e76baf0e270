theorem dX12_init_492 : decode cX12_init 492 = .ok (.iastore, 1) := by decide +kernel
theorem dX12_init_493 : decode cX12_init 493 = .ok (.dup, 1) := by decide +kernel
theorem dX12_init_494 : decode cX12_init 494 = .ok (.iconst 5, 1) := by decide +kernel
theorem dX12_init_495 : decode cX12_init 495 = .ok (.iconst (-1), 1) := by decide +kernel
theorem dX12_init_496 : decode cX12_init 496 = .ok (.iastore, 1) := by decide +kernel
theorem dX12_init_497 : decode cX12_init 497 = .ok (.putfield 220, 3) := by decide +kernel
theorem dX12_init_500 : decode cX12_init 500 = .ok (.aload_n 0, 1) := by decide +kernel
theorem dX12_init_501 : decode cX12_init 501 = .ok (.bipush 6, 2) := by decide +kernel
theorem dX12_init_503 : decode cX12_init 503 = .ok (.newarray .int, 2) := by decide +kernel
theorem dX12_init_505 : decode cX12_init 505 = .ok (.putfield 223, 3) := by decide +kernel
theorem dX12_init_508 : decode cX12_init 508 = .ok (.aload_n 0, 1) := by decide +kernel
theorem dX12_init_509 : decode cX12_init 509 = .ok (.sipush 360, 3) := by decide +kernel
theorem dX12_init_512 : decode cX12_init 512 = .ok (.newarray .long, 2) := by decide +kernel
theorem dX12_init_514 : decode cX12_init 514 = .ok (.putfield 226, 3) := by decide +kernel
theorem dX12_init_517 : decode cX12_init 517 = .ok (.aload_n 0, 1) := by decide +kernel
theorem dX12_init_518 : decode cX12_init 518 = .ok (.bipush 60, 2) := by decide +kernel
theorem dX12_init_520 : decode cX12_init 520 = .ok (.newarray .long, 2) := by decide +kernel
theorem dX12_init_522 : decode cX12_init 522 = .ok (.putfield 230, 3) := by decide +kernel
theorem dX12_init_525 : decode cX12_init 525 = .ok (.return_, 1) := by decide +kernel
theorem dX12_in_0 : decode cX12_in 0 = .ok (.iload_n 1, 1) := by decide +kernel
theorem dX12_in_1 : decode cX12_in 1 = .ok (.iload_n 2, 1) := by decide +kernel
theorem dX12_in_2 : decode cX12_in 2 = .ok (.if_icmp .lt 12, 3) := by decide +kernel
theorem dX12_in_5 : decode cX12_in 5 = .ok (.iload_n 1, 1) := by decide +kernel
theorem dX12_in_6 : decode cX12_in 6 = .ok (.iload_n 3, 1) := by decide +kernel
theorem dX12_in_7 : decode cX12_in 7 = .ok (.if_icmp .gt 7, 3) := by decide +kernel
theorem dX12_in_10 : decode cX12_in 10 = .ok (.iconst 1, 1) := by decide +kernel
theorem dX12_in_11 : decode cX12_in 11 = .ok (.goto 4, 3) := by decide +kernel
theorem dX12_in_14 : decode cX12_in 14 = .ok (.iconst 0, 1) := by decide +kernel
theorem dX12_in_15 : decode cX12_in 15 = .ok (.ireturn, 1) := by decide +kernel
theorem dX12_min_0 : decode cX12_min 0 = .ok (.iload_n 1, 1) := by decide +kernel
theorem dX12_min_1 : decode cX12_min 1 = .ok (.iload_n 2, 1) := by decide +kernel
theorem dX12_min_2 : decode cX12_min 2 = .ok (.if_icmp .ge 7, 3) := by decide +kernel
theorem dX12_min_5 : decode cX12_min 5 = .ok (.iload_n 1, 1) := by decide +kernel
theorem dX12_min_6 : decode cX12_min 6 = .ok (.goto 4, 3) := by decide +kernel
theorem dX12_min_9 : decode cX12_min 9 = .ok (.iload_n 2, 1) := by decide +kernel
theorem dX12_min_10 : decode cX12_min 10 = .ok (.ireturn, 1) := by decide +kernel
theorem dX12_feed_0 : decode cX12_feed 0 = .ok (.aload_n 0, 1) := by decide +kernel
theorem dX12_feed_1 : decode cX12_feed 1 = .ok (.iload_n 2, 1) := by decide +kernel
theorem dX12_feed_2 : decode cX12_feed 2 = .ok (.iconst 0, 1) := by decide +kernel
theorem dX12_feed_3 : decode cX12_feed 3 = .ok (.iconst 4, 1) := by decide +kernel
theorem dX12_feed_4 : decode cX12_feed 4 = .ok (.invokevirtual 233, 3) := by decide +kernel
theorem dX12_feed_7 : decode cX12_feed 7 = .ok (.ifCond .ne 6, 3) := by decide +kernel
theorem dX12_feed_10 : decode cX12_feed 10 = .ok (.bipush (-2), 2) := by decide +kernel
theorem dX12_feed_12 : decode cX12_feed 12 = .ok (.ireturn, 1) := by decide +kernel
theorem dX12_feed_13 : decode cX12_feed 13 = .ok (.aload_n 0, 1) := by decide +kernel
theorem dX12_feed_14 : decode cX12_feed 14 = .ok (.getfield 16, 3) := by decide +kernel
theorem dX12_feed_17 : decode cX12_feed 17 = .ok (.iload_n 2, 1) := by decide +kernel
theorem dX12_feed_18 : decode cX12_feed 18 = .ok (.iadd, 1) := by decide +kernel
theorem dX12_feed_19 : decode cX12_feed 19 = .ok (.bipush 100, 2) := by decide +kernel
theorem dX12_feed_21 : decode cX12_feed 21 = .ok (.if_icmp .le 6, 3) := by decide +kernel
theorem dX12_feed_24 : decode cX12_feed 24 = .ok (.bipush (-4), 2) := by decide +kernel
theorem dX12_feed_26 : decode cX12_feed 26 = .ok (.ireturn, 1) := by decide +kernel
theorem dX12_feed_27 : decode cX12_feed 27 = .ok (.iload_n 2, 1) := by decide +kernel
theorem dX12_feed_28 : decode cX12_feed 28 = .ok (.iconst 1, 1) := by decide +kernel
theorem dX12_feed_29 : decode cX12_feed 29 = .ok (.isub, 1) := by decide +kernel
theorem dX12_feed_30 : decode cX12_feed 30 = .ok (.istore_n 3, 1) := by decide +kernel
theorem dX12_feed_31 : decode cX12_feed 31 = .ok (.iload_n 3, 1) := by decide +kernel
theorem dX12_feed_32 : decode cX12_feed 32 = .ok (.ifCond .lt 35, 3) := by decide +kernel
theorem dX12_feed_35 : decode cX12_feed 35 = .ok (.aload_n 0, 1) := by decide +kernel
theorem dX12_feed_36 : decode cX12_feed 36 = .ok (.getfield 25, 3) := by decide +kernel
theorem dX12_feed_39 : decode cX12_feed 39 = .ok (.aload_n 0, 1) := by decide +kernel
theorem dX12_feed_40 : decode cX12_feed 40 = .ok (.getfield 16, 3) := by decide +kernel
theorem dX12_feed_43 : decode cX12_feed 43 = .ok (.iload_n 1, 1) := by decide +kernel
theorem dX12_feed_44 : decode cX12_feed 44 = .ok (.bipush 8, 2) := by decide +kernel
theorem dX12_feed_46 : decode cX12_feed 46 = .ok (.iload_n 3, 1) := by decide +kernel
theorem dX12_feed_47 : decode cX12_feed 47 = .ok (.imul, 1) := by decide +kernel
theorem dX12_feed_48 : decode cX12_feed 48 = .ok (.ishr, 1) := by decide +kernel
theorem dX12_feed_49 : decode cX12_feed 49 = .ok (.i2b, 1) := by decide +kernel
theorem dX12_feed_50 : decode cX12_feed 50 = .ok (.iastore, 1) := by decide +kernel
theorem dX12_feed_51 : decode cX12_feed 51 = .ok (.aload_n 0, 1) := by decide +kernel
theorem dX12_feed_52 : decode cX12_feed 52 = .ok (.dup, 1) := by decide +kernel
theorem dX12_feed_53 : decode cX12_feed 53 = .ok (.getfield 16, 3) := by decide +kernel
theorem dX12_feed_56 : decode cX12_feed 56 = .ok (.iconst 1, 1) := by decide +kernel
theorem dX12_feed_57 : decode cX12_feed 57 = .ok (.iadd, 1) := by decide +kernel
theorem dX12_feed_58 : decode cX12_feed 58 = .ok (.putfield 16, 3) := by decide +kernel
theorem dX12_feed_61 : decode cX12_feed 61 = .ok (.iinc 3 (-1), 3) := by decide +kernel
theorem dX12_feed_64 : decode cX12_feed 64 = .ok (.goto (-33), 3) := by decide +kernel
theorem dX12_feed_67 : decode cX12_feed 67 = .ok (.aload_n 0, 1) := by decide +kernel
theorem dX12_feed_68 : decode cX12_feed 68 = .ok (.getfield 16, 3) := by decide +kernel
theorem dX12_feed_71 : decode cX12_feed 71 = .ok (.ireturn, 1) := by decide +kernel
theorem dX12_next_0 : decode cX12_next 0 = .ok (.aload_n 0, 1) := by decide +kernel
theorem dX12_next_1 : decode cX12_next 1 = .ok (.getfield 19, 3) := by decide +kernel
theorem dX12_next_4 : decode cX12_next 4 = .ok (.aload_n 0, 1) := by decide +kernel
theorem dX12_next_5 : decode cX12_next 5 = .ok (.getfield 16, 3) := by decide +kernel
theorem dX12_next_8 : decode cX12_next 8 = .ok (.if_icmp .ge 15, 3) := by decide +kernel
theorem dX12_next_11 : decode cX12_next 11 = .ok (.aload_n 0, 1) := by decide +kernel
theorem dX12_next_12 : decode cX12_next 12 = .ok (.getfield 25, 3) := by decide +kernel
theorem dX12_next_15 : decode cX12_next 15 = .ok (.aload_n 0, 1) := by decide +kernel
theorem dX12_next_16 : decode cX12_next 16 = .ok (.getfield 19, 3) := by decide +kernel
theorem dX12_next_19 : decode cX12_next 19 = .ok (.iaload, 1) := by decide +kernel
theorem dX12_next_20 : decode cX12_next 20 = .ok (.goto 4, 3) := by decide +kernel
theorem dX12_next_23 : decode cX12_next 23 = .ok (.iconst (-1), 1) := by decide +kernel
theorem dX12_next_24 : decode cX12_next 24 = .ok (.ireturn, 1) := by decide +kernel
theorem dX12_second_0 : decode cX12_second 0 = .ok (.aload_n 0, 1) := by decide +kernel
theorem dX12_second_1 : decode cX12_second 1 = .ok (.getfield 19, 3) := by decide +kernel
theorem dX12_second_4 : decode cX12_second 4 = .ok (.iconst 1, 1) := by decide +kernel
theorem dX12_second_5 : decode cX12_second 5 = .ok (.iadd, 1) := by decide +kernel
theorem dX12_second_6 : decode cX12_second 6 = .ok (.aload_n 0, 1) := by decide +kernel
theorem dX12_second_7 : decode cX12_second 7 = .ok (.getfield 16, 3) := by decide +kernel
theorem dX12_second_10 : decode cX12_second 10 = .ok (.if_icmp .ge 17, 3) := by decide +kernel
theorem dX12_second_13 : decode cX12_second 13 = .ok (.aload_n 0, 1) := by decide +kernel
theorem dX12_second_14 : decode cX12_second 14 = .ok (.getfield 25, 3) := by decide +kernel
theorem dX12_second_17 : decode cX12_second 17 = .ok (.aload_n 0, 1) := by decide +kernel
theorem dX12_second_18 : decode cX12_second 18 = .ok (.getfield 19, 3) := by decide +kernel
theorem dX12_second_21 : decode cX12_second 21 = .ok (.iconst 1, 1) := by decide +kernel
theorem dX12_second_22 : decode cX12_second 22 = .ok (.iadd, 1) := by decide +kernel
theorem dX12_second_23 : decode cX12_second 23 = .ok (.iaload, 1) := by decide +kernel
theorem dX12_second_24 : decode cX12_second 24 = .ok (.goto 4, 3) := by decide +kernel
theorem dX12_second_27 : decode cX12_second 27 = .ok (.iconst (-1), 1) := by decide +kernel
theorem dX12_second_28 : decode cX12_second 28 = .ok (.ireturn, 1) := by decide +kernel
theorem dX12_takes_0 : decode cX12_takes 0 = .ok (.aload_n 0, 1) := by decide +kernel
theorem dX12_takes_1 : decode cX12_takes 1 = .ok (.invokevirtual 237, 3) := by decide +kernel
theorem dX12_takes_4 : decode cX12_takes 4 = .ok (.iload_n 1, 1) := by decide +kernel
theorem dX12_takes_5 : decode cX12_takes 5 = .ok (.if_icmp .eq 5, 3) := by decide +kernel
theorem dX12_takes_8 : decode cX12_takes 8 = .ok (.iconst 0, 1) := by decide +kernel
theorem dX12_takes_9 : decode cX12_takes 9 = .ok (.ireturn, 1) := by decide +kernel
theorem dX12_takes_10 : decode cX12_takes 10 = .ok (.aload_n 0, 1) := by decide +kernel
theorem dX12_takes_11 : decode cX12_takes 11 = .ok (.dup, 1) := by decide +kernel
theorem dX12_takes_12 : decode cX12_takes 12 = .ok (.getfield 19, 3) := by decide +kernel
theorem dX12_takes_15 : decode cX12_takes 15 = .ok (.iconst 1, 1) := by decide +kernel
theorem dX12_takes_16 : decode cX12_takes 16 = .ok (.iadd, 1) := by decide +kernel
theorem dX12_takes_17 : decode cX12_takes 17 = .ok (.putfield 19, 3) := by decide +kernel
theorem dX12_takes_20 : decode cX12_takes 20 = .ok (.iconst 1, 1) := by decide +kernel
theorem dX12_takes_21 : decode cX12_takes 21 = .ok (.ireturn, 1) := by decide +kernel
theorem dX12_takesWord_0 : decode cX12_takesWord 0 = .ok (.iload_n 2, 1) := by decide +kernel
theorem dX12_takesWord_1 : decode cX12_takesWord 1 = .ok (.iconst 1, 1) := by decide +kernel
theorem dX12_takesWord_2 : decode cX12_takesWord 2 = .ok (.isub, 1) := by decide +kernel
theorem dX12_takesWord_3 : decode cX12_takesWord 3 = .ok (.istore_n 3, 1) := by decide +kernel
theorem dX12_takesWord_4 : decode cX12_takesWord 4 = .ok (.iload_n 3, 1) := by decide +kernel
theorem dX12_takesWord_5 : decode cX12_takesWord 5 = .ok (.ifCond .lt 29, 3) := by decide +kernel
theorem dX12_takesWord_8 : decode cX12_takesWord 8 = .ok (.aload_n 0, 1) := by decide +kernel
theorem dX12_takesWord_9 : decode cX12_takesWord 9 = .ok (.bipush 96, 2) := by decide +kernel
theorem dX12_takesWord_11 : decode cX12_takesWord 11 = .ok (.iload_n 1, 1) := by decide +kernel
theorem dX12_takesWord_12 : decode cX12_takesWord 12 = .ok (.iconst 5, 1) := by decide +kernel
theorem dX12_takesWord_13 : decode cX12_takesWord 13 = .ok (.iload_n 3, 1) := by decide +kernel
theorem dX12_takesWord_14 : decode cX12_takesWord 14 = .ok (.imul, 1) := by decide +kernel
theorem dX12_takesWord_15 : decode cX12_takesWord 15 = .ok (.ishr, 1) := by decide +kernel
theorem dX12_takesWord_16 : decode cX12_takesWord 16 = .ok (.bipush 31, 2) := by decide +kernel
theorem dX12_takesWord_18 : decode cX12_takesWord 18 = .ok (.iand, 1) := by decide +kernel
theorem dX12_takesWord_19 : decode cX12_takesWord 19 = .ok (.iadd, 1) := by decide +kernel
theorem dX12_takesWord_20 : decode cX12_takesWord 20 = .ok (.invokevirtual 241, 3) := by decide +kernel
theorem dX12_takesWord_23 : decode cX12_takesWord 23 = .ok (.ifCond .ne 5, 3) := by decide +kernel
theorem dX12_takesWord_26 : decode cX12_takesWord 26 = .ok (.iconst 0, 1) := by decide +kernel
theorem dX12_takesWord_27 : decode cX12_takesWord 27 = .ok (.ireturn, 1) := by decide +kernel
theorem dX12_takesWord_28 : decode cX12_takesWord 28 = .ok (.iinc 3 (-1), 3) := by decide +kernel
theorem dX12_takesWord_31 : decode cX12_takesWord 31 = .ok (.goto (-27), 3) := by decide +kernel
theorem dX12_takesWord_34 : decode cX12_takesWord 34 = .ok (.aload_n 0, 1) := by decide +kernel
theorem dX12_takesWord_35 : decode cX12_takesWord 35 = .ok (.bipush 32, 2) := by decide +kernel
theorem dX12_takesWord_37 : decode cX12_takesWord 37 = .ok (.invokevirtual 241, 3) := by decide +kernel
theorem dX12_takesWord_40 : decode cX12_takesWord 40 = .ok (.ireturn, 1) := by decide +kernel
theorem dX12_isDigit_0 : decode cX12_isDigit 0 = .ok (.aload_n 0, 1) := by decide +kernel
theorem dX12_isDigit_1 : decode cX12_isDigit 1 = .ok (.aload_n 0, 1) := by decide +kernel
theorem dX12_isDigit_2 : decode cX12_isDigit 2 = .ok (.invokevirtual 237, 3) := by decide +kernel
theorem dX12_isDigit_5 : decode cX12_isDigit 5 = .ok (.bipush 48, 2) := by decide +kernel
theorem dX12_isDigit_7 : decode cX12_isDigit 7 = .ok (.bipush 57, 2) := by decide +kernel
theorem dX12_isDigit_9 : decode cX12_isDigit 9 = .ok (.invokevirtual 233, 3) := by decide +kernel
theorem dX12_isDigit_12 : decode cX12_isDigit 12 = .ok (.ireturn, 1) := by decide +kernel
theorem dX12_takesNumber_0 : decode cX12_takesNumber 0 = .ok (.aload_n 0, 1) := by decide +kernel
theorem dX12_takesNumber_1 : decode cX12_takesNumber 1 = .ok (.invokevirtual 245, 3) := by decide +kernel
theorem dX12_takesNumber_4 : decode cX12_takesNumber 4 = .ok (.ifCond .ne 5, 3) := by decide +kernel
theorem dX12_takesNumber_7 : decode cX12_takesNumber 7 = .ok (.iconst 0, 1) := by decide +kernel
theorem dX12_takesNumber_8 : decode cX12_takesNumber 8 = .ok (.ireturn, 1) := by decide +kernel
theorem dX12_takesNumber_9 : decode cX12_takesNumber 9 = .ok (.aload_n 0, 1) := by decide +kernel
theorem dX12_takesNumber_10 : decode cX12_takesNumber 10 = .ok (.iconst 0, 1) := by decide +kernel
theorem dX12_takesNumber_11 : decode cX12_takesNumber 11 = .ok (.putfield 22, 3) := by decide +kernel
theorem dX12_takesNumber_14 : decode cX12_takesNumber 14 = .ok (.iconst 0, 1) := by decide +kernel
theorem dX12_takesNumber_15 : decode cX12_takesNumber 15 = .ok (.istore_n 2, 1) := by decide +kernel
theorem dX12_takesNumber_16 : decode cX12_takesNumber 16 = .ok (.iload_n 2, 1) := by decide +kernel
theorem dX12_takesNumber_17 : decode cX12_takesNumber 17 = .ok (.iload_n 1, 1) := by decide +kernel
theorem dX12_takesNumber_18 : decode cX12_takesNumber 18 = .ok (.if_icmp .ge 45, 3) := by decide +kernel
theorem dX12_takesNumber_21 : decode cX12_takesNumber 21 = .ok (.aload_n 0, 1) := by decide +kernel
theorem dX12_takesNumber_22 : decode cX12_takesNumber 22 = .ok (.invokevirtual 245, 3) := by decide +kernel
theorem dX12_takesNumber_25 : decode cX12_takesNumber 25 = .ok (.ifCond .eq 38, 3) := by decide +kernel
theorem dX12_takesNumber_28 : decode cX12_takesNumber 28 = .ok (.aload_n 0, 1) := by decide +kernel
theorem dX12_takesNumber_29 : decode cX12_takesNumber 29 = .ok (.bipush 10, 2) := by decide +kernel
theorem dX12_takesNumber_31 : decode cX12_takesNumber 31 = .ok (.aload_n 0, 1) := by decide +kernel
theorem dX12_takesNumber_32 : decode cX12_takesNumber 32 = .ok (.getfield 22, 3) := by decide +kernel
theorem dX12_takesNumber_35 : decode cX12_takesNumber 35 = .ok (.imul, 1) := by decide +kernel
theorem dX12_takesNumber_36 : decode cX12_takesNumber 36 = .ok (.aload_n 0, 1) := by decide +kernel
theorem dX12_takesNumber_37 : decode cX12_takesNumber 37 = .ok (.invokevirtual 237, 3) := by decide +kernel
theorem dX12_takesNumber_40 : decode cX12_takesNumber 40 = .ok (.iadd, 1) := by decide +kernel
theorem dX12_takesNumber_41 : decode cX12_takesNumber 41 = .ok (.bipush 48, 2) := by decide +kernel
theorem dX12_takesNumber_43 : decode cX12_takesNumber 43 = .ok (.isub, 1) := by decide +kernel
theorem dX12_takesNumber_44 : decode cX12_takesNumber 44 = .ok (.putfield 22, 3) := by decide +kernel
theorem dX12_takesNumber_47 : decode cX12_takesNumber 47 = .ok (.aload_n 0, 1) := by decide +kernel
theorem dX12_takesNumber_48 : decode cX12_takesNumber 48 = .ok (.dup, 1) := by decide +kernel
theorem dX12_takesNumber_49 : decode cX12_takesNumber 49 = .ok (.getfield 19, 3) := by decide +kernel
theorem dX12_takesNumber_52 : decode cX12_takesNumber 52 = .ok (.iconst 1, 1) := by decide +kernel
theorem dX12_takesNumber_53 : decode cX12_takesNumber 53 = .ok (.iadd, 1) := by decide +kernel
theorem dX12_takesNumber_54 : decode cX12_takesNumber 54 = .ok (.putfield 19, 3) := by decide +kernel
theorem dX12_takesNumber_57 : decode cX12_takesNumber 57 = .ok (.iinc 2 1, 3) := by decide +kernel
theorem dX12_takesNumber_60 : decode cX12_takesNumber 60 = .ok (.goto (-44), 3) := by decide +kernel
theorem dX12_takesNumber_63 : decode cX12_takesNumber 63 = .ok (.iconst 1, 1) := by decide +kernel
theorem dX12_takesNumber_64 : decode cX12_takesNumber 64 = .ok (.ireturn, 1) := by decide +kernel
theorem dX12_put_0 : decode cX12_put 0 = .ok (.aload_n 0, 1) := by decide +kernel
theorem dX12_put_1 : decode cX12_put 1 = .ok (.getfield 47, 3) := by decide +kernel
theorem dX12_put_4 : decode cX12_put 4 = .ok (.aload_n 0, 1) := by decide +kernel
theorem dX12_put_5 : decode cX12_put 5 = .ok (.getfield 53, 3) := by decide +kernel
theorem dX12_put_8 : decode cX12_put 8 = .ok (.iload_n 1, 1) := by decide +kernel
theorem dX12_put_9 : decode cX12_put 9 = .ok (.iastore, 1) := by decide +kernel
theorem dX12_put_10 : decode cX12_put 10 = .ok (.aload_n 0, 1) := by decide +kernel
theorem dX12_put_11 : decode cX12_put 11 = .ok (.dup, 1) := by decide +kernel
theorem dX12_put_12 : decode cX12_put 12 = .ok (.getfield 53, 3) := by decide +kernel
theorem dX12_put_15 : decode cX12_put 15 = .ok (.iconst 1, 1) := by decide +kernel
theorem dX12_put_16 : decode cX12_put 16 = .ok (.iadd, 1) := by decide +kernel
theorem dX12_put_17 : decode cX12_put 17 = .ok (.putfield 53, 3) := by decide +kernel
theorem dX12_put_20 : decode cX12_put 20 = .ok (.return_, 1) := by decide +kernel
theorem dX12_whole_0 : decode cX12_whole 0 = .ok (.aload_n 0, 1) := by decide +kernel
theorem dX12_whole_1 : decode cX12_whole 1 = .ok (.getfield 56, 3) := by decide +kernel
theorem dX12_whole_4 : decode cX12_whole 4 = .ok (.ifCond .le 48, 3) := by decide +kernel
theorem dX12_whole_7 : decode cX12_whole 7 = .ok (.aload_n 0, 1) := by decide +kernel
theorem dX12_whole_8 : decode cX12_whole 8 = .ok (.getfield 50, 3) := by decide +kernel
theorem dX12_whole_11 : decode cX12_whole 11 = .ok (.aload_n 0, 1) := by decide +kernel
theorem dX12_whole_12 : decode cX12_whole 12 = .ok (.getfield 56, 3) := by decide +kernel
theorem dX12_whole_15 : decode cX12_whole 15 = .ok (.iconst 1, 1) := by decide +kernel
theorem dX12_whole_16 : decode cX12_whole 16 = .ok (.isub, 1) := by decide +kernel
theorem dX12_whole_17 : decode cX12_whole 17 = .ok (.iaload, 1) := by decide +kernel
theorem dX12_whole_18 : decode cX12_whole 18 = .ok (.bipush 33, 2) := by decide +kernel
theorem dX12_whole_20 : decode cX12_whole 20 = .ok (.if_icmp .ne 32, 3) := by decide +kernel
theorem dX12_whole_23 : decode cX12_whole 23 = .ok (.aload_n 0, 1) := by decide +kernel
theorem dX12_whole_24 : decode cX12_whole 24 = .ok (.bipush (-33), 2) := by decide +kernel
theorem dX12_whole_26 : decode cX12_whole 26 = .ok (.invokevirtual 249, 3) := by decide +kernel
theorem dX12_whole_29 : decode cX12_whole 29 = .ok (.aload_n 0, 1) := by decide +kernel
theorem dX12_whole_30 : decode cX12_whole 30 = .ok (.dup, 1) := by decide +kernel
theorem dX12_whole_31 : decode cX12_whole 31 = .ok (.getfield 56, 3) := by decide +kernel
theorem dX12_whole_34 : decode cX12_whole 34 = .ok (.iconst 1, 1) := by decide +kernel
theorem dX12_whole_35 : decode cX12_whole 35 = .ok (.isub, 1) := by decide +kernel
theorem dX12_whole_36 : decode cX12_whole 36 = .ok (.putfield 56, 3) := by decide +kernel
theorem dX12_whole_39 : decode cX12_whole 39 = .ok (.aload_n 0, 1) := by decide +kernel
theorem dX12_whole_40 : decode cX12_whole 40 = .ok (.dup, 1) := by decide +kernel
theorem dX12_whole_41 : decode cX12_whole 41 = .ok (.getfield 59, 3) := by decide +kernel
theorem dX12_whole_44 : decode cX12_whole 44 = .ok (.iconst 1, 1) := by decide +kernel
theorem dX12_whole_45 : decode cX12_whole 45 = .ok (.isub, 1) := by decide +kernel
theorem dX12_whole_46 : decode cX12_whole 46 = .ok (.putfield 59, 3) := by decide +kernel
theorem dX12_whole_49 : decode cX12_whole 49 = .ok (.goto (-49), 3) := by decide +kernel
theorem dX12_whole_52 : decode cX12_whole 52 = .ok (.return_, 1) := by decide +kernel
theorem dX12_settle_0 : decode cX12_settle 0 = .ok (.aload_n 0, 1) := by decide +kernel
theorem dX12_settle_1 : decode cX12_settle 1 = .ok (.getfield 56, 3) := by decide +kernel
theorem dX12_settle_4 : decode cX12_settle 4 = .ok (.ifCond .le 68, 3) := by decide +kernel
theorem dX12_settle_7 : decode cX12_settle 7 = .ok (.aload_n 0, 1) := by decide +kernel
theorem dX12_settle_8 : decode cX12_settle 8 = .ok (.getfield 50, 3) := by decide +kernel
theorem dX12_settle_11 : decode cX12_settle 11 = .ok (.aload_n 0, 1) := by decide +kernel
theorem dX12_settle_12 : decode cX12_settle 12 = .ok (.getfield 56, 3) := by decide +kernel
theorem dX12_settle_15 : decode cX12_settle 15 = .ok (.iconst 1, 1) := by decide +kernel
theorem dX12_settle_16 : decode cX12_settle 16 = .ok (.isub, 1) := by decide +kernel
theorem dX12_settle_17 : decode cX12_settle 17 = .ok (.iaload, 1) := by decide +kernel
theorem dX12_settle_18 : decode cX12_settle 18 = .ok (.bipush 38, 2) := by decide +kernel
theorem dX12_settle_20 : decode cX12_settle 20 = .ok (.if_icmp .eq 25, 3) := by decide +kernel
theorem dX12_settle_23 : decode cX12_settle 23 = .ok (.aload_n 0, 1) := by decide +kernel
theorem dX12_settle_24 : decode cX12_settle 24 = .ok (.getfield 50, 3) := by decide +kernel
theorem dX12_settle_27 : decode cX12_settle 27 = .ok (.aload_n 0, 1) := by decide +kernel
theorem dX12_settle_28 : decode cX12_settle 28 = .ok (.getfield 56, 3) := by decide +kernel
theorem dX12_settle_31 : decode cX12_settle 31 = .ok (.iconst 1, 1) := by decide +kernel
theorem dX12_settle_32 : decode cX12_settle 32 = .ok (.isub, 1) := by decide +kernel
theorem dX12_settle_33 : decode cX12_settle 33 = .ok (.iaload, 1) := by decide +kernel
theorem dX12_settle_34 : decode cX12_settle 34 = .ok (.bipush 124, 2) := by decide +kernel
theorem dX12_settle_36 : decode cX12_settle 36 = .ok (.if_icmp .ne 36, 3) := by decide +kernel
theorem dX12_settle_39 : decode cX12_settle 39 = .ok (.iload_n 1, 1) := by decide +kernel
theorem dX12_settle_40 : decode cX12_settle 40 = .ok (.bipush 38, 2) := by decide +kernel
theorem dX12_settle_42 : decode cX12_settle 42 = .ok (.if_icmp .eq 30, 3) := by decide +kernel
theorem dX12_settle_45 : decode cX12_settle 45 = .ok (.aload_n 0, 1) := by decide +kernel
theorem dX12_settle_46 : decode cX12_settle 46 = .ok (.dup, 1) := by decide +kernel
theorem dX12_settle_47 : decode cX12_settle 47 = .ok (.getfield 56, 3) := by decide +kernel
theorem dX12_settle_50 : decode cX12_settle 50 = .ok (.iconst 1, 1) := by decide +kernel
theorem dX12_settle_51 : decode cX12_settle 51 = .ok (.isub, 1) := by decide +kernel
theorem dX12_settle_52 : decode cX12_settle 52 = .ok (.putfield 56, 3) := by decide +kernel
theorem dX12_settle_55 : decode cX12_settle 55 = .ok (.aload_n 0, 1) := by decide +kernel
theorem dX12_settle_56 : decode cX12_settle 56 = .ok (.aload_n 0, 1) := by decide +kernel
theorem dX12_settle_57 : decode cX12_settle 57 = .ok (.getfield 50, 3) := by decide +kernel
theorem dX12_settle_60 : decode cX12_settle 60 = .ok (.aload_n 0, 1) := by decide +kernel
theorem dX12_settle_61 : decode cX12_settle 61 = .ok (.getfield 56, 3) := by decide +kernel
theorem dX12_settle_64 : decode cX12_settle 64 = .ok (.iaload, 1) := by decide +kernel
theorem dX12_settle_65 : decode cX12_settle 65 = .ok (.ineg, 1) := by decide +kernel
theorem dX12_settle_66 : decode cX12_settle 66 = .ok (.invokevirtual 249, 3) := by decide +kernel
theorem dX12_settle_69 : decode cX12_settle 69 = .ok (.goto (-69), 3) := by decide +kernel
theorem dX12_settle_72 : decode cX12_settle 72 = .ok (.return_, 1) := by decide +kernel
theorem dX12_place_0 : decode cX12_place 0 = .ok (.iload_n 1, 1) := by decide +kernel
theorem dX12_place_1 : decode cX12_place 1 = .ok (.lookupswitch 41 #[(98, 37), (104, 35), (119, 39)], 35) := by decide +kernel
theorem dX12_place_36 : decode cX12_place 36 = .ok (.iconst 0, 1) := by decide +kernel
theorem dX12_place_37 : decode cX12_place 37 = .ok (.ireturn, 1) := by decide +kernel
theorem dX12_place_38 : decode cX12_place 38 = .ok (.iconst 1, 1) := by decide +kernel
theorem dX12_place_39 : decode cX12_place 39 = .ok (.ireturn, 1) := by decide +kernel
theorem dX12_place_40 : decode cX12_place 40 = .ok (.iconst 2, 1) := by decide +kernel
theorem dX12_place_41 : decode cX12_place 41 = .ok (.ireturn, 1) := by decide +kernel
theorem dX12_place_42 : decode cX12_place 42 = .ok (.iconst (-1), 1) := by decide +kernel
theorem dX12_place_43 : decode cX12_place 43 = .ok (.ireturn, 1) := by decide +kernel
theorem dX12_takesTest_0 : decode cX12_takesTest 0 = .ok (.aload_n 0, 1) := by decide +kernel
theorem dX12_takesTest_1 : decode cX12_takesTest 1 = .ok (.aload_n 0, 1) := by decide +kernel
theorem dX12_takesTest_2 : decode cX12_takesTest 2 = .ok (.invokevirtual 237, 3) := by decide +kernel
theorem dX12_takesTest_5 : decode cX12_takesTest 5 = .ok (.invokevirtual 253, 3) := by decide +kernel
theorem dX12_takesTest_8 : decode cX12_takesTest 8 = .ok (.istore_n 1, 1) := by decide +kernel
theorem dX12_takesTest_9 : decode cX12_takesTest 9 = .ok (.iload_n 1, 1) := by decide +kernel
theorem dX12_takesTest_10 : decode cX12_takesTest 10 = .ok (.ifCond .ge 5, 3) := by decide +kernel
theorem dX12_takesTest_13 : decode cX12_takesTest 13 = .ok (.iconst 0, 1) := by decide +kernel
theorem dX12_takesTest_14 : decode cX12_takesTest 14 = .ok (.ireturn, 1) := by decide +kernel
theorem dX12_takesTest_15 : decode cX12_takesTest 15 = .ok (.aload_n 0, 1) := by decide +kernel
theorem dX12_takesTest_16 : decode cX12_takesTest 16 = .ok (.dup, 1) := by decide +kernel
theorem dX12_takesTest_17 : decode cX12_takesTest 17 = .ok (.getfield 19, 3) := by decide +kernel
theorem dX12_takesTest_20 : decode cX12_takesTest 20 = .ok (.iconst 1, 1) := by decide +kernel
theorem dX12_takesTest_21 : decode cX12_takesTest 21 = .ok (.iadd, 1) := by decide +kernel
theorem dX12_takesTest_22 : decode cX12_takesTest 22 = .ok (.putfield 19, 3) := by decide +kernel
theorem dX12_takesTest_25 : decode cX12_takesTest 25 = .ok (.aload_n 0, 1) := by decide +kernel
theorem dX12_takesTest_26 : decode cX12_takesTest 26 = .ok (.invokevirtual 237, 3) := by decide +kernel
theorem dX12_takesTest_29 : decode cX12_takesTest 29 = .ok (.istore_n 2, 1) := by decide +kernel
theorem dX12_takesTest_30 : decode cX12_takesTest 30 = .ok (.aload_n 0, 1) := by decide +kernel
theorem dX12_takesTest_31 : decode cX12_takesTest 31 = .ok (.iload_n 2, 1) := by decide +kernel
theorem dX12_takesTest_32 : decode cX12_takesTest 32 = .ok (.bipush 60, 2) := by decide +kernel
theorem dX12_takesTest_34 : decode cX12_takesTest 34 = .ok (.bipush 62, 2) := by decide +kernel
theorem dX12_takesTest_36 : decode cX12_takesTest 36 = .ok (.invokevirtual 233, 3) := by decide +kernel
theorem dX12_takesTest_39 : decode cX12_takesTest 39 = .ok (.ifCond .ne 5, 3) := by decide +kernel
theorem dX12_takesTest_42 : decode cX12_takesTest 42 = .ok (.iconst 0, 1) := by decide +kernel
theorem dX12_takesTest_43 : decode cX12_takesTest 43 = .ok (.ireturn, 1) := by decide +kernel
theorem dX12_takesTest_44 : decode cX12_takesTest 44 = .ok (.aload_n 0, 1) := by decide +kernel
theorem dX12_takesTest_45 : decode cX12_takesTest 45 = .ok (.dup, 1) := by decide +kernel
theorem dX12_takesTest_46 : decode cX12_takesTest 46 = .ok (.getfield 19, 3) := by decide +kernel
theorem dX12_takesTest_49 : decode cX12_takesTest 49 = .ok (.iconst 1, 1) := by decide +kernel
theorem dX12_takesTest_50 : decode cX12_takesTest 50 = .ok (.iadd, 1) := by decide +kernel
theorem dX12_takesTest_51 : decode cX12_takesTest 51 = .ok (.putfield 19, 3) := by decide +kernel
theorem dX12_takesTest_54 : decode cX12_takesTest 54 = .ok (.aload_n 0, 1) := by decide +kernel
theorem dX12_takesTest_55 : decode cX12_takesTest 55 = .ok (.iconst 2, 1) := by decide +kernel
theorem dX12_takesTest_56 : decode cX12_takesTest 56 = .ok (.invokevirtual 257, 3) := by decide +kernel
theorem dX12_takesTest_59 : decode cX12_takesTest 59 = .ok (.ifCond .ne 5, 3) := by decide +kernel
theorem dX12_takesTest_62 : decode cX12_takesTest 62 = .ok (.iconst 0, 1) := by decide +kernel
theorem dX12_takesTest_63 : decode cX12_takesTest 63 = .ok (.ireturn, 1) := by decide +kernel
theorem dX12_takesTest_64 : decode cX12_takesTest 64 = .ok (.aload_n 0, 1) := by decide +kernel
theorem dX12_takesTest_65 : decode cX12_takesTest 65 = .ok (.sipush 1000, 3) := by decide +kernel
theorem dX12_takesTest_68 : decode cX12_takesTest 68 = .ok (.iload_n 1, 1) := by decide +kernel
theorem dX12_takesTest_69 : decode cX12_takesTest 69 = .ok (.imul, 1) := by decide +kernel
theorem dX12_takesTest_70 : decode cX12_takesTest 70 = .ok (.bipush 100, 2) := by decide +kernel
theorem dX12_takesTest_72 : decode cX12_takesTest 72 = .ok (.iload_n 2, 1) := by decide +kernel
theorem dX12_takesTest_73 : decode cX12_takesTest 73 = .ok (.bipush 60, 2) := by decide +kernel
theorem dX12_takesTest_75 : decode cX12_takesTest 75 = .ok (.isub, 1) := by decide +kernel
theorem dX12_takesTest_76 : decode cX12_takesTest 76 = .ok (.imul, 1) := by decide +kernel
theorem dX12_takesTest_77 : decode cX12_takesTest 77 = .ok (.iadd, 1) := by decide +kernel
theorem dX12_takesTest_78 : decode cX12_takesTest 78 = .ok (.aload_n 0, 1) := by decide +kernel
theorem dX12_takesTest_79 : decode cX12_takesTest 79 = .ok (.getfield 22, 3) := by decide +kernel
theorem dX12_takesTest_82 : decode cX12_takesTest 82 = .ok (.iadd, 1) := by decide +kernel
theorem dX12_takesTest_83 : decode cX12_takesTest 83 = .ok (.invokevirtual 249, 3) := by decide +kernel
theorem dX12_takesTest_86 : decode cX12_takesTest 86 = .ok (.aload_n 0, 1) := by decide +kernel
theorem dX12_takesTest_87 : decode cX12_takesTest 87 = .ok (.invokevirtual 260, 3) := by decide +kernel
theorem dX12_takesTest_90 : decode cX12_takesTest 90 = .ok (.iconst 1, 1) := by decide +kernel
theorem dX12_takesTest_91 : decode cX12_takesTest 91 = .ok (.ireturn, 1) := by decide +kernel
theorem dX12_takesE_0 : decode cX12_takesE 0 = .ok (.aload_n 0, 1) := by decide +kernel
theorem dX12_takesE_1 : decode cX12_takesE 1 = .ok (.iconst 0, 1) := by decide +kernel
theorem dX12_takesE_2 : decode cX12_takesE 2 = .ok (.putfield 56, 3) := by decide +kernel
theorem dX12_takesE_5 : decode cX12_takesE 5 = .ok (.aload_n 0, 1) := by decide +kernel
theorem dX12_takesE_6 : decode cX12_takesE 6 = .ok (.iconst 0, 1) := by decide +kernel
theorem dX12_takesE_7 : decode cX12_takesE 7 = .ok (.putfield 59, 3) := by decide +kernel
theorem dX12_takesE_10 : decode cX12_takesE 10 = .ok (.aload_n 0, 1) := by decide +kernel
theorem dX12_takesE_11 : decode cX12_takesE 11 = .ok (.getfield 41, 3) := by decide +kernel
theorem dX12_takesE_14 : decode cX12_takesE 14 = .ok (.iload_n 1, 1) := by decide +kernel
theorem dX12_takesE_15 : decode cX12_takesE 15 = .ok (.aload_n 0, 1) := by decide +kernel
theorem dX12_takesE_16 : decode cX12_takesE 16 = .ok (.getfield 53, 3) := by decide +kernel
theorem dX12_takesE_19 : decode cX12_takesE 19 = .ok (.iastore, 1) := by decide +kernel
theorem dX12_takesE_20 : decode cX12_takesE 20 = .ok (.iconst 1, 1) := by decide +kernel
theorem dX12_takesE_21 : decode cX12_takesE 21 = .ok (.istore_n 2, 1) := by decide +kernel
theorem dX12_takesE_22 : decode cX12_takesE 22 = .ok (.aload_n 0, 1) := by decide +kernel
theorem dX12_takesE_23 : decode cX12_takesE 23 = .ok (.invokevirtual 237, 3) := by decide +kernel
theorem dX12_takesE_26 : decode cX12_takesE 26 = .ok (.istore_n 3, 1) := by decide +kernel
theorem dX12_takesE_27 : decode cX12_takesE 27 = .ok (.iload_n 2, 1) := by decide +kernel
theorem dX12_takesE_28 : decode cX12_takesE 28 = .ok (.ifCond .eq 82, 3) := by decide +kernel
theorem dX12_takesE_31 : decode cX12_takesE 31 = .ok (.iload_n 3, 1) := by decide +kernel
theorem dX12_takesE_32 : decode cX12_takesE 32 = .ok (.bipush 33, 2) := by decide +kernel
theorem dX12_takesE_34 : decode cX12_takesE 34 = .ok (.if_icmp .eq 9, 3) := by decide +kernel
theorem dX12_takesE_37 : decode cX12_takesE 37 = .ok (.iload_n 3, 1) := by decide +kernel
theorem dX12_takesE_38 : decode cX12_takesE 38 = .ok (.bipush 40, 2) := by decide +kernel
theorem dX12_takesE_40 : decode cX12_takesE 40 = .ok (.if_icmp .ne 56, 3) := by decide +kernel
theorem dX12_takesE_43 : decode cX12_takesE 43 = .ok (.aload_n 0, 1) := by decide +kernel
theorem dX12_takesE_44 : decode cX12_takesE 44 = .ok (.getfield 59, 3) := by decide +kernel
theorem dX12_takesE_47 : decode cX12_takesE 47 = .ok (.iconst 4, 1) := by decide +kernel
theorem dX12_takesE_48 : decode cX12_takesE 48 = .ok (.if_icmp .ne 5, 3) := by decide +kernel
theorem dX12_takesE_51 : decode cX12_takesE 51 = .ok (.iconst 0, 1) := by decide +kernel
theorem dX12_takesE_52 : decode cX12_takesE 52 = .ok (.ireturn, 1) := by decide +kernel
theorem dX12_takesE_53 : decode cX12_takesE 53 = .ok (.aload_n 0, 1) := by decide +kernel
theorem dX12_takesE_54 : decode cX12_takesE 54 = .ok (.dup, 1) := by decide +kernel
theorem dX12_takesE_55 : decode cX12_takesE 55 = .ok (.getfield 59, 3) := by decide +kernel
theorem dX12_takesE_58 : decode cX12_takesE 58 = .ok (.iconst 1, 1) := by decide +kernel
theorem dX12_takesE_59 : decode cX12_takesE 59 = .ok (.iadd, 1) := by decide +kernel
theorem dX12_takesE_60 : decode cX12_takesE 60 = .ok (.putfield 59, 3) := by decide +kernel
theorem dX12_takesE_63 : decode cX12_takesE 63 = .ok (.aload_n 0, 1) := by decide +kernel
theorem dX12_takesE_64 : decode cX12_takesE 64 = .ok (.getfield 50, 3) := by decide +kernel
theorem dX12_takesE_67 : decode cX12_takesE 67 = .ok (.aload_n 0, 1) := by decide +kernel
theorem dX12_takesE_68 : decode cX12_takesE 68 = .ok (.getfield 56, 3) := by decide +kernel
theorem dX12_takesE_71 : decode cX12_takesE 71 = .ok (.iload_n 3, 1) := by decide +kernel
theorem dX12_takesE_72 : decode cX12_takesE 72 = .ok (.iastore, 1) := by decide +kernel
theorem dX12_takesE_73 : decode cX12_takesE 73 = .ok (.aload_n 0, 1) := by decide +kernel
theorem dX12_takesE_74 : decode cX12_takesE 74 = .ok (.dup, 1) := by decide +kernel
theorem dX12_takesE_75 : decode cX12_takesE 75 = .ok (.getfield 56, 3) := by decide +kernel
theorem dX12_takesE_78 : decode cX12_takesE 78 = .ok (.iconst 1, 1) := by decide +kernel
theorem dX12_takesE_79 : decode cX12_takesE 79 = .ok (.iadd, 1) := by decide +kernel
theorem dX12_takesE_80 : decode cX12_takesE 80 = .ok (.putfield 56, 3) := by decide +kernel
theorem dX12_takesE_83 : decode cX12_takesE 83 = .ok (.aload_n 0, 1) := by decide +kernel
theorem dX12_takesE_84 : decode cX12_takesE 84 = .ok (.dup, 1) := by decide +kernel
theorem dX12_takesE_85 : decode cX12_takesE 85 = .ok (.getfield 19, 3) := by decide +kernel
theorem dX12_takesE_88 : decode cX12_takesE 88 = .ok (.iconst 1, 1) := by decide +kernel
theorem dX12_takesE_89 : decode cX12_takesE 89 = .ok (.iadd, 1) := by decide +kernel
theorem dX12_takesE_90 : decode cX12_takesE 90 = .ok (.putfield 19, 3) := by decide +kernel
theorem dX12_takesE_93 : decode cX12_takesE 93 = .ok (.goto (-71), 3) := by decide +kernel
theorem dX12_takesE_96 : decode cX12_takesE 96 = .ok (.aload_n 0, 1) := by decide +kernel
theorem dX12_takesE_97 : decode cX12_takesE 97 = .ok (.invokevirtual 263, 3) := by decide +kernel
theorem dX12_takesE_100 : decode cX12_takesE 100 = .ok (.ifCond .eq 8, 3) := by decide +kernel
theorem dX12_takesE_103 : decode cX12_takesE 103 = .ok (.iconst 0, 1) := by decide +kernel
theorem dX12_takesE_104 : decode cX12_takesE 104 = .ok (.istore_n 2, 1) := by decide +kernel
theorem dX12_takesE_105 : decode cX12_takesE 105 = .ok (.goto (-83), 3) := by decide +kernel
theorem dX12_takesE_108 : decode cX12_takesE 108 = .ok (.iconst 0, 1) := by decide +kernel
theorem dX12_takesE_109 : decode cX12_takesE 109 = .ok (.ireturn, 1) := by decide +kernel
theorem dX12_takesE_110 : decode cX12_takesE 110 = .ok (.iload_n 3, 1) := by decide +kernel
theorem dX12_takesE_111 : decode cX12_takesE 111 = .ok (.bipush 38, 2) := by decide +kernel
theorem dX12_takesE_113 : decode cX12_takesE 113 = .ok (.if_icmp .eq 9, 3) := by decide +kernel
theorem dX12_takesE_116 : decode cX12_takesE 116 = .ok (.iload_n 3, 1) := by decide +kernel
theorem dX12_takesE_117 : decode cX12_takesE 117 = .ok (.bipush 124, 2) := by decide +kernel
theorem dX12_takesE_119 : decode cX12_takesE 119 = .ok (.if_icmp .ne 43, 3) := by decide +kernel
theorem dX12_takesE_122 : decode cX12_takesE 122 = .ok (.aload_n 0, 1) := by decide +kernel
theorem dX12_takesE_123 : decode cX12_takesE 123 = .ok (.iload_n 3, 1) := by decide +kernel
theorem dX12_takesE_124 : decode cX12_takesE 124 = .ok (.invokevirtual 266, 3) := by decide +kernel
theorem dX12_takesE_127 : decode cX12_takesE 127 = .ok (.aload_n 0, 1) := by decide +kernel
theorem dX12_takesE_128 : decode cX12_takesE 128 = .ok (.getfield 50, 3) := by decide +kernel
theorem dX12_takesE_131 : decode cX12_takesE 131 = .ok (.aload_n 0, 1) := by decide +kernel
theorem dX12_takesE_132 : decode cX12_takesE 132 = .ok (.getfield 56, 3) := by decide +kernel
theorem dX12_takesE_135 : decode cX12_takesE 135 = .ok (.iload_n 3, 1) := by decide +kernel
theorem dX12_takesE_136 : decode cX12_takesE 136 = .ok (.iastore, 1) := by decide +kernel
theorem dX12_takesE_137 : decode cX12_takesE 137 = .ok (.aload_n 0, 1) := by decide +kernel
theorem dX12_takesE_138 : decode cX12_takesE 138 = .ok (.dup, 1) := by decide +kernel
theorem dX12_takesE_139 : decode cX12_takesE 139 = .ok (.getfield 56, 3) := by decide +kernel
theorem dX12_takesE_142 : decode cX12_takesE 142 = .ok (.iconst 1, 1) := by decide +kernel
theorem dX12_takesE_143 : decode cX12_takesE 143 = .ok (.iadd, 1) := by decide +kernel
theorem dX12_takesE_144 : decode cX12_takesE 144 = .ok (.putfield 56, 3) := by decide +kernel
theorem dX12_takesE_147 : decode cX12_takesE 147 = .ok (.iconst 1, 1) := by decide +kernel
theorem dX12_takesE_148 : decode cX12_takesE 148 = .ok (.istore_n 2, 1) := by decide +kernel
theorem dX12_takesE_149 : decode cX12_takesE 149 = .ok (.aload_n 0, 1) := by decide +kernel
theorem dX12_takesE_150 : decode cX12_takesE 150 = .ok (.dup, 1) := by decide +kernel
theorem dX12_takesE_151 : decode cX12_takesE 151 = .ok (.getfield 19, 3) := by decide +kernel
theorem dX12_takesE_154 : decode cX12_takesE 154 = .ok (.iconst 1, 1) := by decide +kernel
theorem dX12_takesE_155 : decode cX12_takesE 155 = .ok (.iadd, 1) := by decide +kernel
theorem dX12_takesE_156 : decode cX12_takesE 156 = .ok (.putfield 19, 3) := by decide +kernel
theorem dX12_takesE_159 : decode cX12_takesE 159 = .ok (.goto (-137), 3) := by decide +kernel
theorem dX12_takesE_162 : decode cX12_takesE 162 = .ok (.aload_n 0, 1) := by decide +kernel
theorem dX12_takesE_163 : decode cX12_takesE 163 = .ok (.bipush 124, 2) := by decide +kernel
theorem dX12_takesE_165 : decode cX12_takesE 165 = .ok (.invokevirtual 266, 3) := by decide +kernel
theorem dX12_takesE_168 : decode cX12_takesE 168 = .ok (.aload_n 0, 1) := by decide +kernel
theorem dX12_takesE_169 : decode cX12_takesE 169 = .ok (.getfield 44, 3) := by decide +kernel
theorem dX12_takesE_172 : decode cX12_takesE 172 = .ok (.iload_n 1, 1) := by decide +kernel
theorem dX12_takesE_173 : decode cX12_takesE 173 = .ok (.aload_n 0, 1) := by decide +kernel
theorem dX12_takesE_174 : decode cX12_takesE 174 = .ok (.getfield 53, 3) := by decide +kernel
theorem dX12_takesE_177 : decode cX12_takesE 177 = .ok (.iastore, 1) := by decide +kernel
theorem dX12_takesE_178 : decode cX12_takesE 178 = .ok (.aload_n 0, 1) := by decide +kernel
theorem dX12_takesE_179 : decode cX12_takesE 179 = .ok (.getfield 56, 3) := by decide +kernel
theorem dX12_takesE_182 : decode cX12_takesE 182 = .ok (.ifCond .ne 5, 3) := by decide +kernel
theorem dX12_takesE_185 : decode cX12_takesE 185 = .ok (.iconst 1, 1) := by decide +kernel
theorem dX12_takesE_186 : decode cX12_takesE 186 = .ok (.ireturn, 1) := by decide +kernel
theorem dX12_takesE_187 : decode cX12_takesE 187 = .ok (.iload_n 3, 1) := by decide +kernel
theorem dX12_takesE_188 : decode cX12_takesE 188 = .ok (.bipush 41, 2) := by decide +kernel
theorem dX12_takesE_190 : decode cX12_takesE 190 = .ok (.if_icmp .eq 5, 3) := by decide +kernel
theorem dX12_takesE_193 : decode cX12_takesE 193 = .ok (.iconst 0, 1) := by decide +kernel
theorem dX12_takesE_194 : decode cX12_takesE 194 = .ok (.ireturn, 1) := by decide +kernel
theorem dX12_takesE_195 : decode cX12_takesE 195 = .ok (.aload_n 0, 1) := by decide +kernel
theorem dX12_takesE_196 : decode cX12_takesE 196 = .ok (.dup, 1) := by decide +kernel
theorem dX12_takesE_197 : decode cX12_takesE 197 = .ok (.getfield 56, 3) := by decide +kernel
theorem dX12_takesE_200 : decode cX12_takesE 200 = .ok (.iconst 1, 1) := by decide +kernel
theorem dX12_takesE_201 : decode cX12_takesE 201 = .ok (.isub, 1) := by decide +kernel
theorem dX12_takesE_202 : decode cX12_takesE 202 = .ok (.putfield 56, 3) := by decide +kernel
theorem dX12_takesE_205 : decode cX12_takesE 205 = .ok (.aload_n 0, 1) := by decide +kernel
theorem dX12_takesE_206 : decode cX12_takesE 206 = .ok (.dup, 1) := by decide +kernel
theorem dX12_takesE_207 : decode cX12_takesE 207 = .ok (.getfield 59, 3) := by decide +kernel
theorem dX12_takesE_210 : decode cX12_takesE 210 = .ok (.iconst 1, 1) := by decide +kernel
theorem dX12_takesE_211 : decode cX12_takesE 211 = .ok (.isub, 1) := by decide +kernel
theorem dX12_takesE_212 : decode cX12_takesE 212 = .ok (.putfield 59, 3) := by decide +kernel
theorem dX12_takesE_215 : decode cX12_takesE 215 = .ok (.aload_n 0, 1) := by decide +kernel
theorem dX12_takesE_216 : decode cX12_takesE 216 = .ok (.dup, 1) := by decide +kernel
theorem dX12_takesE_217 : decode cX12_takesE 217 = .ok (.getfield 19, 3) := by decide +kernel
theorem dX12_takesE_220 : decode cX12_takesE 220 = .ok (.iconst 1, 1) := by decide +kernel
theorem dX12_takesE_221 : decode cX12_takesE 221 = .ok (.iadd, 1) := by decide +kernel
theorem dX12_takesE_222 : decode cX12_takesE 222 = .ok (.putfield 19, 3) := by decide +kernel
theorem dX12_takesE_225 : decode cX12_takesE 225 = .ok (.aload_n 0, 1) := by decide +kernel
theorem dX12_takesE_226 : decode cX12_takesE 226 = .ok (.invokevirtual 260, 3) := by decide +kernel
theorem dX12_takesE_229 : decode cX12_takesE 229 = .ok (.goto (-207), 3) := by decide +kernel
theorem dX12_takesHead_0 : decode cX12_takesHead 0 = .ok (.aload_n 0, 1) := by decide +kernel
theorem dX12_takesHead_1 : decode cX12_takesHead 1 = .ok (.invokevirtual 269, 3) := by decide +kernel
theorem dX12_takesHead_4 : decode cX12_takesHead 4 = .ok (.istore_n 2, 1) := by decide +kernel
theorem dX12_takesHead_5 : decode cX12_takesHead 5 = .ok (.aload_n 0, 1) := by decide +kernel
theorem dX12_takesHead_6 : decode cX12_takesHead 6 = .ok (.invokevirtual 237, 3) := by decide +kernel
theorem dX12_takesHead_9 : decode cX12_takesHead 9 = .ok (.lookupswitch 134 #[(99, 102), (100, 86), (108, 118), (119, 43)], 43) := by decide +kernel
theorem dX12_takesHead_52 : decode cX12_takesHead 52 = .ok (.aload_n 0, 1) := by decide +kernel
theorem dX12_takesHead_53 : decode cX12_takesHead 53 = .ok (.getfield 32, 3) := by decide +kernel
theorem dX12_takesHead_56 : decode cX12_takesHead 56 = .ok (.iload_n 1, 1) := by decide +kernel
theorem dX12_takesHead_57 : decode cX12_takesHead 57 = .ok (.iload_n 2, 1) := by decide +kernel
theorem dX12_takesHead_58 : decode cX12_takesHead 58 = .ok (.bipush 97, 2) := by decide +kernel
theorem dX12_takesHead_60 : decode cX12_takesHead 60 = .ok (.if_icmp .ne 7, 3) := by decide +kernel
theorem dX12_takesHead_63 : decode cX12_takesHead 63 = .ok (.iconst 1, 1) := by decide +kernel
theorem dX12_takesHead_64 : decode cX12_takesHead 64 = .ok (.goto 4, 3) := by decide +kernel
theorem dX12_takesHead_67 : decode cX12_takesHead 67 = .ok (.iconst 0, 1) := by decide +kernel
theorem dX12_takesHead_68 : decode cX12_takesHead 68 = .ok (.iastore, 1) := by decide +kernel
theorem dX12_takesHead_69 : decode cX12_takesHead 69 = .ok (.iload_n 2, 1) := by decide +kernel
theorem dX12_takesHead_70 : decode cX12_takesHead 70 = .ok (.bipush 97, 2) := by decide +kernel
theorem dX12_takesHead_72 : decode cX12_takesHead 72 = .ok (.if_icmp .ne 14, 3) := by decide +kernel
theorem dX12_takesHead_75 : decode cX12_takesHead 75 = .ok (.aload_n 0, 1) := by decide +kernel
theorem dX12_takesHead_76 : decode cX12_takesHead 76 = .ok (.sipush 23609, 3) := by decide +kernel
theorem dX12_takesHead_79 : decode cX12_takesHead 79 = .ok (.iconst 3, 1) := by decide +kernel
theorem dX12_takesHead_80 : decode cX12_takesHead 80 = .ok (.invokevirtual 272, 3) := by decide +kernel
theorem dX12_takesHead_83 : decode cX12_takesHead 83 = .ok (.goto 11, 3) := by decide +kernel
theorem dX12_takesHead_86 : decode cX12_takesHead 86 = .ok (.aload_n 0, 1) := by decide +kernel
theorem dX12_takesHead_87 : decode cX12_takesHead 87 = .ok (.ldc_w 276, 3) := by decide +kernel
theorem dX12_takesHead_90 : decode cX12_takesHead 90 = .ok (.iconst 4, 1) := by decide +kernel
theorem dX12_takesHead_91 : decode cX12_takesHead 91 = .ok (.invokevirtual 272, 3) := by decide +kernel
theorem dX12_takesHead_94 : decode cX12_takesHead 94 = .ok (.ireturn, 1) := by decide +kernel
theorem dX12_takesHead_95 : decode cX12_takesHead 95 = .ok (.aload_n 0, 1) := by decide +kernel
theorem dX12_takesHead_96 : decode cX12_takesHead 96 = .ok (.getfield 32, 3) := by decide +kernel
theorem dX12_takesHead_99 : decode cX12_takesHead 99 = .ok (.iload_n 1, 1) := by decide +kernel
theorem dX12_takesHead_100 : decode cX12_takesHead 100 = .ok (.iconst 2, 1) := by decide +kernel
theorem dX12_takesHead_101 : decode cX12_takesHead 101 = .ok (.iastore, 1) := by decide +kernel
theorem dX12_takesHead_102 : decode cX12_takesHead 102 = .ok (.aload_n 0, 1) := by decide +kernel
theorem dX12_takesHead_103 : decode cX12_takesHead 103 = .ok (.ldc_w 277, 3) := by decide +kernel
theorem dX12_takesHead_106 : decode cX12_takesHead 106 = .ok (.iconst 5, 1) := by decide +kernel
theorem dX12_takesHead_107 : decode cX12_takesHead 107 = .ok (.invokevirtual 272, 3) := by decide +kernel
theorem dX12_takesHead_110 : decode cX12_takesHead 110 = .ok (.ireturn, 1) := by decide +kernel
theorem dX12_takesHead_111 : decode cX12_takesHead 111 = .ok (.aload_n 0, 1) := by decide +kernel
theorem dX12_takesHead_112 : decode cX12_takesHead 112 = .ok (.getfield 32, 3) := by decide +kernel
theorem dX12_takesHead_115 : decode cX12_takesHead 115 = .ok (.iload_n 1, 1) := by decide +kernel
theorem dX12_takesHead_116 : decode cX12_takesHead 116 = .ok (.iconst 3, 1) := by decide +kernel
theorem dX12_takesHead_117 : decode cX12_takesHead 117 = .ok (.iastore, 1) := by decide +kernel
theorem dX12_takesHead_118 : decode cX12_takesHead 118 = .ok (.aload_n 0, 1) := by decide +kernel
theorem dX12_takesHead_119 : decode cX12_takesHead 119 = .ok (.ldc_w 278, 3) := by decide +kernel
theorem dX12_takesHead_122 : decode cX12_takesHead 122 = .ok (.iconst 5, 1) := by decide +kernel
theorem dX12_takesHead_123 : decode cX12_takesHead 123 = .ok (.invokevirtual 272, 3) := by decide +kernel
theorem dX12_takesHead_126 : decode cX12_takesHead 126 = .ok (.ireturn, 1) := by decide +kernel
theorem dX12_takesHead_127 : decode cX12_takesHead 127 = .ok (.aload_n 0, 1) := by decide +kernel
theorem dX12_takesHead_128 : decode cX12_takesHead 128 = .ok (.getfield 32, 3) := by decide +kernel
theorem dX12_takesHead_131 : decode cX12_takesHead 131 = .ok (.iload_n 1, 1) := by decide +kernel
theorem dX12_takesHead_132 : decode cX12_takesHead 132 = .ok (.iconst 4, 1) := by decide +kernel
theorem dX12_takesHead_133 : decode cX12_takesHead 133 = .ok (.iastore, 1) := by decide +kernel
theorem dX12_takesHead_134 : decode cX12_takesHead 134 = .ok (.aload_n 0, 1) := by decide +kernel
theorem dX12_takesHead_135 : decode cX12_takesHead 135 = .ok (.ldc_w 279, 3) := by decide +kernel
theorem dX12_takesHead_138 : decode cX12_takesHead 138 = .ok (.iconst 4, 1) := by decide +kernel
theorem dX12_takesHead_139 : decode cX12_takesHead 139 = .ok (.invokevirtual 272, 3) := by decide +kernel
theorem dX12_takesHead_142 : decode cX12_takesHead 142 = .ok (.ireturn, 1) := by decide +kernel
theorem dX12_takesHead_143 : decode cX12_takesHead 143 = .ok (.aload_n 0, 1) := by decide +kernel
theorem dX12_takesHead_144 : decode cX12_takesHead 144 = .ok (.getfield 32, 3) := by decide +kernel
theorem dX12_takesHead_147 : decode cX12_takesHead 147 = .ok (.iload_n 1, 1) := by decide +kernel
theorem dX12_takesHead_148 : decode cX12_takesHead 148 = .ok (.iconst 5, 1) := by decide +kernel
theorem dX12_takesHead_149 : decode cX12_takesHead 149 = .ok (.iastore, 1) := by decide +kernel
theorem dX12_takesHead_150 : decode cX12_takesHead 150 = .ok (.aload_n 0, 1) := by decide +kernel
theorem dX12_takesHead_151 : decode cX12_takesHead 151 = .ok (.ldc_w 280, 3) := by decide +kernel
theorem dX12_takesHead_154 : decode cX12_takesHead 154 = .ok (.iconst 5, 1) := by decide +kernel
theorem dX12_takesHead_155 : decode cX12_takesHead 155 = .ok (.invokevirtual 272, 3) := by decide +kernel
theorem dX12_takesHead_158 : decode cX12_takesHead 158 = .ok (.ireturn, 1) := by decide +kernel
theorem dX12_takesClause_0 : decode cX12_takesClause 0 = .ok (.aload_n 0, 1) := by decide +kernel
theorem dX12_takesClause_1 : decode cX12_takesClause 1 = .ok (.iload_n 1, 1) := by decide +kernel
theorem dX12_takesClause_2 : decode cX12_takesClause 2 = .ok (.invokevirtual 281, 3) := by decide +kernel
theorem dX12_takesClause_5 : decode cX12_takesClause 5 = .ok (.ifCond .eq 25, 3) := by decide +kernel
theorem dX12_takesClause_8 : decode cX12_takesClause 8 = .ok (.aload_n 0, 1) := by decide +kernel
theorem dX12_takesClause_9 : decode cX12_takesClause 9 = .ok (.aload_n 0, 1) := by decide +kernel
theorem dX12_takesClause_10 : decode cX12_takesClause 10 = .ok (.getfield 32, 3) := by decide +kernel
theorem dX12_takesClause_13 : decode cX12_takesClause 13 = .ok (.iload_n 1, 1) := by decide +kernel
theorem dX12_takesClause_14 : decode cX12_takesClause 14 = .ok (.iaload, 1) := by decide +kernel
theorem dX12_takesClause_15 : decode cX12_takesClause 15 = .ok (.iconst 1, 1) := by decide +kernel
theorem dX12_takesClause_16 : decode cX12_takesClause 16 = .ok (.if_icmp .ne 7, 3) := by decide +kernel
theorem dX12_takesClause_19 : decode cX12_takesClause 19 = .ok (.iconst 1, 1) := by decide +kernel
theorem dX12_takesClause_20 : decode cX12_takesClause 20 = .ok (.goto 4, 3) := by decide +kernel
theorem dX12_takesClause_23 : decode cX12_takesClause 23 = .ok (.iconst 2, 1) := by decide +kernel
theorem dX12_takesClause_24 : decode cX12_takesClause 24 = .ok (.invokevirtual 257, 3) := by decide +kernel
theorem dX12_takesClause_27 : decode cX12_takesClause 27 = .ok (.ifCond .ne 5, 3) := by decide +kernel
theorem dX12_takesClause_30 : decode cX12_takesClause 30 = .ok (.iconst 0, 1) := by decide +kernel
theorem dX12_takesClause_31 : decode cX12_takesClause 31 = .ok (.ireturn, 1) := by decide +kernel
theorem dX12_takesClause_32 : decode cX12_takesClause 32 = .ok (.aload_n 0, 1) := by decide +kernel
theorem dX12_takesClause_33 : decode cX12_takesClause 33 = .ok (.getfield 35, 3) := by decide +kernel
theorem dX12_takesClause_36 : decode cX12_takesClause 36 = .ok (.iload_n 1, 1) := by decide +kernel
theorem dX12_takesClause_37 : decode cX12_takesClause 37 = .ok (.aload_n 0, 1) := by decide +kernel
theorem dX12_takesClause_38 : decode cX12_takesClause 38 = .ok (.getfield 22, 3) := by decide +kernel
theorem dX12_takesClause_41 : decode cX12_takesClause 41 = .ok (.iastore, 1) := by decide +kernel
theorem dX12_takesClause_42 : decode cX12_takesClause 42 = .ok (.aload_n 0, 1) := by decide +kernel
theorem dX12_takesClause_43 : decode cX12_takesClause 43 = .ok (.getfield 32, 3) := by decide +kernel
theorem dX12_takesClause_46 : decode cX12_takesClause 46 = .ok (.iload_n 1, 1) := by decide +kernel
theorem dX12_takesClause_47 : decode cX12_takesClause 47 = .ok (.iaload, 1) := by decide +kernel
theorem dX12_takesClause_48 : decode cX12_takesClause 48 = .ok (.iconst 2, 1) := by decide +kernel
theorem dX12_takesClause_49 : decode cX12_takesClause 49 = .ok (.if_icmp .ne 26, 3) := by decide +kernel
theorem dX12_takesClause_52 : decode cX12_takesClause 52 = .ok (.aload_n 0, 1) := by decide +kernel
theorem dX12_takesClause_53 : decode cX12_takesClause 53 = .ok (.bipush 32, 2) := by decide +kernel
theorem dX12_takesClause_55 : decode cX12_takesClause 55 = .ok (.invokevirtual 241, 3) := by decide +kernel
theorem dX12_takesClause_58 : decode cX12_takesClause 58 = .ok (.ifCond .eq 15, 3) := by decide +kernel
theorem dX12_takesClause_61 : decode cX12_takesClause 61 = .ok (.aload_n 0, 1) := by decide +kernel
theorem dX12_takesClause_62 : decode cX12_takesClause 62 = .ok (.iload_n 1, 1) := by decide +kernel
theorem dX12_takesClause_63 : decode cX12_takesClause 63 = .ok (.invokevirtual 284, 3) := by decide +kernel
theorem dX12_takesClause_66 : decode cX12_takesClause 66 = .ok (.ifCond .eq 7, 3) := by decide +kernel
theorem dX12_takesClause_69 : decode cX12_takesClause 69 = .ok (.iconst 1, 1) := by decide +kernel
theorem dX12_takesClause_70 : decode cX12_takesClause 70 = .ok (.goto 4, 3) := by decide +kernel
theorem dX12_takesClause_73 : decode cX12_takesClause 73 = .ok (.iconst 0, 1) := by decide +kernel
theorem dX12_takesClause_74 : decode cX12_takesClause 74 = .ok (.ireturn, 1) := by decide +kernel
theorem dX12_takesClause_75 : decode cX12_takesClause 75 = .ok (.aload_n 0, 1) := by decide +kernel
theorem dX12_takesClause_76 : decode cX12_takesClause 76 = .ok (.getfield 32, 3) := by decide +kernel
theorem dX12_takesClause_79 : decode cX12_takesClause 79 = .ok (.iload_n 1, 1) := by decide +kernel
theorem dX12_takesClause_80 : decode cX12_takesClause 80 = .ok (.iaload, 1) := by decide +kernel
theorem dX12_takesClause_81 : decode cX12_takesClause 81 = .ok (.ifCond .eq 5, 3) := by decide +kernel
theorem dX12_takesClause_84 : decode cX12_takesClause 84 = .ok (.iconst 1, 1) := by decide +kernel
theorem dX12_takesClause_85 : decode cX12_takesClause 85 = .ok (.ireturn, 1) := by decide +kernel
theorem dX12_takesClause_86 : decode cX12_takesClause 86 = .ok (.aload_n 0, 1) := by decide +kernel
theorem dX12_takesClause_87 : decode cX12_takesClause 87 = .ok (.bipush 32, 2) := by decide +kernel
theorem dX12_takesClause_89 : decode cX12_takesClause 89 = .ok (.invokevirtual 241, 3) := by decide +kernel
theorem dX12_takesClause_92 : decode cX12_takesClause 92 = .ok (.ifCond .eq 11, 3) := by decide +kernel
theorem dX12_takesClause_95 : decode cX12_takesClause 95 = .ok (.aload_n 0, 1) := by decide +kernel
theorem dX12_takesClause_96 : decode cX12_takesClause 96 = .ok (.iconst 2, 1) := by decide +kernel
theorem dX12_takesClause_97 : decode cX12_takesClause 97 = .ok (.invokevirtual 257, 3) := by decide +kernel
theorem dX12_takesClause_100 : decode cX12_takesClause 100 = .ok (.ifCond .ne 5, 3) := by decide +kernel
theorem dX12_takesClause_103 : decode cX12_takesClause 103 = .ok (.iconst 0, 1) := by decide +kernel
theorem dX12_takesClause_104 : decode cX12_takesClause 104 = .ok (.ireturn, 1) := by decide +kernel
theorem dX12_takesClause_105 : decode cX12_takesClause 105 = .ok (.aload_n 0, 1) := by decide +kernel
theorem dX12_takesClause_106 : decode cX12_takesClause 106 = .ok (.getfield 38, 3) := by decide +kernel
theorem dX12_takesClause_109 : decode cX12_takesClause 109 = .ok (.iload_n 1, 1) := by decide +kernel
theorem dX12_takesClause_110 : decode cX12_takesClause 110 = .ok (.aload_n 0, 1) := by decide +kernel
theorem dX12_takesClause_111 : decode cX12_takesClause 111 = .ok (.getfield 22, 3) := by decide +kernel
theorem dX12_takesClause_114 : decode cX12_takesClause 114 = .ok (.iastore, 1) := by decide +kernel
theorem dX12_takesClause_115 : decode cX12_takesClause 115 = .ok (.iconst 1, 1) := by decide +kernel
theorem dX12_takesClause_116 : decode cX12_takesClause 116 = .ok (.ireturn, 1) := by decide +kernel
theorem dX12_goesText_0 : decode cX12_goesText 0 = .ok (.aload_n 0, 1) := by decide +kernel
theorem dX12_goesText_1 : decode cX12_goesText 1 = .ok (.iconst 0, 1) := by decide +kernel
theorem dX12_goesText_2 : decode cX12_goesText 2 = .ok (.putfield 19, 3) := by decide +kernel
theorem dX12_goesText_5 : decode cX12_goesText 5 = .ok (.aload_n 0, 1) := by decide +kernel
theorem dX12_goesText_6 : decode cX12_goesText 6 = .ok (.bipush 100, 2) := by decide +kernel
theorem dX12_goesText_8 : decode cX12_goesText 8 = .ok (.iload_n 1, 1) := by decide +kernel
theorem dX12_goesText_9 : decode cX12_goesText 9 = .ok (.imul, 1) := by decide +kernel
theorem dX12_goesText_10 : decode cX12_goesText 10 = .ok (.putfield 53, 3) := by decide +kernel
theorem dX12_goesText_13 : decode cX12_goesText 13 = .ok (.iconst 0, 1) := by decide +kernel
theorem dX12_goesText_14 : decode cX12_goesText 14 = .ok (.istore_n 2, 1) := by decide +kernel
theorem dX12_goesText_15 : decode cX12_goesText 15 = .ok (.aload_n 0, 1) := by decide +kernel
theorem dX12_goesText_16 : decode cX12_goesText 16 = .ok (.bipush 12, 2) := by decide +kernel
theorem dX12_goesText_18 : decode cX12_goesText 18 = .ok (.iload_n 1, 1) := by decide +kernel
theorem dX12_goesText_19 : decode cX12_goesText 19 = .ok (.imul, 1) := by decide +kernel
theorem dX12_goesText_20 : decode cX12_goesText 20 = .ok (.iload_n 2, 1) := by decide +kernel
theorem dX12_goesText_21 : decode cX12_goesText 21 = .ok (.iadd, 1) := by decide +kernel
theorem dX12_goesText_22 : decode cX12_goesText 22 = .ok (.invokevirtual 287, 3) := by decide +kernel
theorem dX12_goesText_25 : decode cX12_goesText 25 = .ok (.ifCond .ne 5, 3) := by decide +kernel
theorem dX12_goesText_28 : decode cX12_goesText 28 = .ok (.iconst 0, 1) := by decide +kernel
theorem dX12_goesText_29 : decode cX12_goesText 29 = .ok (.ireturn, 1) := by decide +kernel
theorem dX12_goesText_30 : decode cX12_goesText 30 = .ok (.iinc 2 1, 3) := by decide +kernel
theorem dX12_goesText_33 : decode cX12_goesText 33 = .ok (.aload_n 0, 1) := by decide +kernel
theorem dX12_goesText_34 : decode cX12_goesText 34 = .ok (.getfield 29, 3) := by decide +kernel
theorem dX12_goesText_37 : decode cX12_goesText 37 = .ok (.iload_n 1, 1) := by decide +kernel
theorem dX12_goesText_38 : decode cX12_goesText 38 = .ok (.iload_n 2, 1) := by decide +kernel
theorem dX12_goesText_39 : decode cX12_goesText 39 = .ok (.iastore, 1) := by decide +kernel
theorem dX12_goesText_40 : decode cX12_goesText 40 = .ok (.aload_n 0, 1) := by decide +kernel
theorem dX12_goesText_41 : decode cX12_goesText 41 = .ok (.getfield 19, 3) := by decide +kernel
theorem dX12_goesText_44 : decode cX12_goesText 44 = .ok (.aload_n 0, 1) := by decide +kernel
theorem dX12_goesText_45 : decode cX12_goesText 45 = .ok (.getfield 16, 3) := by decide +kernel
theorem dX12_goesText_48 : decode cX12_goesText 48 = .ok (.if_icmp .ne 5, 3) := by decide +kernel
theorem dX12_goesText_51 : decode cX12_goesText 51 = .ok (.iconst 1, 1) := by decide +kernel
theorem dX12_goesText_52 : decode cX12_goesText 52 = .ok (.ireturn, 1) := by decide +kernel
theorem dX12_goesText_53 : decode cX12_goesText 53 = .ok (.iload_n 2, 1) := by decide +kernel
theorem dX12_goesText_54 : decode cX12_goesText 54 = .ok (.bipush 12, 2) := by decide +kernel
theorem dX12_goesText_56 : decode cX12_goesText 56 = .ok (.if_icmp .eq 12, 3) := by decide +kernel
theorem dX12_goesText_59 : decode cX12_goesText 59 = .ok (.aload_n 0, 1) := by decide +kernel
theorem dX12_goesText_60 : decode cX12_goesText 60 = .ok (.bipush 59, 2) := by decide +kernel
theorem dX12_goesText_62 : decode cX12_goesText 62 = .ok (.invokevirtual 241, 3) := by decide +kernel
theorem dX12_goesText_65 : decode cX12_goesText 65 = .ok (.ifCond .ne (-50), 3) := by decide +kernel
theorem dX12_goesText_68 : decode cX12_goesText 68 = .ok (.iconst 0, 1) := by decide +kernel
theorem dX12_goesText_69 : decode cX12_goesText 69 = .ok (.ireturn, 1) := by decide +kernel
theorem dX12_waste_0 : decode cX12_waste 0 = .ok (.aload_n 0, 1) := by decide +kernel
theorem dX12_waste_1 : decode cX12_waste 1 = .ok (.getfield 7, 3) := by decide +kernel
theorem dX12_waste_4 : decode cX12_waste 4 = .ok (.iconst 5, 1) := by decide +kernel
theorem dX12_waste_5 : decode cX12_waste 5 = .ok (.if_icmp .ne 6, 3) := by decide +kernel
theorem dX12_waste_8 : decode cX12_waste 8 = .ok (.bipush (-4), 2) := by decide +kernel
theorem dX12_waste_10 : decode cX12_waste 10 = .ok (.ireturn, 1) := by decide +kernel
theorem dX12_waste_11 : decode cX12_waste 11 = .ok (.aload_n 0, 1) := by decide +kernel
theorem dX12_waste_12 : decode cX12_waste 12 = .ok (.aload_n 0, 1) := by decide +kernel
theorem dX12_waste_13 : decode cX12_waste 13 = .ok (.getfield 7, 3) := by decide +kernel
theorem dX12_waste_16 : decode cX12_waste 16 = .ok (.invokevirtual 290, 3) := by decide +kernel
theorem dX12_waste_19 : decode cX12_waste 19 = .ok (.istore_n 1, 1) := by decide +kernel
theorem dX12_waste_20 : decode cX12_waste 20 = .ok (.aload_n 0, 1) := by decide +kernel
theorem dX12_waste_21 : decode cX12_waste 21 = .ok (.iconst 0, 1) := by decide +kernel
theorem dX12_waste_22 : decode cX12_waste 22 = .ok (.putfield 16, 3) := by decide +kernel
theorem dX12_waste_25 : decode cX12_waste 25 = .ok (.iload_n 1, 1) := by decide +kernel
theorem dX12_waste_26 : decode cX12_waste 26 = .ok (.ifCond .ne 11, 3) := by decide +kernel
theorem dX12_waste_29 : decode cX12_waste 29 = .ok (.bipush (-10), 2) := by decide +kernel
theorem dX12_waste_31 : decode cX12_waste 31 = .ok (.aload_n 0, 1) := by decide +kernel
theorem dX12_waste_32 : decode cX12_waste 32 = .ok (.getfield 19, 3) := by decide +kernel
theorem dX12_waste_35 : decode cX12_waste 35 = .ok (.isub, 1) := by decide +kernel
theorem dX12_waste_36 : decode cX12_waste 36 = .ok (.ireturn, 1) := by decide +kernel
theorem dX12_waste_37 : decode cX12_waste 37 = .ok (.aload_n 0, 1) := by decide +kernel
theorem dX12_waste_38 : decode cX12_waste 38 = .ok (.aload_n 0, 1) := by decide +kernel
theorem dX12_waste_39 : decode cX12_waste 39 = .ok (.getfield 7, 3) := by decide +kernel
theorem dX12_waste_42 : decode cX12_waste 42 = .ok (.putfield 13, 3) := by decide +kernel
theorem dX12_waste_45 : decode cX12_waste 45 = .ok (.aload_n 0, 1) := by decide +kernel
theorem dX12_waste_46 : decode cX12_waste 46 = .ok (.dup, 1) := by decide +kernel
theorem dX12_waste_47 : decode cX12_waste 47 = .ok (.getfield 7, 3) := by decide +kernel
theorem dX12_waste_50 : decode cX12_waste 50 = .ok (.iconst 1, 1) := by decide +kernel
theorem dX12_waste_51 : decode cX12_waste 51 = .ok (.iadd, 1) := by decide +kernel
theorem dX12_waste_52 : decode cX12_waste 52 = .ok (.putfield 7, 3) := by decide +kernel
theorem dX12_waste_55 : decode cX12_waste 55 = .ok (.aload_n 0, 1) := by decide +kernel
theorem dX12_waste_56 : decode cX12_waste 56 = .ok (.invokevirtual 293, 3) := by decide +kernel
theorem dX12_waste_59 : decode cX12_waste 59 = .ok (.aload_n 0, 1) := by decide +kernel
theorem dX12_waste_60 : decode cX12_waste 60 = .ok (.getfield 13, 3) := by decide +kernel
theorem dX12_waste_63 : decode cX12_waste 63 = .ok (.ireturn, 1) := by decide +kernel
theorem dX12_first_0 : decode cX12_first 0 = .ok (.aload_n 0, 1) := by decide +kernel
theorem dX12_first_1 : decode cX12_first 1 = .ok (.getfield 13, 3) := by decide +kernel
theorem dX12_first_4 : decode cX12_first 4 = .ok (.ifCond .ge 7, 3) := by decide +kernel
theorem dX12_first_7 : decode cX12_first 7 = .ok (.iconst 0, 1) := by decide +kernel
theorem dX12_first_8 : decode cX12_first 8 = .ok (.goto 10, 3) := by decide +kernel
theorem dX12_first_11 : decode cX12_first 11 = .ok (.bipush 12, 2) := by decide +kernel
theorem dX12_first_13 : decode cX12_first 13 = .ok (.aload_n 0, 1) := by decide +kernel
theorem dX12_first_14 : decode cX12_first 14 = .ok (.getfield 13, 3) := by decide +kernel
theorem dX12_first_17 : decode cX12_first 17 = .ok (.imul, 1) := by decide +kernel
theorem dX12_first_18 : decode cX12_first 18 = .ok (.ireturn, 1) := by decide +kernel
theorem dX12_behind_0 : decode cX12_behind 0 = .ok (.aload_n 0, 1) := by decide +kernel
theorem dX12_behind_1 : decode cX12_behind 1 = .ok (.getfield 13, 3) := by decide +kernel
theorem dX12_behind_4 : decode cX12_behind 4 = .ok (.ifCond .ge 7, 3) := by decide +kernel
theorem dX12_behind_7 : decode cX12_behind 7 = .ok (.iconst 0, 1) := by decide +kernel
theorem dX12_behind_8 : decode cX12_behind 8 = .ok (.goto 20, 3) := by decide +kernel
theorem dX12_behind_11 : decode cX12_behind 11 = .ok (.bipush 12, 2) := by decide +kernel
theorem dX12_behind_13 : decode cX12_behind 13 = .ok (.aload_n 0, 1) := by decide +kernel
theorem dX12_behind_14 : decode cX12_behind 14 = .ok (.getfield 13, 3) := by decide +kernel
theorem dX12_behind_17 : decode cX12_behind 17 = .ok (.imul, 1) := by decide +kernel
theorem dX12_behind_18 : decode cX12_behind 18 = .ok (.aload_n 0, 1) := by decide +kernel
theorem dX12_behind_19 : decode cX12_behind 19 = .ok (.getfield 29, 3) := by decide +kernel
theorem dX12_behind_22 : decode cX12_behind 22 = .ok (.aload_n 0, 1) := by decide +kernel
theorem dX12_behind_23 : decode cX12_behind 23 = .ok (.getfield 13, 3) := by decide +kernel
theorem dX12_behind_26 : decode cX12_behind 26 = .ok (.iaload, 1) := by decide +kernel
theorem dX12_behind_27 : decode cX12_behind 27 = .ok (.iadd, 1) := by decide +kernel
theorem dX12_behind_28 : decode cX12_behind 28 = .ok (.ireturn, 1) := by decide +kernel
theorem dX12_last_0 : decode cX12_last 0 = .ok (.iload_n 2, 1) := by decide +kernel
theorem dX12_last_1 : decode cX12_last 1 = .ok (.istore_n 3, 1) := by decide +kernel
theorem dX12_last_2 : decode cX12_last 2 = .ok (.aload_n 0, 1) := by decide +kernel
theorem dX12_last_3 : decode cX12_last 3 = .ok (.invokevirtual 296, 3) := by decide +kernel
theorem dX12_last_6 : decode cX12_last 6 = .ok (.istore 4, 2) := by decide +kernel
theorem dX12_last_8 : decode cX12_last 8 = .ok (.iload 4, 2) := by decide +kernel
theorem dX12_last_10 : decode cX12_last 10 = .ok (.aload_n 0, 1) := by decide +kernel
theorem dX12_last_11 : decode cX12_last 11 = .ok (.invokevirtual 299, 3) := by decide +kernel
theorem dX12_last_14 : decode cX12_last 14 = .ok (.if_icmp .ge 32, 3) := by decide +kernel
theorem dX12_last_17 : decode cX12_last 17 = .ok (.aload_n 0, 1) := by decide +kernel
theorem dX12_last_18 : decode cX12_last 18 = .ok (.getfield 32, 3) := by decide +kernel
theorem dX12_last_21 : decode cX12_last 21 = .ok (.iload 4, 2) := by decide +kernel
theorem dX12_last_23 : decode cX12_last 23 = .ok (.iaload, 1) := by decide +kernel
theorem dX12_last_24 : decode cX12_last 24 = .ok (.iload_n 1, 1) := by decide +kernel
theorem dX12_last_25 : decode cX12_last 25 = .ok (.if_icmp .ne 13, 3) := by decide +kernel
theorem dX12_last_28 : decode cX12_last 28 = .ok (.aload_n 0, 1) := by decide +kernel
theorem dX12_last_29 : decode cX12_last 29 = .ok (.getfield 35, 3) := by decide +kernel
theorem dX12_last_32 : decode cX12_last 32 = .ok (.iload 4, 2) := by decide +kernel
theorem dX12_last_34 : decode cX12_last 34 = .ok (.iaload, 1) := by decide +kernel
theorem dX12_last_35 : decode cX12_last 35 = .ok (.goto 4, 3) := by decide +kernel
theorem dX12_last_38 : decode cX12_last 38 = .ok (.iload_n 3, 1) := by decide +kernel
theorem dX12_last_39 : decode cX12_last 39 = .ok (.istore_n 3, 1) := by decide +kernel
theorem dX12_last_40 : decode cX12_last 40 = .ok (.iinc 4 1, 3) := by decide +kernel
theorem dX12_last_43 : decode cX12_last 43 = .ok (.goto (-35), 3) := by decide +kernel
theorem dX12_last_46 : decode cX12_last 46 = .ok (.iload_n 3, 1) := by decide +kernel
theorem dX12_last_47 : decode cX12_last 47 = .ok (.ireturn, 1) := by decide +kernel
theorem dX12_holdsTest_0 : decode cX12_holdsTest 0 = .ok (.iconst 0, 1) := by decide +kernel
theorem dX12_holdsTest_1 : decode cX12_holdsTest 1 = .ok (.istore 5, 2) := by decide +kernel
theorem dX12_holdsTest_3 : decode cX12_holdsTest 3 = .ok (.aload_n 0, 1) := by decide +kernel
theorem dX12_holdsTest_4 : decode cX12_holdsTest 4 = .ok (.getfield 41, 3) := by decide +kernel
theorem dX12_holdsTest_7 : decode cX12_holdsTest 7 = .ok (.iload_n 1, 1) := by decide +kernel
theorem dX12_holdsTest_8 : decode cX12_holdsTest 8 = .ok (.iaload, 1) := by decide +kernel
theorem dX12_holdsTest_9 : decode cX12_holdsTest 9 = .ok (.istore 6, 2) := by decide +kernel
theorem dX12_holdsTest_11 : decode cX12_holdsTest 11 = .ok (.iload 6, 2) := by decide +kernel
theorem dX12_holdsTest_13 : decode cX12_holdsTest 13 = .ok (.aload_n 0, 1) := by decide +kernel
theorem dX12_holdsTest_14 : decode cX12_holdsTest 14 = .ok (.getfield 44, 3) := by decide +kernel
theorem dX12_holdsTest_17 : decode cX12_holdsTest 17 = .ok (.iload_n 1, 1) := by decide +kernel
theorem dX12_holdsTest_18 : decode cX12_holdsTest 18 = .ok (.iaload, 1) := by decide +kernel
theorem dX12_holdsTest_19 : decode cX12_holdsTest 19 = .ok (.if_icmp .ge 251, 3) := by decide +kernel
theorem dX12_holdsTest_22 : decode cX12_holdsTest 22 = .ok (.aload_n 0, 1) := by decide +kernel
theorem dX12_holdsTest_23 : decode cX12_holdsTest 23 = .ok (.getfield 47, 3) := by decide +kernel
theorem dX12_holdsTest_26 : decode cX12_holdsTest 26 = .ok (.iload 6, 2) := by decide +kernel
theorem dX12_holdsTest_28 : decode cX12_holdsTest 28 = .ok (.iaload, 1) := by decide +kernel
theorem dX12_holdsTest_29 : decode cX12_holdsTest 29 = .ok (.istore 7, 2) := by decide +kernel
theorem dX12_holdsTest_31 : decode cX12_holdsTest 31 = .ok (.iload 7, 2) := by decide +kernel
theorem dX12_holdsTest_33 : decode cX12_holdsTest 33 = .ok (.bipush (-33), 2) := by decide +kernel
theorem dX12_holdsTest_35 : decode cX12_holdsTest 35 = .ok (.if_icmp .ne 32, 3) := by decide +kernel
theorem dX12_holdsTest_38 : decode cX12_holdsTest 38 = .ok (.aload_n 0, 1) := by decide +kernel
theorem dX12_holdsTest_39 : decode cX12_holdsTest 39 = .ok (.getfield 62, 3) := by decide +kernel
theorem dX12_holdsTest_42 : decode cX12_holdsTest 42 = .ok (.iload 5, 2) := by decide +kernel
theorem dX12_holdsTest_44 : decode cX12_holdsTest 44 = .ok (.iconst 1, 1) := by decide +kernel
theorem dX12_holdsTest_45 : decode cX12_holdsTest 45 = .ok (.isub, 1) := by decide +kernel
theorem dX12_holdsTest_46 : decode cX12_holdsTest 46 = .ok (.aload_n 0, 1) := by decide +kernel
theorem dX12_holdsTest_47 : decode cX12_holdsTest 47 = .ok (.getfield 62, 3) := by decide +kernel
theorem dX12_holdsTest_50 : decode cX12_holdsTest 50 = .ok (.iload 5, 2) := by decide +kernel
theorem dX12_holdsTest_52 : decode cX12_holdsTest 52 = .ok (.iconst 1, 1) := by decide +kernel
theorem dX12_holdsTest_53 : decode cX12_holdsTest 53 = .ok (.isub, 1) := by decide +kernel
theorem dX12_holdsTest_54 : decode cX12_holdsTest 54 = .ok (.baload, 1) := by decide +kernel
theorem dX12_holdsTest_55 : decode cX12_holdsTest 55 = .ok (.ifCond .ne 7, 3) := by decide +kernel
theorem dX12_holdsTest_58 : decode cX12_holdsTest 58 = .ok (.iconst 1, 1) := by decide +kernel
theorem dX12_holdsTest_59 : decode cX12_holdsTest 59 = .ok (.goto 4, 3) := by decide +kernel
theorem dX12_holdsTest_62 : decode cX12_holdsTest 62 = .ok (.iconst 0, 1) := by decide +kernel
theorem dX12_holdsTest_63 : decode cX12_holdsTest 63 = .ok (.bastore, 1) := by decide +kernel
theorem dX12_holdsTest_64 : decode cX12_holdsTest 64 = .ok (.goto 200, 3) := by decide +kernel
theorem dX12_holdsTest_67 : decode cX12_holdsTest 67 = .ok (.iload 7, 2) := by decide +kernel
theorem dX12_holdsTest_69 : decode cX12_holdsTest 69 = .ok (.ifCond .ge 82, 3) := by decide +kernel
theorem dX12_holdsTest_72 : decode cX12_holdsTest 72 = .ok (.iinc 5 (-1), 3) := by decide +kernel
theorem dX12_holdsTest_75 : decode cX12_holdsTest 75 = .ok (.aload_n 0, 1) := by decide +kernel
theorem dX12_holdsTest_76 : decode cX12_holdsTest 76 = .ok (.getfield 62, 3) := by decide +kernel
theorem dX12_holdsTest_79 : decode cX12_holdsTest 79 = .ok (.iload 5, 2) := by decide +kernel
theorem dX12_holdsTest_81 : decode cX12_holdsTest 81 = .ok (.iconst 1, 1) := by decide +kernel
theorem dX12_holdsTest_82 : decode cX12_holdsTest 82 = .ok (.isub, 1) := by decide +kernel
theorem dX12_holdsTest_83 : decode cX12_holdsTest 83 = .ok (.iload 7, 2) := by decide +kernel
theorem dX12_holdsTest_85 : decode cX12_holdsTest 85 = .ok (.bipush (-38), 2) := by decide +kernel
theorem dX12_holdsTest_87 : decode cX12_holdsTest 87 = .ok (.if_icmp .ne 33, 3) := by decide +kernel
theorem dX12_holdsTest_90 : decode cX12_holdsTest 90 = .ok (.aload_n 0, 1) := by decide +kernel
theorem dX12_holdsTest_91 : decode cX12_holdsTest 91 = .ok (.getfield 62, 3) := by decide +kernel
theorem dX12_holdsTest_94 : decode cX12_holdsTest 94 = .ok (.iload 5, 2) := by decide +kernel
theorem dX12_holdsTest_96 : decode cX12_holdsTest 96 = .ok (.iconst 1, 1) := by decide +kernel
theorem dX12_holdsTest_97 : decode cX12_holdsTest 97 = .ok (.isub, 1) := by decide +kernel
theorem dX12_holdsTest_98 : decode cX12_holdsTest 98 = .ok (.baload, 1) := by decide +kernel
theorem dX12_holdsTest_99 : decode cX12_holdsTest 99 = .ok (.ifCond .eq 17, 3) := by decide +kernel
theorem dX12_holdsTest_102 : decode cX12_holdsTest 102 = .ok (.aload_n 0, 1) := by decide +kernel
theorem dX12_holdsTest_103 : decode cX12_holdsTest 103 = .ok (.getfield 62, 3) := by decide +kernel
theorem dX12_holdsTest_106 : decode cX12_holdsTest 106 = .ok (.iload 5, 2) := by decide +kernel
theorem dX12_holdsTest_108 : decode cX12_holdsTest 108 = .ok (.baload, 1) := by decide +kernel
theorem dX12_holdsTest_109 : decode cX12_holdsTest 109 = .ok (.ifCond .eq 7, 3) := by decide +kernel
theorem dX12_holdsTest_112 : decode cX12_holdsTest 112 = .ok (.iconst 1, 1) := by decide +kernel
theorem dX12_holdsTest_113 : decode cX12_holdsTest 113 = .ok (.goto 34, 3) := by decide +kernel
theorem dX12_holdsTest_116 : decode cX12_holdsTest 116 = .ok (.iconst 0, 1) := by decide +kernel
theorem dX12_holdsTest_117 : decode cX12_holdsTest 117 = .ok (.goto 30, 3) := by decide +kernel
theorem dX12_holdsTest_120 : decode cX12_holdsTest 120 = .ok (.aload_n 0, 1) := by decide +kernel
theorem dX12_holdsTest_121 : decode cX12_holdsTest 121 = .ok (.getfield 62, 3) := by decide +kernel
theorem dX12_holdsTest_124 : decode cX12_holdsTest 124 = .ok (.iload 5, 2) := by decide +kernel
theorem dX12_holdsTest_126 : decode cX12_holdsTest 126 = .ok (.iconst 1, 1) := by decide +kernel
theorem dX12_holdsTest_127 : decode cX12_holdsTest 127 = .ok (.isub, 1) := by decide +kernel
theorem dX12_holdsTest_128 : decode cX12_holdsTest 128 = .ok (.baload, 1) := by decide +kernel
theorem dX12_holdsTest_129 : decode cX12_holdsTest 129 = .ok (.ifCond .ne 13, 3) := by decide +kernel
theorem dX12_holdsTest_132 : decode cX12_holdsTest 132 = .ok (.aload_n 0, 1) := by decide +kernel
theorem dX12_holdsTest_133 : decode cX12_holdsTest 133 = .ok (.getfield 62, 3) := by decide +kernel
theorem dX12_holdsTest_136 : decode cX12_holdsTest 136 = .ok (.iload 5, 2) := by decide +kernel
theorem dX12_holdsTest_138 : decode cX12_holdsTest 138 = .ok (.baload, 1) := by decide +kernel
theorem dX12_holdsTest_139 : decode cX12_holdsTest 139 = .ok (.ifCond .eq 7, 3) := by decide +kernel
theorem dX12_holdsTest_142 : decode cX12_holdsTest 142 = .ok (.iconst 1, 1) := by decide +kernel
theorem dX12_holdsTest_143 : decode cX12_holdsTest 143 = .ok (.goto 4, 3) := by decide +kernel
theorem dX12_holdsTest_146 : decode cX12_holdsTest 146 = .ok (.iconst 0, 1) := by decide +kernel
theorem dX12_holdsTest_147 : decode cX12_holdsTest 147 = .ok (.bastore, 1) := by decide +kernel
theorem dX12_holdsTest_148 : decode cX12_holdsTest 148 = .ok (.goto 116, 3) := by decide +kernel
theorem dX12_holdsTest_151 : decode cX12_holdsTest 151 = .ok (.iload 7, 2) := by decide +kernel
theorem dX12_holdsTest_153 : decode cX12_holdsTest 153 = .ok (.sipush 1000, 3) := by decide +kernel
theorem dX12_holdsTest_156 : decode cX12_holdsTest 156 = .ok (.if_icmp .ge 10, 3) := by decide +kernel
theorem dX12_holdsTest_159 : decode cX12_holdsTest 159 = .ok (.iload_n 2, 1) := by decide +kernel
theorem dX12_holdsTest_160 : decode cX12_holdsTest 160 = .ok (.bipush 24, 2) := by decide +kernel
theorem dX12_holdsTest_162 : decode cX12_holdsTest 162 = .ok (.irem, 1) := by decide +kernel
theorem dX12_holdsTest_163 : decode cX12_holdsTest 163 = .ok (.goto 17, 3) := by decide +kernel
theorem dX12_holdsTest_166 : decode cX12_holdsTest 166 = .ok (.iload 7, 2) := by decide +kernel
theorem dX12_holdsTest_168 : decode cX12_holdsTest 168 = .ok (.sipush 2000, 3) := by decide +kernel
theorem dX12_holdsTest_171 : decode cX12_holdsTest 171 = .ok (.if_icmp .ge 7, 3) := by decide +kernel
theorem dX12_holdsTest_174 : decode cX12_holdsTest 174 = .ok (.iload_n 3, 1) := by decide +kernel
theorem dX12_holdsTest_175 : decode cX12_holdsTest 175 = .ok (.goto 5, 3) := by decide +kernel
theorem dX12_holdsTest_178 : decode cX12_holdsTest 178 = .ok (.iload 4, 2) := by decide +kernel
theorem dX12_holdsTest_180 : decode cX12_holdsTest 180 = .ok (.istore 8, 2) := by decide +kernel
theorem dX12_holdsTest_182 : decode cX12_holdsTest 182 = .ok (.iload 7, 2) := by decide +kernel
theorem dX12_holdsTest_184 : decode cX12_holdsTest 184 = .ok (.bipush 100, 2) := by decide +kernel
theorem dX12_holdsTest_186 : decode cX12_holdsTest 186 = .ok (.idiv, 1) := by decide +kernel
theorem dX12_holdsTest_187 : decode cX12_holdsTest 187 = .ok (.bipush 10, 2) := by decide +kernel
theorem dX12_holdsTest_189 : decode cX12_holdsTest 189 = .ok (.irem, 1) := by decide +kernel
theorem dX12_holdsTest_190 : decode cX12_holdsTest 190 = .ok (.istore 9, 2) := by decide +kernel
theorem dX12_holdsTest_192 : decode cX12_holdsTest 192 = .ok (.aload_n 0, 1) := by decide +kernel
theorem dX12_holdsTest_193 : decode cX12_holdsTest 193 = .ok (.getfield 62, 3) := by decide +kernel
theorem dX12_holdsTest_196 : decode cX12_holdsTest 196 = .ok (.iload 5, 2) := by decide +kernel
theorem dX12_holdsTest_198 : decode cX12_holdsTest 198 = .ok (.iload 9, 2) := by decide +kernel
theorem dX12_holdsTest_200 : decode cX12_holdsTest 200 = .ok (.ifCond .ne 21, 3) := by decide +kernel
theorem dX12_holdsTest_203 : decode cX12_holdsTest 203 = .ok (.iload 8, 2) := by decide +kernel
theorem dX12_holdsTest_205 : decode cX12_holdsTest 205 = .ok (.iload 7, 2) := by decide +kernel
theorem dX12_holdsTest_207 : decode cX12_holdsTest 207 = .ok (.bipush 100, 2) := by decide +kernel
theorem dX12_holdsTest_209 : decode cX12_holdsTest 209 = .ok (.irem, 1) := by decide +kernel
theorem dX12_holdsTest_210 : decode cX12_holdsTest 210 = .ok (.if_icmp .ge 7, 3) := by decide +kernel
theorem dX12_holdsTest_213 : decode cX12_holdsTest 213 = .ok (.iconst 1, 1) := by decide +kernel
theorem dX12_holdsTest_214 : decode cX12_holdsTest 214 = .ok (.goto 46, 3) := by decide +kernel
theorem dX12_holdsTest_217 : decode cX12_holdsTest 217 = .ok (.iconst 0, 1) := by decide +kernel
theorem dX12_holdsTest_218 : decode cX12_holdsTest 218 = .ok (.goto 42, 3) := by decide +kernel
theorem dX12_holdsTest_221 : decode cX12_holdsTest 221 = .ok (.iload 9, 2) := by decide +kernel
theorem dX12_holdsTest_223 : decode cX12_holdsTest 223 = .ok (.iconst 1, 1) := by decide +kernel
theorem dX12_holdsTest_224 : decode cX12_holdsTest 224 = .ok (.if_icmp .ne 21, 3) := by decide +kernel
theorem dX12_holdsTest_227 : decode cX12_holdsTest 227 = .ok (.iload 8, 2) := by decide +kernel
theorem dX12_holdsTest_229 : decode cX12_holdsTest 229 = .ok (.iload 7, 2) := by decide +kernel
theorem dX12_holdsTest_231 : decode cX12_holdsTest 231 = .ok (.bipush 100, 2) := by decide +kernel
theorem dX12_holdsTest_233 : decode cX12_holdsTest 233 = .ok (.irem, 1) := by decide +kernel
theorem dX12_holdsTest_234 : decode cX12_holdsTest 234 = .ok (.if_icmp .ne 7, 3) := by decide +kernel
theorem dX12_holdsTest_237 : decode cX12_holdsTest 237 = .ok (.iconst 1, 1) := by decide +kernel
theorem dX12_holdsTest_238 : decode cX12_holdsTest 238 = .ok (.goto 22, 3) := by decide +kernel
theorem dX12_holdsTest_241 : decode cX12_holdsTest 241 = .ok (.iconst 0, 1) := by decide +kernel
theorem dX12_holdsTest_242 : decode cX12_holdsTest 242 = .ok (.goto 18, 3) := by decide +kernel
theorem dX12_holdsTest_245 : decode cX12_holdsTest 245 = .ok (.iload 8, 2) := by decide +kernel
theorem dX12_holdsTest_247 : decode cX12_holdsTest 247 = .ok (.iload 7, 2) := by decide +kernel
theorem dX12_holdsTest_249 : decode cX12_holdsTest 249 = .ok (.bipush 100, 2) := by decide +kernel
theorem dX12_holdsTest_251 : decode cX12_holdsTest 251 = .ok (.irem, 1) := by decide +kernel
theorem dX12_holdsTest_252 : decode cX12_holdsTest 252 = .ok (.if_icmp .le 7, 3) := by decide +kernel
theorem dX12_holdsTest_255 : decode cX12_holdsTest 255 = .ok (.iconst 1, 1) := by decide +kernel
theorem dX12_holdsTest_256 : decode cX12_holdsTest 256 = .ok (.goto 4, 3) := by decide +kernel
theorem dX12_holdsTest_259 : decode cX12_holdsTest 259 = .ok (.iconst 0, 1) := by decide +kernel
theorem dX12_holdsTest_260 : decode cX12_holdsTest 260 = .ok (.bastore, 1) := by decide +kernel
theorem dX12_holdsTest_261 : decode cX12_holdsTest 261 = .ok (.iinc 5 1, 3) := by decide +kernel
theorem dX12_holdsTest_264 : decode cX12_holdsTest 264 = .ok (.iinc 6 1, 3) := by decide +kernel
theorem dX12_holdsTest_267 : decode cX12_holdsTest 267 = .ok (.goto (-256), 3) := by decide +kernel
theorem dX12_holdsTest_270 : decode cX12_holdsTest 270 = .ok (.aload_n 0, 1) := by decide +kernel
theorem dX12_holdsTest_271 : decode cX12_holdsTest 271 = .ok (.getfield 62, 3) := by decide +kernel
theorem dX12_holdsTest_274 : decode cX12_holdsTest 274 = .ok (.iconst 0, 1) := by decide +kernel
theorem dX12_holdsTest_275 : decode cX12_holdsTest 275 = .ok (.baload, 1) := by decide +kernel
theorem dX12_holdsTest_276 : decode cX12_holdsTest 276 = .ok (.ireturn, 1) := by decide +kernel
theorem dX12_drinksOf_0 : decode cX12_drinksOf 0 = .ok (.iconst 0, 1) := by decide +kernel
theorem dX12_drinksOf_1 : decode cX12_drinksOf 1 = .ok (.istore 4, 2) := by decide +kernel
theorem dX12_drinksOf_3 : decode cX12_drinksOf 3 = .ok (.aload_n 0, 1) := by decide +kernel
theorem dX12_drinksOf_4 : decode cX12_drinksOf 4 = .ok (.invokevirtual 296, 3) := by decide +kernel
theorem dX12_drinksOf_7 : decode cX12_drinksOf 7 = .ok (.istore 5, 2) := by decide +kernel
theorem dX12_drinksOf_9 : decode cX12_drinksOf 9 = .ok (.iload 5, 2) := by decide +kernel
theorem dX12_drinksOf_11 : decode cX12_drinksOf 11 = .ok (.aload_n 0, 1) := by decide +kernel
theorem dX12_drinksOf_12 : decode cX12_drinksOf 12 = .ok (.invokevirtual 299, 3) := by decide +kernel
theorem dX12_drinksOf_15 : decode cX12_drinksOf 15 = .ok (.if_icmp .ge 48, 3) := by decide +kernel
theorem dX12_drinksOf_18 : decode cX12_drinksOf 18 = .ok (.iload 4, 2) := by decide +kernel
theorem dX12_drinksOf_20 : decode cX12_drinksOf 20 = .ok (.aload_n 0, 1) := by decide +kernel
theorem dX12_drinksOf_21 : decode cX12_drinksOf 21 = .ok (.getfield 32, 3) := by decide +kernel
theorem dX12_drinksOf_24 : decode cX12_drinksOf 24 = .ok (.iload 5, 2) := by decide +kernel
theorem dX12_drinksOf_26 : decode cX12_drinksOf 26 = .ok (.iaload, 1) := by decide +kernel
theorem dX12_drinksOf_27 : decode cX12_drinksOf 27 = .ok (.iconst 2, 1) := by decide +kernel
theorem dX12_drinksOf_28 : decode cX12_drinksOf 28 = .ok (.if_icmp .ne 25, 3) := by decide +kernel
theorem dX12_drinksOf_31 : decode cX12_drinksOf 31 = .ok (.aload_n 0, 1) := by decide +kernel
theorem dX12_drinksOf_32 : decode cX12_drinksOf 32 = .ok (.iload 5, 2) := by decide +kernel
theorem dX12_drinksOf_34 : decode cX12_drinksOf 34 = .ok (.iload_n 2, 1) := by decide +kernel
theorem dX12_drinksOf_35 : decode cX12_drinksOf 35 = .ok (.iload_n 3, 1) := by decide +kernel
theorem dX12_drinksOf_36 : decode cX12_drinksOf 36 = .ok (.iload_n 1, 1) := by decide +kernel
theorem dX12_drinksOf_37 : decode cX12_drinksOf 37 = .ok (.invokevirtual 302, 3) := by decide +kernel
theorem dX12_drinksOf_40 : decode cX12_drinksOf 40 = .ok (.ifCond .eq 13, 3) := by decide +kernel
theorem dX12_drinksOf_43 : decode cX12_drinksOf 43 = .ok (.aload_n 0, 1) := by decide +kernel
theorem dX12_drinksOf_44 : decode cX12_drinksOf 44 = .ok (.getfield 35, 3) := by decide +kernel
theorem dX12_drinksOf_47 : decode cX12_drinksOf 47 = .ok (.iload 5, 2) := by decide +kernel
theorem dX12_drinksOf_49 : decode cX12_drinksOf 49 = .ok (.iaload, 1) := by decide +kernel
theorem dX12_drinksOf_50 : decode cX12_drinksOf 50 = .ok (.goto 4, 3) := by decide +kernel
theorem dX12_drinksOf_53 : decode cX12_drinksOf 53 = .ok (.iconst 0, 1) := by decide +kernel
theorem dX12_drinksOf_54 : decode cX12_drinksOf 54 = .ok (.iadd, 1) := by decide +kernel
theorem dX12_drinksOf_55 : decode cX12_drinksOf 55 = .ok (.istore 4, 2) := by decide +kernel
theorem dX12_drinksOf_57 : decode cX12_drinksOf 57 = .ok (.iinc 5 1, 3) := by decide +kernel
theorem dX12_drinksOf_60 : decode cX12_drinksOf 60 = .ok (.goto (-51), 3) := by decide +kernel
theorem dX12_drinksOf_63 : decode cX12_drinksOf 63 = .ok (.iload 4, 2) := by decide +kernel
theorem dX12_drinksOf_65 : decode cX12_drinksOf 65 = .ok (.ireturn, 1) := by decide +kernel
theorem dX12_lay_0 : decode cX12_lay 0 = .ok (.aload_n 0, 1) := by decide +kernel
theorem dX12_lay_1 : decode cX12_lay 1 = .ok (.iconst 0, 1) := by decide +kernel
theorem dX12_lay_2 : decode cX12_lay 2 = .ok (.putfield 75, 3) := by decide +kernel
theorem dX12_lay_5 : decode cX12_lay 5 = .ok (.iconst 0, 1) := by decide +kernel
theorem dX12_lay_6 : decode cX12_lay 6 = .ok (.istore_n 1, 1) := by decide +kernel
theorem dX12_lay_7 : decode cX12_lay 7 = .ok (.iconst 0, 1) := by decide +kernel
theorem dX12_lay_8 : decode cX12_lay 8 = .ok (.istore_n 2, 1) := by decide +kernel
theorem dX12_lay_9 : decode cX12_lay 9 = .ok (.iload_n 2, 1) := by decide +kernel
theorem dX12_lay_10 : decode cX12_lay 10 = .ok (.bipush 7, 2) := by decide +kernel
theorem dX12_lay_12 : decode cX12_lay 12 = .ok (.if_icmp .ge 16, 3) := by decide +kernel
theorem dX12_lay_15 : decode cX12_lay 15 = .ok (.aload_n 0, 1) := by decide +kernel
theorem dX12_lay_16 : decode cX12_lay 16 = .ok (.getfield 84, 3) := by decide +kernel
theorem dX12_lay_19 : decode cX12_lay 19 = .ok (.iload_n 2, 1) := by decide +kernel
theorem dX12_lay_20 : decode cX12_lay 20 = .ok (.iconst 3, 1) := by decide +kernel
theorem dX12_lay_21 : decode cX12_lay 21 = .ok (.iastore, 1) := by decide +kernel
theorem dX12_lay_22 : decode cX12_lay 22 = .ok (.iinc 2 1, 3) := by decide +kernel
theorem dX12_lay_25 : decode cX12_lay 25 = .ok (.goto (-16), 3) := by decide +kernel
theorem dX12_lay_28 : decode cX12_lay 28 = .ok (.aload_n 0, 1) := by decide +kernel
theorem dX12_lay_29 : decode cX12_lay 29 = .ok (.invokevirtual 296, 3) := by decide +kernel
theorem dX12_lay_32 : decode cX12_lay 32 = .ok (.istore_n 2, 1) := by decide +kernel
theorem dX12_lay_33 : decode cX12_lay 33 = .ok (.iload_n 2, 1) := by decide +kernel
theorem dX12_lay_34 : decode cX12_lay 34 = .ok (.aload_n 0, 1) := by decide +kernel
theorem dX12_lay_35 : decode cX12_lay 35 = .ok (.invokevirtual 299, 3) := by decide +kernel
theorem dX12_lay_38 : decode cX12_lay 38 = .ok (.if_icmp .ge 111, 3) := by decide +kernel
theorem dX12_lay_41 : decode cX12_lay 41 = .ok (.aload_n 0, 1) := by decide +kernel
theorem dX12_lay_42 : decode cX12_lay 42 = .ok (.getfield 32, 3) := by decide +kernel
theorem dX12_lay_45 : decode cX12_lay 45 = .ok (.iload_n 2, 1) := by decide +kernel
theorem dX12_lay_46 : decode cX12_lay 46 = .ok (.iaload, 1) := by decide +kernel
theorem dX12_lay_47 : decode cX12_lay 47 = .ok (.ifCond .ne 51, 3) := by decide +kernel
theorem dX12_lay_50 : decode cX12_lay 50 = .ok (.aload_n 0, 1) := by decide +kernel
theorem dX12_lay_51 : decode cX12_lay 51 = .ok (.getfield 75, 3) := by decide +kernel
theorem dX12_lay_54 : decode cX12_lay 54 = .ok (.iconst 5, 1) := by decide +kernel
theorem dX12_lay_55 : decode cX12_lay 55 = .ok (.if_icmp .ge 43, 3) := by decide +kernel
theorem dX12_lay_58 : decode cX12_lay 58 = .ok (.aload_n 0, 1) := by decide +kernel
theorem dX12_lay_59 : decode cX12_lay 59 = .ok (.getfield 78, 3) := by decide +kernel
theorem dX12_lay_62 : decode cX12_lay 62 = .ok (.aload_n 0, 1) := by decide +kernel
theorem dX12_lay_63 : decode cX12_lay 63 = .ok (.getfield 75, 3) := by decide +kernel
theorem dX12_lay_66 : decode cX12_lay 66 = .ok (.aload_n 0, 1) := by decide +kernel
theorem dX12_lay_67 : decode cX12_lay 67 = .ok (.getfield 35, 3) := by decide +kernel
theorem dX12_lay_70 : decode cX12_lay 70 = .ok (.iload_n 2, 1) := by decide +kernel
theorem dX12_lay_71 : decode cX12_lay 71 = .ok (.iaload, 1) := by decide +kernel
theorem dX12_lay_72 : decode cX12_lay 72 = .ok (.iastore, 1) := by decide +kernel
theorem dX12_lay_73 : decode cX12_lay 73 = .ok (.aload_n 0, 1) := by decide +kernel
theorem dX12_lay_74 : decode cX12_lay 74 = .ok (.getfield 81, 3) := by decide +kernel
theorem dX12_lay_77 : decode cX12_lay 77 = .ok (.aload_n 0, 1) := by decide +kernel
theorem dX12_lay_78 : decode cX12_lay 78 = .ok (.getfield 75, 3) := by decide +kernel
theorem dX12_lay_81 : decode cX12_lay 81 = .ok (.aload_n 0, 1) := by decide +kernel
theorem dX12_lay_82 : decode cX12_lay 82 = .ok (.getfield 38, 3) := by decide +kernel
theorem dX12_lay_85 : decode cX12_lay 85 = .ok (.iload_n 2, 1) := by decide +kernel
theorem dX12_lay_86 : decode cX12_lay 86 = .ok (.iaload, 1) := by decide +kernel
theorem dX12_lay_87 : decode cX12_lay 87 = .ok (.iastore, 1) := by decide +kernel
theorem dX12_lay_88 : decode cX12_lay 88 = .ok (.aload_n 0, 1) := by decide +kernel
theorem dX12_lay_89 : decode cX12_lay 89 = .ok (.dup, 1) := by decide +kernel
theorem dX12_lay_90 : decode cX12_lay 90 = .ok (.getfield 75, 3) := by decide +kernel
theorem dX12_lay_93 : decode cX12_lay 93 = .ok (.iconst 1, 1) := by decide +kernel
theorem dX12_lay_94 : decode cX12_lay 94 = .ok (.iadd, 1) := by decide +kernel
theorem dX12_lay_95 : decode cX12_lay 95 = .ok (.putfield 75, 3) := by decide +kernel
theorem dX12_lay_98 : decode cX12_lay 98 = .ok (.aload_n 0, 1) := by decide +kernel
theorem dX12_lay_99 : decode cX12_lay 99 = .ok (.getfield 32, 3) := by decide +kernel
theorem dX12_lay_102 : decode cX12_lay 102 = .ok (.iload_n 2, 1) := by decide +kernel
theorem dX12_lay_103 : decode cX12_lay 103 = .ok (.iaload, 1) := by decide +kernel
theorem dX12_lay_104 : decode cX12_lay 104 = .ok (.iconst 1, 1) := by decide +kernel
theorem dX12_lay_105 : decode cX12_lay 105 = .ok (.if_icmp .ne 38, 3) := by decide +kernel
theorem dX12_lay_108 : decode cX12_lay 108 = .ok (.iload_n 1, 1) := by decide +kernel
theorem dX12_lay_109 : decode cX12_lay 109 = .ok (.bipush 6, 2) := by decide +kernel
theorem dX12_lay_111 : decode cX12_lay 111 = .ok (.if_icmp .ge 32, 3) := by decide +kernel
theorem dX12_lay_114 : decode cX12_lay 114 = .ok (.aload_n 0, 1) := by decide +kernel
theorem dX12_lay_115 : decode cX12_lay 115 = .ok (.getfield 84, 3) := by decide +kernel
theorem dX12_lay_118 : decode cX12_lay 118 = .ok (.iload_n 1, 1) := by decide +kernel
theorem dX12_lay_119 : decode cX12_lay 119 = .ok (.aload_n 0, 1) := by decide +kernel
theorem dX12_lay_120 : decode cX12_lay 120 = .ok (.getfield 35, 3) := by decide +kernel
theorem dX12_lay_123 : decode cX12_lay 123 = .ok (.iload_n 2, 1) := by decide +kernel
theorem dX12_lay_124 : decode cX12_lay 124 = .ok (.iaload, 1) := by decide +kernel
theorem dX12_lay_125 : decode cX12_lay 125 = .ok (.iconst 1, 1) := by decide +kernel
theorem dX12_lay_126 : decode cX12_lay 126 = .ok (.if_icmp .ge 7, 3) := by decide +kernel
theorem dX12_lay_129 : decode cX12_lay 129 = .ok (.iconst 1, 1) := by decide +kernel
theorem dX12_lay_130 : decode cX12_lay 130 = .ok (.goto 9, 3) := by decide +kernel
theorem dX12_lay_133 : decode cX12_lay 133 = .ok (.aload_n 0, 1) := by decide +kernel
theorem dX12_lay_134 : decode cX12_lay 134 = .ok (.getfield 35, 3) := by decide +kernel
theorem dX12_lay_137 : decode cX12_lay 137 = .ok (.iload_n 2, 1) := by decide +kernel
theorem dX12_lay_138 : decode cX12_lay 138 = .ok (.iaload, 1) := by decide +kernel
theorem dX12_lay_139 : decode cX12_lay 139 = .ok (.iastore, 1) := by decide +kernel
theorem dX12_lay_140 : decode cX12_lay 140 = .ok (.iinc 1 1, 3) := by decide +kernel
theorem dX12_lay_143 : decode cX12_lay 143 = .ok (.iinc 2 1, 3) := by decide +kernel
theorem dX12_lay_146 : decode cX12_lay 146 = .ok (.goto (-113), 3) := by decide +kernel
theorem dX12_lay_149 : decode cX12_lay 149 = .ok (.iconst 0, 1) := by decide +kernel
theorem dX12_lay_150 : decode cX12_lay 150 = .ok (.istore_n 2, 1) := by decide +kernel
theorem dX12_lay_151 : decode cX12_lay 151 = .ok (.iload_n 2, 1) := by decide +kernel
theorem dX12_lay_152 : decode cX12_lay 152 = .ok (.aload_n 0, 1) := by decide +kernel
theorem dX12_lay_153 : decode cX12_lay 153 = .ok (.getfield 75, 3) := by decide +kernel
theorem dX12_lay_156 : decode cX12_lay 156 = .ok (.if_icmp .ge 33, 3) := by decide +kernel
theorem dX12_lay_159 : decode cX12_lay 159 = .ok (.aload_n 0, 1) := by decide +kernel
theorem dX12_lay_160 : decode cX12_lay 160 = .ok (.getfield 87, 3) := by decide +kernel
theorem dX12_lay_163 : decode cX12_lay 163 = .ok (.iload_n 2, 1) := by decide +kernel
theorem dX12_lay_164 : decode cX12_lay 164 = .ok (.aload_n 0, 1) := by decide +kernel
theorem dX12_lay_165 : decode cX12_lay 165 = .ok (.getfield 66, 3) := by decide +kernel
theorem dX12_lay_168 : decode cX12_lay 168 = .ok (.iload_n 2, 1) := by decide +kernel
theorem dX12_lay_169 : decode cX12_lay 169 = .ok (.iaload, 1) := by decide +kernel
theorem dX12_lay_170 : decode cX12_lay 170 = .ok (.iastore, 1) := by decide +kernel
theorem dX12_lay_171 : decode cX12_lay 171 = .ok (.aload_n 0, 1) := by decide +kernel
theorem dX12_lay_172 : decode cX12_lay 172 = .ok (.getfield 90, 3) := by decide +kernel
theorem dX12_lay_175 : decode cX12_lay 175 = .ok (.iload_n 2, 1) := by decide +kernel
theorem dX12_lay_176 : decode cX12_lay 176 = .ok (.aload_n 0, 1) := by decide +kernel
theorem dX12_lay_177 : decode cX12_lay 177 = .ok (.getfield 69, 3) := by decide +kernel
theorem dX12_lay_180 : decode cX12_lay 180 = .ok (.iload_n 2, 1) := by decide +kernel
theorem dX12_lay_181 : decode cX12_lay 181 = .ok (.iaload, 1) := by decide +kernel
theorem dX12_lay_182 : decode cX12_lay 182 = .ok (.iastore, 1) := by decide +kernel
theorem dX12_lay_183 : decode cX12_lay 183 = .ok (.iinc 2 1, 3) := by decide +kernel
theorem dX12_lay_186 : decode cX12_lay 186 = .ok (.goto (-35), 3) := by decide +kernel
theorem dX12_lay_189 : decode cX12_lay 189 = .ok (.return_, 1) := by decide +kernel
theorem dX12_fresh_0 : decode cX12_fresh 0 = .ok (.aload_n 0, 1) := by decide +kernel
theorem dX12_fresh_1 : decode cX12_fresh 1 = .ok (.invokevirtual 306, 3) := by decide +kernel
theorem dX12_fresh_4 : decode cX12_fresh 4 = .ok (.iconst 0, 1) := by decide +kernel
theorem dX12_fresh_5 : decode cX12_fresh 5 = .ok (.istore_n 1, 1) := by decide +kernel
theorem dX12_fresh_6 : decode cX12_fresh 6 = .ok (.iload_n 1, 1) := by decide +kernel
theorem dX12_fresh_7 : decode cX12_fresh 7 = .ok (.aload_n 0, 1) := by decide +kernel
theorem dX12_fresh_8 : decode cX12_fresh 8 = .ok (.getfield 75, 3) := by decide +kernel
theorem dX12_fresh_11 : decode cX12_fresh 11 = .ok (.if_icmp .ge 28, 3) := by decide +kernel
theorem dX12_fresh_14 : decode cX12_fresh 14 = .ok (.aload_n 0, 1) := by decide +kernel
theorem dX12_fresh_15 : decode cX12_fresh 15 = .ok (.getfield 66, 3) := by decide +kernel
theorem dX12_fresh_18 : decode cX12_fresh 18 = .ok (.iload_n 1, 1) := by decide +kernel
theorem dX12_fresh_19 : decode cX12_fresh 19 = .ok (.aload_n 0, 1) := by decide +kernel
theorem dX12_fresh_20 : decode cX12_fresh 20 = .ok (.getfield 78, 3) := by decide +kernel
theorem dX12_fresh_23 : decode cX12_fresh 23 = .ok (.iload_n 1, 1) := by decide +kernel
theorem dX12_fresh_24 : decode cX12_fresh 24 = .ok (.iaload, 1) := by decide +kernel
theorem dX12_fresh_25 : decode cX12_fresh 25 = .ok (.iastore, 1) := by decide +kernel
theorem dX12_fresh_26 : decode cX12_fresh 26 = .ok (.aload_n 0, 1) := by decide +kernel
theorem dX12_fresh_27 : decode cX12_fresh 27 = .ok (.getfield 69, 3) := by decide +kernel
theorem dX12_fresh_30 : decode cX12_fresh 30 = .ok (.iload_n 1, 1) := by decide +kernel
theorem dX12_fresh_31 : decode cX12_fresh 31 = .ok (.iconst 0, 1) := by decide +kernel
theorem dX12_fresh_32 : decode cX12_fresh 32 = .ok (.iastore, 1) := by decide +kernel
theorem dX12_fresh_33 : decode cX12_fresh 33 = .ok (.iinc 1 1, 3) := by decide +kernel
theorem dX12_fresh_36 : decode cX12_fresh 36 = .ok (.goto (-30), 3) := by decide +kernel
theorem dX12_fresh_39 : decode cX12_fresh 39 = .ok (.return_, 1) := by decide +kernel
theorem dX12_heldBy_0 : decode cX12_heldBy 0 = .ok (.iload_n 2, 1) := by decide +kernel
theorem dX12_heldBy_1 : decode cX12_heldBy 1 = .ok (.aload_n 0, 1) := by decide +kernel
theorem dX12_heldBy_2 : decode cX12_heldBy 2 = .ok (.getfield 90, 3) := by decide +kernel
theorem dX12_heldBy_5 : decode cX12_heldBy 5 = .ok (.iload_n 1, 1) := by decide +kernel
theorem dX12_heldBy_6 : decode cX12_heldBy 6 = .ok (.iaload, 1) := by decide +kernel
theorem dX12_heldBy_7 : decode cX12_heldBy 7 = .ok (.if_icmp .gt 12, 3) := by decide +kernel
theorem dX12_heldBy_10 : decode cX12_heldBy 10 = .ok (.aload_n 0, 1) := by decide +kernel
theorem dX12_heldBy_11 : decode cX12_heldBy 11 = .ok (.getfield 87, 3) := by decide +kernel
theorem dX12_heldBy_14 : decode cX12_heldBy 14 = .ok (.iload_n 1, 1) := by decide +kernel
theorem dX12_heldBy_15 : decode cX12_heldBy 15 = .ok (.iaload, 1) := by decide +kernel
theorem dX12_heldBy_16 : decode cX12_heldBy 16 = .ok (.goto 35, 3) := by decide +kernel
theorem dX12_heldBy_19 : decode cX12_heldBy 19 = .ok (.aload_n 0, 1) := by decide +kernel
theorem dX12_heldBy_20 : decode cX12_heldBy 20 = .ok (.aload_n 0, 1) := by decide +kernel
theorem dX12_heldBy_21 : decode cX12_heldBy 21 = .ok (.getfield 78, 3) := by decide +kernel
theorem dX12_heldBy_24 : decode cX12_heldBy 24 = .ok (.iload_n 1, 1) := by decide +kernel
theorem dX12_heldBy_25 : decode cX12_heldBy 25 = .ok (.iaload, 1) := by decide +kernel
theorem dX12_heldBy_26 : decode cX12_heldBy 26 = .ok (.aload_n 0, 1) := by decide +kernel
theorem dX12_heldBy_27 : decode cX12_heldBy 27 = .ok (.getfield 87, 3) := by decide +kernel
theorem dX12_heldBy_30 : decode cX12_heldBy 30 = .ok (.iload_n 1, 1) := by decide +kernel
theorem dX12_heldBy_31 : decode cX12_heldBy 31 = .ok (.iaload, 1) := by decide +kernel
theorem dX12_heldBy_32 : decode cX12_heldBy 32 = .ok (.aload_n 0, 1) := by decide +kernel
theorem dX12_heldBy_33 : decode cX12_heldBy 33 = .ok (.getfield 81, 3) := by decide +kernel
theorem dX12_heldBy_36 : decode cX12_heldBy 36 = .ok (.iload_n 1, 1) := by decide +kernel
theorem dX12_heldBy_37 : decode cX12_heldBy 37 = .ok (.iaload, 1) := by decide +kernel
theorem dX12_heldBy_38 : decode cX12_heldBy 38 = .ok (.iload_n 2, 1) := by decide +kernel
theorem dX12_heldBy_39 : decode cX12_heldBy 39 = .ok (.aload_n 0, 1) := by decide +kernel
theorem dX12_heldBy_40 : decode cX12_heldBy 40 = .ok (.getfield 90, 3) := by decide +kernel
theorem dX12_heldBy_43 : decode cX12_heldBy 43 = .ok (.iload_n 1, 1) := by decide +kernel
theorem dX12_heldBy_44 : decode cX12_heldBy 44 = .ok (.iaload, 1) := by decide +kernel
theorem dX12_heldBy_45 : decode cX12_heldBy 45 = .ok (.isub, 1) := by decide +kernel
theorem dX12_heldBy_46 : decode cX12_heldBy 46 = .ok (.imul, 1) := by decide +kernel
theorem dX12_heldBy_47 : decode cX12_heldBy 47 = .ok (.iadd, 1) := by decide +kernel
theorem dX12_heldBy_48 : decode cX12_heldBy 48 = .ok (.invokevirtual 309, 3) := by decide +kernel
theorem dX12_heldBy_51 : decode cX12_heldBy 51 = .ok (.ireturn, 1) := by decide +kernel
theorem dX12_isTold_0 : decode cX12_isTold 0 = .ok (.aload_n 0, 1) := by decide +kernel
theorem dX12_isTold_1 : decode cX12_isTold 1 = .ok (.iload_n 1, 1) := by decide +kernel
theorem dX12_isTold_2 : decode cX12_isTold 2 = .ok (.iconst 0, 1) := by decide +kernel
theorem dX12_isTold_3 : decode cX12_isTold 3 = .ok (.iconst 3, 1) := by decide +kernel
theorem dX12_isTold_4 : decode cX12_isTold 4 = .ok (.invokevirtual 233, 3) := by decide +kernel
theorem dX12_isTold_7 : decode cX12_isTold 7 = .ok (.ifCond .ne 39, 3) := by decide +kernel
theorem dX12_isTold_10 : decode cX12_isTold 10 = .ok (.aload_n 0, 1) := by decide +kernel
theorem dX12_isTold_11 : decode cX12_isTold 11 = .ok (.iload_n 1, 1) := by decide +kernel
theorem dX12_isTold_12 : decode cX12_isTold 12 = .ok (.bipush 10, 2) := by decide +kernel
theorem dX12_isTold_14 : decode cX12_isTold 14 = .ok (.bipush 14, 2) := by decide +kernel
theorem dX12_isTold_16 : decode cX12_isTold 16 = .ok (.invokevirtual 233, 3) := by decide +kernel
theorem dX12_isTold_19 : decode cX12_isTold 19 = .ok (.ifCond .ne 27, 3) := by decide +kernel
theorem dX12_isTold_22 : decode cX12_isTold 22 = .ok (.aload_n 0, 1) := by decide +kernel
theorem dX12_isTold_23 : decode cX12_isTold 23 = .ok (.iload_n 1, 1) := by decide +kernel
theorem dX12_isTold_24 : decode cX12_isTold 24 = .ok (.bipush 20, 2) := by decide +kernel
theorem dX12_isTold_26 : decode cX12_isTold 26 = .ok (.bipush 24, 2) := by decide +kernel
theorem dX12_isTold_28 : decode cX12_isTold 28 = .ok (.invokevirtual 233, 3) := by decide +kernel
theorem dX12_isTold_31 : decode cX12_isTold 31 = .ok (.ifCond .ne 15, 3) := by decide +kernel
theorem dX12_isTold_34 : decode cX12_isTold 34 = .ok (.aload_n 0, 1) := by decide +kernel
theorem dX12_isTold_35 : decode cX12_isTold 35 = .ok (.iload_n 1, 1) := by decide +kernel
theorem dX12_isTold_36 : decode cX12_isTold 36 = .ok (.bipush 30, 2) := by decide +kernel
theorem dX12_isTold_38 : decode cX12_isTold 38 = .ok (.bipush 35, 2) := by decide +kernel
theorem dX12_isTold_40 : decode cX12_isTold 40 = .ok (.invokevirtual 233, 3) := by decide +kernel
theorem dX12_isTold_43 : decode cX12_isTold 43 = .ok (.ifCond .eq 7, 3) := by decide +kernel
theorem dX12_isTold_46 : decode cX12_isTold 46 = .ok (.iconst 1, 1) := by decide +kernel
theorem dX12_isTold_47 : decode cX12_isTold 47 = .ok (.goto 4, 3) := by decide +kernel
theorem dX12_isTold_50 : decode cX12_isTold 50 = .ok (.iconst 0, 1) := by decide +kernel
theorem dX12_isTold_51 : decode cX12_isTold 51 = .ok (.ireturn, 1) := by decide +kernel
theorem dX12_of_0 : decode cX12_of 0 = .ok (.aload_n 0, 1) := by decide +kernel
theorem dX12_of_1 : decode cX12_of 1 = .ok (.iload_n 1, 1) := by decide +kernel
theorem dX12_of_2 : decode cX12_of 2 = .ok (.invokevirtual 313, 3) := by decide +kernel
theorem dX12_of_5 : decode cX12_of 5 = .ok (.ifCond .ne 5, 3) := by decide +kernel
theorem dX12_of_8 : decode cX12_of 8 = .ok (.iconst (-1), 1) := by decide +kernel
theorem dX12_of_9 : decode cX12_of 9 = .ok (.ireturn, 1) := by decide +kernel
theorem dX12_of_10 : decode cX12_of 10 = .ok (.aload_n 0, 1) := by decide +kernel
theorem dX12_of_11 : decode cX12_of 11 = .ok (.getfield 13, 3) := by decide +kernel
theorem dX12_of_14 : decode cX12_of 14 = .ok (.ifCond .ge 6, 3) := by decide +kernel
theorem dX12_of_17 : decode cX12_of 17 = .ok (.bipush (-3), 2) := by decide +kernel
theorem dX12_of_19 : decode cX12_of 19 = .ok (.ireturn, 1) := by decide +kernel
theorem dX12_of_20 : decode cX12_of 20 = .ok (.aload_n 0, 1) := by decide +kernel
theorem dX12_of_21 : decode cX12_of 21 = .ok (.invokevirtual 306, 3) := by decide +kernel
theorem dX12_of_24 : decode cX12_of 24 = .ok (.iload_n 1, 1) := by decide +kernel
theorem dX12_of_25 : decode cX12_of 25 = .ok (.ifCond .ne 8, 3) := by decide +kernel
theorem dX12_of_28 : decode cX12_of 28 = .ok (.aload_n 0, 1) := by decide +kernel
theorem dX12_of_29 : decode cX12_of 29 = .ok (.getfield 75, 3) := by decide +kernel
theorem dX12_of_32 : decode cX12_of 32 = .ok (.ireturn, 1) := by decide +kernel
theorem dX12_of_33 : decode cX12_of 33 = .ok (.iload_n 1, 1) := by decide +kernel
theorem dX12_of_34 : decode cX12_of 34 = .ok (.iconst 4, 1) := by decide +kernel
theorem dX12_of_35 : decode cX12_of 35 = .ok (.if_icmp .ge 39, 3) := by decide +kernel
theorem dX12_of_38 : decode cX12_of 38 = .ok (.iload_n 1, 1) := by decide +kernel
theorem dX12_of_39 : decode cX12_of 39 = .ok (.iconst 1, 1) := by decide +kernel
theorem dX12_of_40 : decode cX12_of 40 = .ok (.if_icmp .ne 13, 3) := by decide +kernel
theorem dX12_of_43 : decode cX12_of 43 = .ok (.aload_n 0, 1) := by decide +kernel
theorem dX12_of_44 : decode cX12_of 44 = .ok (.iconst 3, 1) := by decide +kernel
theorem dX12_of_45 : decode cX12_of 45 = .ok (.bipush 10, 2) := by decide +kernel
theorem dX12_of_47 : decode cX12_of 47 = .ok (.invokevirtual 316, 3) := by decide +kernel
theorem dX12_of_50 : decode cX12_of 50 = .ok (.goto 23, 3) := by decide +kernel
theorem dX12_of_53 : decode cX12_of 53 = .ok (.iload_n 1, 1) := by decide +kernel
theorem dX12_of_54 : decode cX12_of 54 = .ok (.iconst 2, 1) := by decide +kernel
theorem dX12_of_55 : decode cX12_of 55 = .ok (.if_icmp .ne 12, 3) := by decide +kernel
theorem dX12_of_58 : decode cX12_of 58 = .ok (.aload_n 0, 1) := by decide +kernel
theorem dX12_of_59 : decode cX12_of 59 = .ok (.iconst 4, 1) := by decide +kernel
theorem dX12_of_60 : decode cX12_of 60 = .ok (.iconst 1, 1) := by decide +kernel
theorem dX12_of_61 : decode cX12_of 61 = .ok (.invokevirtual 316, 3) := by decide +kernel
theorem dX12_of_64 : decode cX12_of 64 = .ok (.goto 9, 3) := by decide +kernel
theorem dX12_of_67 : decode cX12_of 67 = .ok (.aload_n 0, 1) := by decide +kernel
theorem dX12_of_68 : decode cX12_of 68 = .ok (.iconst 5, 1) := by decide +kernel
theorem dX12_of_69 : decode cX12_of 69 = .ok (.iconst 0, 1) := by decide +kernel
theorem dX12_of_70 : decode cX12_of 70 = .ok (.invokevirtual 316, 3) := by decide +kernel
theorem dX12_of_73 : decode cX12_of 73 = .ok (.ireturn, 1) := by decide +kernel
theorem dX12_of_74 : decode cX12_of 74 = .ok (.iload_n 1, 1) := by decide +kernel
theorem dX12_of_75 : decode cX12_of 75 = .ok (.bipush 10, 2) := by decide +kernel
theorem dX12_of_77 : decode cX12_of 77 = .ok (.irem, 1) := by decide +kernel
theorem dX12_of_78 : decode cX12_of 78 = .ok (.istore_n 2, 1) := by decide +kernel
theorem dX12_of_79 : decode cX12_of 79 = .ok (.iload_n 1, 1) := by decide +kernel
theorem dX12_of_80 : decode cX12_of 80 = .ok (.bipush 30, 2) := by decide +kernel
theorem dX12_of_82 : decode cX12_of 82 = .ok (.if_icmp .lt 22, 3) := by decide +kernel
theorem dX12_of_85 : decode cX12_of 85 = .ok (.iload_n 2, 1) := by decide +kernel
theorem dX12_of_86 : decode cX12_of 86 = .ok (.aload_n 0, 1) := by decide +kernel
theorem dX12_of_87 : decode cX12_of 87 = .ok (.getfield 75, 3) := by decide +kernel
theorem dX12_of_90 : decode cX12_of 90 = .ok (.if_icmp .gt 12, 3) := by decide +kernel
theorem dX12_of_93 : decode cX12_of 93 = .ok (.aload_n 0, 1) := by decide +kernel
theorem dX12_of_94 : decode cX12_of 94 = .ok (.getfield 84, 3) := by decide +kernel
theorem dX12_of_97 : decode cX12_of 97 = .ok (.iload_n 2, 1) := by decide +kernel
theorem dX12_of_98 : decode cX12_of 98 = .ok (.iaload, 1) := by decide +kernel
theorem dX12_of_99 : decode cX12_of 99 = .ok (.goto 4, 3) := by decide +kernel
theorem dX12_of_102 : decode cX12_of 102 = .ok (.iconst (-1), 1) := by decide +kernel
theorem dX12_of_103 : decode cX12_of 103 = .ok (.ireturn, 1) := by decide +kernel
theorem dX12_of_104 : decode cX12_of 104 = .ok (.iload_n 2, 1) := by decide +kernel
theorem dX12_of_105 : decode cX12_of 105 = .ok (.aload_n 0, 1) := by decide +kernel
theorem dX12_of_106 : decode cX12_of 106 = .ok (.getfield 75, 3) := by decide +kernel
theorem dX12_of_109 : decode cX12_of 109 = .ok (.if_icmp .lt 7, 3) := by decide +kernel
theorem dX12_of_112 : decode cX12_of 112 = .ok (.iconst (-1), 1) := by decide +kernel
theorem dX12_of_113 : decode cX12_of 113 = .ok (.goto 24, 3) := by decide +kernel
theorem dX12_of_116 : decode cX12_of 116 = .ok (.iload_n 1, 1) := by decide +kernel
theorem dX12_of_117 : decode cX12_of 117 = .ok (.bipush 20, 2) := by decide +kernel
theorem dX12_of_119 : decode cX12_of 119 = .ok (.if_icmp .ge 12, 3) := by decide +kernel
theorem dX12_of_122 : decode cX12_of 122 = .ok (.aload_n 0, 1) := by decide +kernel
theorem dX12_of_123 : decode cX12_of 123 = .ok (.getfield 78, 3) := by decide +kernel
theorem dX12_of_126 : decode cX12_of 126 = .ok (.iload_n 2, 1) := by decide +kernel
theorem dX12_of_127 : decode cX12_of 127 = .ok (.iaload, 1) := by decide +kernel
theorem dX12_of_128 : decode cX12_of 128 = .ok (.goto 9, 3) := by decide +kernel
theorem dX12_of_131 : decode cX12_of 131 = .ok (.aload_n 0, 1) := by decide +kernel
theorem dX12_of_132 : decode cX12_of 132 = .ok (.getfield 81, 3) := by decide +kernel
theorem dX12_of_135 : decode cX12_of 135 = .ok (.iload_n 2, 1) := by decide +kernel
theorem dX12_of_136 : decode cX12_of 136 = .ok (.iaload, 1) := by decide +kernel
theorem dX12_of_137 : decode cX12_of 137 = .ok (.ireturn, 1) := by decide +kernel
theorem dX12_isHour_0 : decode cX12_isHour 0 = .ok (.aload_n 0, 1) := by decide +kernel
theorem dX12_isHour_1 : decode cX12_isHour 1 = .ok (.iload_n 1, 1) := by decide +kernel
theorem dX12_isHour_2 : decode cX12_isHour 2 = .ok (.iconst 0, 1) := by decide +kernel
theorem dX12_isHour_3 : decode cX12_isHour 3 = .ok (.sipush 999, 3) := by decide +kernel
theorem dX12_isHour_6 : decode cX12_isHour 6 = .ok (.invokevirtual 233, 3) := by decide +kernel
theorem dX12_isHour_9 : decode cX12_isHour 9 = .ok (.ireturn, 1) := by decide +kernel
theorem dX12_holds_0 : decode cX12_holds 0 = .ok (.aload_n 0, 1) := by decide +kernel
theorem dX12_holds_1 : decode cX12_holds 1 = .ok (.iload_n 1, 1) := by decide +kernel
theorem dX12_holds_2 : decode cX12_holds 2 = .ok (.iconst 0, 1) := by decide +kernel
theorem dX12_holds_3 : decode cX12_holds 3 = .ok (.iconst 4, 1) := by decide +kernel
theorem dX12_holds_4 : decode cX12_holds 4 = .ok (.invokevirtual 233, 3) := by decide +kernel
theorem dX12_holds_7 : decode cX12_holds 7 = .ok (.ifCond .ne 5, 3) := by decide +kernel
theorem dX12_holds_10 : decode cX12_holds 10 = .ok (.iconst (-1), 1) := by decide +kernel
theorem dX12_holds_11 : decode cX12_holds 11 = .ok (.ireturn, 1) := by decide +kernel
theorem dX12_holds_12 : decode cX12_holds 12 = .ok (.aload_n 0, 1) := by decide +kernel
theorem dX12_holds_13 : decode cX12_holds 13 = .ok (.iload_n 2, 1) := by decide +kernel
theorem dX12_holds_14 : decode cX12_holds 14 = .ok (.invokevirtual 319, 3) := by decide +kernel
theorem dX12_holds_17 : decode cX12_holds 17 = .ok (.ifCond .ne 6, 3) := by decide +kernel
theorem dX12_holds_20 : decode cX12_holds 20 = .ok (.bipush (-2), 2) := by decide +kernel
theorem dX12_holds_22 : decode cX12_holds 22 = .ok (.ireturn, 1) := by decide +kernel
theorem dX12_holds_23 : decode cX12_holds 23 = .ok (.aload_n 0, 1) := by decide +kernel
theorem dX12_holds_24 : decode cX12_holds 24 = .ok (.getfield 13, 3) := by decide +kernel
theorem dX12_holds_27 : decode cX12_holds 27 = .ok (.ifCond .ge 6, 3) := by decide +kernel
theorem dX12_holds_30 : decode cX12_holds 30 = .ok (.bipush (-3), 2) := by decide +kernel
theorem dX12_holds_32 : decode cX12_holds 32 = .ok (.ireturn, 1) := by decide +kernel
theorem dX12_holds_33 : decode cX12_holds 33 = .ok (.aload_n 0, 1) := by decide +kernel
theorem dX12_holds_34 : decode cX12_holds 34 = .ok (.invokevirtual 306, 3) := by decide +kernel
theorem dX12_holds_37 : decode cX12_holds 37 = .ok (.iload_n 1, 1) := by decide +kernel
theorem dX12_holds_38 : decode cX12_holds 38 = .ok (.aload_n 0, 1) := by decide +kernel
theorem dX12_holds_39 : decode cX12_holds 39 = .ok (.getfield 75, 3) := by decide +kernel
theorem dX12_holds_42 : decode cX12_holds 42 = .ok (.if_icmp .ge 12, 3) := by decide +kernel
theorem dX12_holds_45 : decode cX12_holds 45 = .ok (.aload_n 0, 1) := by decide +kernel
theorem dX12_holds_46 : decode cX12_holds 46 = .ok (.iload_n 1, 1) := by decide +kernel
theorem dX12_holds_47 : decode cX12_holds 47 = .ok (.iload_n 2, 1) := by decide +kernel
theorem dX12_holds_48 : decode cX12_holds 48 = .ok (.invokevirtual 322, 3) := by decide +kernel
theorem dX12_holds_51 : decode cX12_holds 51 = .ok (.goto 4, 3) := by decide +kernel
theorem dX12_holds_54 : decode cX12_holds 54 = .ok (.iconst (-1), 1) := by decide +kernel
theorem dX12_holds_55 : decode cX12_holds 55 = .ok (.ireturn, 1) := by decide +kernel
theorem dX12_drinks_0 : decode cX12_drinks 0 = .ok (.aload_n 0, 1) := by decide +kernel
theorem dX12_drinks_1 : decode cX12_drinks 1 = .ok (.iload_n 1, 1) := by decide +kernel
theorem dX12_drinks_2 : decode cX12_drinks 2 = .ok (.iconst 0, 1) := by decide +kernel
theorem dX12_drinks_3 : decode cX12_drinks 3 = .ok (.iconst 5, 1) := by decide +kernel
theorem dX12_drinks_4 : decode cX12_drinks 4 = .ok (.invokevirtual 233, 3) := by decide +kernel
theorem dX12_drinks_7 : decode cX12_drinks 7 = .ok (.ifCond .ne 5, 3) := by decide +kernel
theorem dX12_drinks_10 : decode cX12_drinks 10 = .ok (.iconst (-1), 1) := by decide +kernel
theorem dX12_drinks_11 : decode cX12_drinks 11 = .ok (.ireturn, 1) := by decide +kernel
theorem dX12_drinks_12 : decode cX12_drinks 12 = .ok (.aload_n 0, 1) := by decide +kernel
theorem dX12_drinks_13 : decode cX12_drinks 13 = .ok (.iload_n 2, 1) := by decide +kernel
theorem dX12_drinks_14 : decode cX12_drinks 14 = .ok (.invokevirtual 319, 3) := by decide +kernel
theorem dX12_drinks_17 : decode cX12_drinks 17 = .ok (.ifCond .eq 14, 3) := by decide +kernel
theorem dX12_drinks_20 : decode cX12_drinks 20 = .ok (.aload_n 0, 1) := by decide +kernel
theorem dX12_drinks_21 : decode cX12_drinks 21 = .ok (.iload_n 3, 1) := by decide +kernel
theorem dX12_drinks_22 : decode cX12_drinks 22 = .ok (.iconst 1, 1) := by decide +kernel
theorem dX12_drinks_23 : decode cX12_drinks 23 = .ok (.bipush 9, 2) := by decide +kernel
theorem dX12_drinks_25 : decode cX12_drinks 25 = .ok (.invokevirtual 233, 3) := by decide +kernel
theorem dX12_drinks_28 : decode cX12_drinks 28 = .ok (.ifCond .ne 6, 3) := by decide +kernel
theorem dX12_drinks_31 : decode cX12_drinks 31 = .ok (.bipush (-2), 2) := by decide +kernel
theorem dX12_drinks_33 : decode cX12_drinks 33 = .ok (.ireturn, 1) := by decide +kernel
theorem dX12_drinks_34 : decode cX12_drinks 34 = .ok (.aload_n 0, 1) := by decide +kernel
theorem dX12_drinks_35 : decode cX12_drinks 35 = .ok (.getfield 13, 3) := by decide +kernel
theorem dX12_drinks_38 : decode cX12_drinks 38 = .ok (.ifCond .ge 6, 3) := by decide +kernel
theorem dX12_drinks_41 : decode cX12_drinks 41 = .ok (.bipush (-3), 2) := by decide +kernel
theorem dX12_drinks_43 : decode cX12_drinks 43 = .ok (.ireturn, 1) := by decide +kernel
theorem dX12_drinks_44 : decode cX12_drinks 44 = .ok (.aload_n 0, 1) := by decide +kernel
theorem dX12_drinks_45 : decode cX12_drinks 45 = .ok (.invokevirtual 306, 3) := by decide +kernel
theorem dX12_drinks_48 : decode cX12_drinks 48 = .ok (.iload_n 1, 1) := by decide +kernel
theorem dX12_drinks_49 : decode cX12_drinks 49 = .ok (.aload_n 0, 1) := by decide +kernel
theorem dX12_drinks_50 : decode cX12_drinks 50 = .ok (.getfield 75, 3) := by decide +kernel
theorem dX12_drinks_53 : decode cX12_drinks 53 = .ok (.if_icmp .gt 13, 3) := by decide +kernel
theorem dX12_drinks_56 : decode cX12_drinks 56 = .ok (.aload_n 0, 1) := by decide +kernel
theorem dX12_drinks_57 : decode cX12_drinks 57 = .ok (.iload_n 1, 1) := by decide +kernel
theorem dX12_drinks_58 : decode cX12_drinks 58 = .ok (.iload_n 2, 1) := by decide +kernel
theorem dX12_drinks_59 : decode cX12_drinks 59 = .ok (.iload_n 3, 1) := by decide +kernel
theorem dX12_drinks_60 : decode cX12_drinks 60 = .ok (.invokevirtual 325, 3) := by decide +kernel
theorem dX12_drinks_63 : decode cX12_drinks 63 = .ok (.goto 4, 3) := by decide +kernel
theorem dX12_drinks_66 : decode cX12_drinks 66 = .ok (.iconst (-1), 1) := by decide +kernel
theorem dX12_drinks_67 : decode cX12_drinks 67 = .ok (.ireturn, 1) := by decide +kernel
theorem dX12_odds_0 : decode cX12_odds 0 = .ok (.aload_n 0, 1) := by decide +kernel
theorem dX12_odds_1 : decode cX12_odds 1 = .ok (.iload_n 1, 1) := by decide +kernel
theorem dX12_odds_2 : decode cX12_odds 2 = .ok (.iconst 0, 1) := by decide +kernel
theorem dX12_odds_3 : decode cX12_odds 3 = .ok (.iconst 4, 1) := by decide +kernel
theorem dX12_odds_4 : decode cX12_odds 4 = .ok (.invokevirtual 233, 3) := by decide +kernel
theorem dX12_odds_7 : decode cX12_odds 7 = .ok (.ifCond .ne 5, 3) := by decide +kernel
theorem dX12_odds_10 : decode cX12_odds 10 = .ok (.iconst (-1), 1) := by decide +kernel
theorem dX12_odds_11 : decode cX12_odds 11 = .ok (.ireturn, 1) := by decide +kernel
theorem dX12_odds_12 : decode cX12_odds 12 = .ok (.aload_n 0, 1) := by decide +kernel
theorem dX12_odds_13 : decode cX12_odds 13 = .ok (.iload_n 2, 1) := by decide +kernel
theorem dX12_odds_14 : decode cX12_odds 14 = .ok (.iconst 0, 1) := by decide +kernel
theorem dX12_odds_15 : decode cX12_odds 15 = .ok (.bipush 10, 2) := by decide +kernel
theorem dX12_odds_17 : decode cX12_odds 17 = .ok (.invokevirtual 233, 3) := by decide +kernel
theorem dX12_odds_20 : decode cX12_odds 20 = .ok (.ifCond .ne 6, 3) := by decide +kernel
theorem dX12_odds_23 : decode cX12_odds 23 = .ok (.bipush (-2), 2) := by decide +kernel
theorem dX12_odds_25 : decode cX12_odds 25 = .ok (.ireturn, 1) := by decide +kernel
theorem dX12_odds_26 : decode cX12_odds 26 = .ok (.aload_n 0, 1) := by decide +kernel
theorem dX12_odds_27 : decode cX12_odds 27 = .ok (.getfield 72, 3) := by decide +kernel
theorem dX12_odds_30 : decode cX12_odds 30 = .ok (.iload_n 1, 1) := by decide +kernel
theorem dX12_odds_31 : decode cX12_odds 31 = .ok (.iaload, 1) := by decide +kernel
theorem dX12_odds_32 : decode cX12_odds 32 = .ok (.istore_n 3, 1) := by decide +kernel
theorem dX12_odds_33 : decode cX12_odds 33 = .ok (.aload_n 0, 1) := by decide +kernel
theorem dX12_odds_34 : decode cX12_odds 34 = .ok (.getfield 72, 3) := by decide +kernel
theorem dX12_odds_37 : decode cX12_odds 37 = .ok (.iload_n 1, 1) := by decide +kernel
theorem dX12_odds_38 : decode cX12_odds 38 = .ok (.iload_n 2, 1) := by decide +kernel
theorem dX12_odds_39 : decode cX12_odds 39 = .ok (.iastore, 1) := by decide +kernel
theorem dX12_odds_40 : decode cX12_odds 40 = .ok (.iload_n 3, 1) := by decide +kernel
theorem dX12_odds_41 : decode cX12_odds 41 = .ok (.ireturn, 1) := by decide +kernel
theorem dX12_ever_0 : decode cX12_ever 0 = .ok (.aload_n 0, 1) := by decide +kernel
theorem dX12_ever_1 : decode cX12_ever 1 = .ok (.iload_n 1, 1) := by decide +kernel
theorem dX12_ever_2 : decode cX12_ever 2 = .ok (.invokevirtual 319, 3) := by decide +kernel
theorem dX12_ever_5 : decode cX12_ever 5 = .ok (.ifCond .ne 6, 3) := by decide +kernel
theorem dX12_ever_8 : decode cX12_ever 8 = .ok (.bipush (-2), 2) := by decide +kernel
theorem dX12_ever_10 : decode cX12_ever 10 = .ok (.ireturn, 1) := by decide +kernel
theorem dX12_ever_11 : decode cX12_ever 11 = .ok (.aload_n 0, 1) := by decide +kernel
theorem dX12_ever_12 : decode cX12_ever 12 = .ok (.getfield 13, 3) := by decide +kernel
theorem dX12_ever_15 : decode cX12_ever 15 = .ok (.ifCond .ge 6, 3) := by decide +kernel
theorem dX12_ever_18 : decode cX12_ever 18 = .ok (.bipush (-3), 2) := by decide +kernel
theorem dX12_ever_20 : decode cX12_ever 20 = .ok (.ireturn, 1) := by decide +kernel
theorem dX12_ever_21 : decode cX12_ever 21 = .ok (.aload_n 0, 1) := by decide +kernel
theorem dX12_ever_22 : decode cX12_ever 22 = .ok (.invokevirtual 306, 3) := by decide +kernel
theorem dX12_ever_25 : decode cX12_ever 25 = .ok (.iconst 0, 1) := by decide +kernel
theorem dX12_ever_26 : decode cX12_ever 26 = .ok (.istore_n 2, 1) := by decide +kernel
theorem dX12_ever_27 : decode cX12_ever 27 = .ok (.iconst 0, 1) := by decide +kernel
theorem dX12_ever_28 : decode cX12_ever 28 = .ok (.istore_n 3, 1) := by decide +kernel
theorem dX12_ever_29 : decode cX12_ever 29 = .ok (.iload_n 3, 1) := by decide +kernel
theorem dX12_ever_30 : decode cX12_ever 30 = .ok (.aload_n 0, 1) := by decide +kernel
theorem dX12_ever_31 : decode cX12_ever 31 = .ok (.getfield 75, 3) := by decide +kernel
theorem dX12_ever_34 : decode cX12_ever 34 = .ok (.if_icmp .ge 37, 3) := by decide +kernel
theorem dX12_ever_37 : decode cX12_ever 37 = .ok (.iload_n 2, 1) := by decide +kernel
theorem dX12_ever_38 : decode cX12_ever 38 = .ok (.aload_n 0, 1) := by decide +kernel
theorem dX12_ever_39 : decode cX12_ever 39 = .ok (.getfield 78, 3) := by decide +kernel
theorem dX12_ever_42 : decode cX12_ever 42 = .ok (.iload_n 3, 1) := by decide +kernel
theorem dX12_ever_43 : decode cX12_ever 43 = .ok (.iaload, 1) := by decide +kernel
theorem dX12_ever_44 : decode cX12_ever 44 = .ok (.iload_n 1, 1) := by decide +kernel
theorem dX12_ever_45 : decode cX12_ever 45 = .ok (.aload_n 0, 1) := by decide +kernel
theorem dX12_ever_46 : decode cX12_ever 46 = .ok (.aload_n 0, 1) := by decide +kernel
theorem dX12_ever_47 : decode cX12_ever 47 = .ok (.getfield 78, 3) := by decide +kernel
theorem dX12_ever_50 : decode cX12_ever 50 = .ok (.iload_n 3, 1) := by decide +kernel
theorem dX12_ever_51 : decode cX12_ever 51 = .ok (.iaload, 1) := by decide +kernel
theorem dX12_ever_52 : decode cX12_ever 52 = .ok (.aload_n 0, 1) := by decide +kernel
theorem dX12_ever_53 : decode cX12_ever 53 = .ok (.getfield 81, 3) := by decide +kernel
theorem dX12_ever_56 : decode cX12_ever 56 = .ok (.iload_n 3, 1) := by decide +kernel
theorem dX12_ever_57 : decode cX12_ever 57 = .ok (.iaload, 1) := by decide +kernel
theorem dX12_ever_58 : decode cX12_ever 58 = .ok (.invokevirtual 309, 3) := by decide +kernel
theorem dX12_ever_61 : decode cX12_ever 61 = .ok (.imul, 1) := by decide +kernel
theorem dX12_ever_62 : decode cX12_ever 62 = .ok (.iadd, 1) := by decide +kernel
theorem dX12_ever_63 : decode cX12_ever 63 = .ok (.iadd, 1) := by decide +kernel
theorem dX12_ever_64 : decode cX12_ever 64 = .ok (.istore_n 2, 1) := by decide +kernel
theorem dX12_ever_65 : decode cX12_ever 65 = .ok (.iinc 3 1, 3) := by decide +kernel
theorem dX12_ever_68 : decode cX12_ever 68 = .ok (.goto (-39), 3) := by decide +kernel
theorem dX12_ever_71 : decode cX12_ever 71 = .ok (.iload_n 2, 1) := by decide +kernel
theorem dX12_ever_72 : decode cX12_ever 72 = .ok (.ireturn, 1) := by decide +kernel
theorem dX12_isRule_0 : decode cX12_isRule 0 = .ok (.aload_n 0, 1) := by decide +kernel
theorem dX12_isRule_1 : decode cX12_isRule 1 = .ok (.iload_n 1, 1) := by decide +kernel
theorem dX12_isRule_2 : decode cX12_isRule 2 = .ok (.iconst 0, 1) := by decide +kernel
theorem dX12_isRule_3 : decode cX12_isRule 3 = .ok (.aload_n 0, 1) := by decide +kernel
theorem dX12_isRule_4 : decode cX12_isRule 4 = .ok (.getfield 93, 3) := by decide +kernel
theorem dX12_isRule_7 : decode cX12_isRule 7 = .ok (.iconst 1, 1) := by decide +kernel
theorem dX12_isRule_8 : decode cX12_isRule 8 = .ok (.isub, 1) := by decide +kernel
theorem dX12_isRule_9 : decode cX12_isRule 9 = .ok (.invokevirtual 233, 3) := by decide +kernel
theorem dX12_isRule_12 : decode cX12_isRule 12 = .ok (.ireturn, 1) := by decide +kernel
theorem dX12_isCaravan_0 : decode cX12_isCaravan 0 = .ok (.aload_n 0, 1) := by decide +kernel
theorem dX12_isCaravan_1 : decode cX12_isCaravan 1 = .ok (.iload_n 1, 1) := by decide +kernel
theorem dX12_isCaravan_2 : decode cX12_isCaravan 2 = .ok (.iconst 0, 1) := by decide +kernel
theorem dX12_isCaravan_3 : decode cX12_isCaravan 3 = .ok (.aload_n 0, 1) := by decide +kernel
theorem dX12_isCaravan_4 : decode cX12_isCaravan 4 = .ok (.getfield 96, 3) := by decide +kernel
theorem dX12_isCaravan_7 : decode cX12_isCaravan 7 = .ok (.iconst 1, 1) := by decide +kernel
theorem dX12_isCaravan_8 : decode cX12_isCaravan 8 = .ok (.isub, 1) := by decide +kernel
theorem dX12_isCaravan_9 : decode cX12_isCaravan 9 = .ok (.invokevirtual 233, 3) := by decide +kernel
theorem dX12_isCaravan_12 : decode cX12_isCaravan 12 = .ok (.ireturn, 1) := by decide +kernel
theorem dX12_rule_0 : decode cX12_rule 0 = .ok (.aload_n 0, 1) := by decide +kernel
theorem dX12_rule_1 : decode cX12_rule 1 = .ok (.iload_n 1, 1) := by decide +kernel
theorem dX12_rule_2 : decode cX12_rule 2 = .ok (.iconst 0, 1) := by decide +kernel
theorem dX12_rule_3 : decode cX12_rule 3 = .ok (.bipush 6, 2) := by decide +kernel
theorem dX12_rule_5 : decode cX12_rule 5 = .ok (.invokevirtual 233, 3) := by decide +kernel
theorem dX12_rule_8 : decode cX12_rule 8 = .ok (.ifCond .ne 5, 3) := by decide +kernel
theorem dX12_rule_11 : decode cX12_rule 11 = .ok (.iconst (-1), 1) := by decide +kernel
theorem dX12_rule_12 : decode cX12_rule 12 = .ok (.ireturn, 1) := by decide +kernel
theorem dX12_rule_13 : decode cX12_rule 13 = .ok (.aload_n 0, 1) := by decide +kernel
theorem dX12_rule_14 : decode cX12_rule 14 = .ok (.iload_n 2, 1) := by decide +kernel
theorem dX12_rule_15 : decode cX12_rule 15 = .ok (.iconst 0, 1) := by decide +kernel
theorem dX12_rule_16 : decode cX12_rule 16 = .ok (.bipush 6, 2) := by decide +kernel
theorem dX12_rule_18 : decode cX12_rule 18 = .ok (.invokevirtual 233, 3) := by decide +kernel
theorem dX12_rule_21 : decode cX12_rule 21 = .ok (.ifCond .ne 6, 3) := by decide +kernel
theorem dX12_rule_24 : decode cX12_rule 24 = .ok (.bipush (-2), 2) := by decide +kernel
theorem dX12_rule_26 : decode cX12_rule 26 = .ok (.ireturn, 1) := by decide +kernel
theorem dX12_rule_27 : decode cX12_rule 27 = .ok (.aload_n 0, 1) := by decide +kernel
theorem dX12_rule_28 : decode cX12_rule 28 = .ok (.getfield 93, 3) := by decide +kernel
theorem dX12_rule_31 : decode cX12_rule 31 = .ok (.bipush 10, 2) := by decide +kernel
theorem dX12_rule_33 : decode cX12_rule 33 = .ok (.if_icmp .ne 6, 3) := by decide +kernel
theorem dX12_rule_36 : decode cX12_rule 36 = .ok (.bipush (-4), 2) := by decide +kernel
theorem dX12_rule_38 : decode cX12_rule 38 = .ok (.ireturn, 1) := by decide +kernel
theorem dX12_rule_39 : decode cX12_rule 39 = .ok (.aload_n 0, 1) := by decide +kernel
theorem dX12_rule_40 : decode cX12_rule 40 = .ok (.getfield 102, 3) := by decide +kernel
theorem dX12_rule_43 : decode cX12_rule 43 = .ok (.aload_n 0, 1) := by decide +kernel
theorem dX12_rule_44 : decode cX12_rule 44 = .ok (.getfield 93, 3) := by decide +kernel
theorem dX12_rule_47 : decode cX12_rule 47 = .ok (.iload_n 1, 1) := by decide +kernel
theorem dX12_rule_48 : decode cX12_rule 48 = .ok (.iastore, 1) := by decide +kernel
theorem dX12_rule_49 : decode cX12_rule 49 = .ok (.aload_n 0, 1) := by decide +kernel
theorem dX12_rule_50 : decode cX12_rule 50 = .ok (.getfield 105, 3) := by decide +kernel
theorem dX12_rule_53 : decode cX12_rule 53 = .ok (.aload_n 0, 1) := by decide +kernel
theorem dX12_rule_54 : decode cX12_rule 54 = .ok (.getfield 93, 3) := by decide +kernel
theorem dX12_rule_57 : decode cX12_rule 57 = .ok (.iload_n 2, 1) := by decide +kernel
theorem dX12_rule_58 : decode cX12_rule 58 = .ok (.iastore, 1) := by decide +kernel
theorem dX12_rule_59 : decode cX12_rule 59 = .ok (.aload_n 0, 1) := by decide +kernel
theorem dX12_rule_60 : decode cX12_rule 60 = .ok (.getfield 108, 3) := by decide +kernel
theorem dX12_rule_63 : decode cX12_rule 63 = .ok (.aload_n 0, 1) := by decide +kernel
theorem dX12_rule_64 : decode cX12_rule 64 = .ok (.getfield 93, 3) := by decide +kernel
theorem dX12_rule_67 : decode cX12_rule 67 = .ok (.iconst 0, 1) := by decide +kernel
theorem dX12_rule_68 : decode cX12_rule 68 = .ok (.iastore, 1) := by decide +kernel
theorem dX12_rule_69 : decode cX12_rule 69 = .ok (.aload_n 0, 1) := by decide +kernel
theorem dX12_rule_70 : decode cX12_rule 70 = .ok (.dup, 1) := by decide +kernel
theorem dX12_rule_71 : decode cX12_rule 71 = .ok (.getfield 93, 3) := by decide +kernel
theorem dX12_rule_74 : decode cX12_rule 74 = .ok (.iconst 1, 1) := by decide +kernel
theorem dX12_rule_75 : decode cX12_rule 75 = .ok (.iadd, 1) := by decide +kernel
theorem dX12_rule_76 : decode cX12_rule 76 = .ok (.putfield 93, 3) := by decide +kernel
theorem dX12_rule_79 : decode cX12_rule 79 = .ok (.aload_n 0, 1) := by decide +kernel
theorem dX12_rule_80 : decode cX12_rule 80 = .ok (.getfield 93, 3) := by decide +kernel
theorem dX12_rule_83 : decode cX12_rule 83 = .ok (.iconst 1, 1) := by decide +kernel
theorem dX12_rule_84 : decode cX12_rule 84 = .ok (.isub, 1) := by decide +kernel
theorem dX12_rule_85 : decode cX12_rule 85 = .ok (.ireturn, 1) := by decide +kernel
theorem dX12_row_0 : decode cX12_row 0 = .ok (.aload_n 0, 1) := by decide +kernel
theorem dX12_row_1 : decode cX12_row 1 = .ok (.iload_n 1, 1) := by decide +kernel
theorem dX12_row_2 : decode cX12_row 2 = .ok (.invokevirtual 329, 3) := by decide +kernel
theorem dX12_row_5 : decode cX12_row 5 = .ok (.ifCond .ne 5, 3) := by decide +kernel
theorem dX12_row_8 : decode cX12_row 8 = .ok (.iconst (-1), 1) := by decide +kernel
theorem dX12_row_9 : decode cX12_row 9 = .ok (.ireturn, 1) := by decide +kernel
theorem dX12_row_10 : decode cX12_row 10 = .ok (.aload_n 0, 1) := by decide +kernel
theorem dX12_row_11 : decode cX12_row 11 = .ok (.iload_n 2, 1) := by decide +kernel
theorem dX12_row_12 : decode cX12_row 12 = .ok (.iconst 0, 1) := by decide +kernel
theorem dX12_row_13 : decode cX12_row 13 = .ok (.bipush 6, 2) := by decide +kernel
theorem dX12_row_15 : decode cX12_row 15 = .ok (.invokevirtual 233, 3) := by decide +kernel
theorem dX12_row_18 : decode cX12_row 18 = .ok (.ifCond .ne 6, 3) := by decide +kernel
theorem dX12_row_21 : decode cX12_row 21 = .ok (.bipush (-2), 2) := by decide +kernel
theorem dX12_row_23 : decode cX12_row 23 = .ok (.ireturn, 1) := by decide +kernel
theorem dX12_row_24 : decode cX12_row 24 = .ok (.aload_n 0, 1) := by decide +kernel
theorem dX12_row_25 : decode cX12_row 25 = .ok (.getfield 102, 3) := by decide +kernel
theorem dX12_row_28 : decode cX12_row 28 = .ok (.iload_n 1, 1) := by decide +kernel
theorem dX12_row_29 : decode cX12_row 29 = .ok (.iaload, 1) := by decide +kernel
theorem dX12_row_30 : decode cX12_row 30 = .ok (.iconst 3, 1) := by decide +kernel
theorem dX12_row_31 : decode cX12_row 31 = .ok (.if_icmp .eq 6, 3) := by decide +kernel
theorem dX12_row_34 : decode cX12_row 34 = .ok (.bipush (-3), 2) := by decide +kernel
theorem dX12_row_36 : decode cX12_row 36 = .ok (.ireturn, 1) := by decide +kernel
theorem dX12_row_37 : decode cX12_row 37 = .ok (.aload_n 0, 1) := by decide +kernel
theorem dX12_row_38 : decode cX12_row 38 = .ok (.getfield 108, 3) := by decide +kernel
theorem dX12_row_41 : decode cX12_row 41 = .ok (.iload_n 1, 1) := by decide +kernel
theorem dX12_row_42 : decode cX12_row 42 = .ok (.iaload, 1) := by decide +kernel
theorem dX12_row_43 : decode cX12_row 43 = .ok (.iconst 5, 1) := by decide +kernel
theorem dX12_row_44 : decode cX12_row 44 = .ok (.if_icmp .ne 6, 3) := by decide +kernel
theorem dX12_row_47 : decode cX12_row 47 = .ok (.bipush (-4), 2) := by decide +kernel
theorem dX12_row_49 : decode cX12_row 49 = .ok (.ireturn, 1) := by decide +kernel
theorem dX12_row_50 : decode cX12_row 50 = .ok (.aload_n 0, 1) := by decide +kernel
theorem dX12_row_51 : decode cX12_row 51 = .ok (.getfield 111, 3) := by decide +kernel
theorem dX12_row_54 : decode cX12_row 54 = .ok (.iconst 5, 1) := by decide +kernel
theorem dX12_row_55 : decode cX12_row 55 = .ok (.iload_n 1, 1) := by decide +kernel
theorem dX12_row_56 : decode cX12_row 56 = .ok (.imul, 1) := by decide +kernel
theorem dX12_row_57 : decode cX12_row 57 = .ok (.aload_n 0, 1) := by decide +kernel
theorem dX12_row_58 : decode cX12_row 58 = .ok (.getfield 108, 3) := by decide +kernel
theorem dX12_row_61 : decode cX12_row 61 = .ok (.iload_n 1, 1) := by decide +kernel
theorem dX12_row_62 : decode cX12_row 62 = .ok (.iaload, 1) := by decide +kernel
theorem dX12_row_63 : decode cX12_row 63 = .ok (.iadd, 1) := by decide +kernel
theorem dX12_row_64 : decode cX12_row 64 = .ok (.iload_n 2, 1) := by decide +kernel
theorem dX12_row_65 : decode cX12_row 65 = .ok (.iastore, 1) := by decide +kernel
theorem dX12_row_66 : decode cX12_row 66 = .ok (.aload_n 0, 1) := by decide +kernel
theorem dX12_row_67 : decode cX12_row 67 = .ok (.getfield 108, 3) := by decide +kernel
theorem dX12_row_70 : decode cX12_row 70 = .ok (.iload_n 1, 1) := by decide +kernel
theorem dX12_row_71 : decode cX12_row 71 = .ok (.dup2, 1) := by decide +kernel
theorem dX12_row_72 : decode cX12_row 72 = .ok (.iaload, 1) := by decide +kernel
theorem dX12_row_73 : decode cX12_row 73 = .ok (.iconst 1, 1) := by decide +kernel
theorem dX12_row_74 : decode cX12_row 74 = .ok (.iadd, 1) := by decide +kernel
theorem dX12_row_75 : decode cX12_row 75 = .ok (.iastore, 1) := by decide +kernel
theorem dX12_row_76 : decode cX12_row 76 = .ok (.aload_n 0, 1) := by decide +kernel
theorem dX12_row_77 : decode cX12_row 77 = .ok (.getfield 108, 3) := by decide +kernel
theorem dX12_row_80 : decode cX12_row 80 = .ok (.iload_n 1, 1) := by decide +kernel
theorem dX12_row_81 : decode cX12_row 81 = .ok (.iaload, 1) := by decide +kernel
theorem dX12_row_82 : decode cX12_row 82 = .ok (.ireturn, 1) := by decide +kernel
theorem dX12_caravan_0 : decode cX12_caravan 0 = .ok (.aload_n 0, 1) := by decide +kernel
theorem dX12_caravan_1 : decode cX12_caravan 1 = .ok (.iload_n 3, 1) := by decide +kernel
theorem dX12_caravan_2 : decode cX12_caravan 2 = .ok (.invokevirtual 329, 3) := by decide +kernel
theorem dX12_caravan_5 : decode cX12_caravan 5 = .ok (.ifCond .ne 5, 3) := by decide +kernel
theorem dX12_caravan_8 : decode cX12_caravan 8 = .ok (.iconst (-1), 1) := by decide +kernel
theorem dX12_caravan_9 : decode cX12_caravan 9 = .ok (.ireturn, 1) := by decide +kernel
theorem dX12_caravan_10 : decode cX12_caravan 10 = .ok (.aload_n 0, 1) := by decide +kernel
theorem dX12_caravan_11 : decode cX12_caravan 11 = .ok (.iload_n 1, 1) := by decide +kernel
theorem dX12_caravan_12 : decode cX12_caravan 12 = .ok (.iconst 1, 1) := by decide +kernel
theorem dX12_caravan_13 : decode cX12_caravan 13 = .ok (.bipush 9, 2) := by decide +kernel
theorem dX12_caravan_15 : decode cX12_caravan 15 = .ok (.invokevirtual 233, 3) := by decide +kernel
theorem dX12_caravan_18 : decode cX12_caravan 18 = .ok (.ifCond .eq 14, 3) := by decide +kernel
theorem dX12_caravan_21 : decode cX12_caravan 21 = .ok (.aload_n 0, 1) := by decide +kernel
theorem dX12_caravan_22 : decode cX12_caravan 22 = .ok (.iload_n 2, 1) := by decide +kernel
theorem dX12_caravan_23 : decode cX12_caravan 23 = .ok (.iconst 0, 1) := by decide +kernel
theorem dX12_caravan_24 : decode cX12_caravan 24 = .ok (.bipush 99, 2) := by decide +kernel
theorem dX12_caravan_26 : decode cX12_caravan 26 = .ok (.invokevirtual 233, 3) := by decide +kernel
theorem dX12_caravan_29 : decode cX12_caravan 29 = .ok (.ifCond .ne 6, 3) := by decide +kernel
theorem dX12_caravan_32 : decode cX12_caravan 32 = .ok (.bipush (-2), 2) := by decide +kernel
theorem dX12_caravan_34 : decode cX12_caravan 34 = .ok (.ireturn, 1) := by decide +kernel
theorem dX12_caravan_35 : decode cX12_caravan 35 = .ok (.aload_n 0, 1) := by decide +kernel
theorem dX12_caravan_36 : decode cX12_caravan 36 = .ok (.getfield 96, 3) := by decide +kernel
theorem dX12_caravan_39 : decode cX12_caravan 39 = .ok (.bipush 6, 2) := by decide +kernel
theorem dX12_caravan_41 : decode cX12_caravan 41 = .ok (.if_icmp .ne 6, 3) := by decide +kernel
theorem dX12_caravan_44 : decode cX12_caravan 44 = .ok (.bipush (-4), 2) := by decide +kernel
theorem dX12_caravan_46 : decode cX12_caravan 46 = .ok (.ireturn, 1) := by decide +kernel
theorem dX12_caravan_47 : decode cX12_caravan 47 = .ok (.aload_n 0, 1) := by decide +kernel
theorem dX12_caravan_48 : decode cX12_caravan 48 = .ok (.getfield 114, 3) := by decide +kernel
theorem dX12_caravan_51 : decode cX12_caravan 51 = .ok (.aload_n 0, 1) := by decide +kernel
theorem dX12_caravan_52 : decode cX12_caravan 52 = .ok (.getfield 96, 3) := by decide +kernel
theorem dX12_caravan_55 : decode cX12_caravan 55 = .ok (.iload_n 1, 1) := by decide +kernel
theorem dX12_caravan_56 : decode cX12_caravan 56 = .ok (.iastore, 1) := by decide +kernel
theorem dX12_caravan_57 : decode cX12_caravan 57 = .ok (.aload_n 0, 1) := by decide +kernel
theorem dX12_caravan_58 : decode cX12_caravan 58 = .ok (.getfield 117, 3) := by decide +kernel
theorem dX12_caravan_61 : decode cX12_caravan 61 = .ok (.aload_n 0, 1) := by decide +kernel
theorem dX12_caravan_62 : decode cX12_caravan 62 = .ok (.getfield 96, 3) := by decide +kernel
theorem dX12_caravan_65 : decode cX12_caravan 65 = .ok (.iload_n 2, 1) := by decide +kernel
theorem dX12_caravan_66 : decode cX12_caravan 66 = .ok (.iastore, 1) := by decide +kernel
theorem dX12_caravan_67 : decode cX12_caravan 67 = .ok (.aload_n 0, 1) := by decide +kernel
theorem dX12_caravan_68 : decode cX12_caravan 68 = .ok (.getfield 120, 3) := by decide +kernel
theorem dX12_caravan_71 : decode cX12_caravan 71 = .ok (.aload_n 0, 1) := by decide +kernel
theorem dX12_caravan_72 : decode cX12_caravan 72 = .ok (.getfield 96, 3) := by decide +kernel
theorem dX12_caravan_75 : decode cX12_caravan 75 = .ok (.iload_n 3, 1) := by decide +kernel
theorem dX12_caravan_76 : decode cX12_caravan 76 = .ok (.iastore, 1) := by decide +kernel
theorem dX12_caravan_77 : decode cX12_caravan 77 = .ok (.aload_n 0, 1) := by decide +kernel
theorem dX12_caravan_78 : decode cX12_caravan 78 = .ok (.dup, 1) := by decide +kernel
theorem dX12_caravan_79 : decode cX12_caravan 79 = .ok (.getfield 96, 3) := by decide +kernel
theorem dX12_caravan_82 : decode cX12_caravan 82 = .ok (.iconst 1, 1) := by decide +kernel
theorem dX12_caravan_83 : decode cX12_caravan 83 = .ok (.iadd, 1) := by decide +kernel
theorem dX12_caravan_84 : decode cX12_caravan 84 = .ok (.putfield 96, 3) := by decide +kernel
theorem dX12_caravan_87 : decode cX12_caravan 87 = .ok (.aload_n 0, 1) := by decide +kernel
theorem dX12_caravan_88 : decode cX12_caravan 88 = .ok (.getfield 96, 3) := by decide +kernel
theorem dX12_caravan_91 : decode cX12_caravan 91 = .ok (.iconst 1, 1) := by decide +kernel
theorem dX12_caravan_92 : decode cX12_caravan 92 = .ok (.isub, 1) := by decide +kernel
theorem dX12_caravan_93 : decode cX12_caravan 93 = .ok (.ireturn, 1) := by decide +kernel
theorem dX12_hand_0 : decode cX12_hand 0 = .ok (.iload_n 1, 1) := by decide +kernel
theorem dX12_hand_1 : decode cX12_hand 1 = .ok (.iconst (-1), 1) := by decide +kernel
theorem dX12_hand_2 : decode cX12_hand 2 = .ok (.if_icmp .ne 10, 3) := by decide +kernel
theorem dX12_hand_5 : decode cX12_hand 5 = .ok (.aload_n 0, 1) := by decide +kernel
theorem dX12_hand_6 : decode cX12_hand 6 = .ok (.iconst 0, 1) := by decide +kernel
theorem dX12_hand_7 : decode cX12_hand 7 = .ok (.putfield 99, 3) := by decide +kernel
theorem dX12_hand_10 : decode cX12_hand 10 = .ok (.iconst 0, 1) := by decide +kernel
theorem dX12_hand_11 : decode cX12_hand 11 = .ok (.ireturn, 1) := by decide +kernel
theorem dX12_hand_12 : decode cX12_hand 12 = .ok (.aload_n 0, 1) := by decide +kernel
theorem dX12_hand_13 : decode cX12_hand 13 = .ok (.iload_n 1, 1) := by decide +kernel
theorem dX12_hand_14 : decode cX12_hand 14 = .ok (.iconst 0, 1) := by decide +kernel
theorem dX12_hand_15 : decode cX12_hand 15 = .ok (.bipush 6, 2) := by decide +kernel
theorem dX12_hand_17 : decode cX12_hand 17 = .ok (.invokevirtual 233, 3) := by decide +kernel
theorem dX12_hand_20 : decode cX12_hand 20 = .ok (.ifCond .ne 6, 3) := by decide +kernel
theorem dX12_hand_23 : decode cX12_hand 23 = .ok (.bipush (-2), 2) := by decide +kernel
theorem dX12_hand_25 : decode cX12_hand 25 = .ok (.ireturn, 1) := by decide +kernel
theorem dX12_hand_26 : decode cX12_hand 26 = .ok (.aload_n 0, 1) := by decide +kernel
theorem dX12_hand_27 : decode cX12_hand 27 = .ok (.getfield 99, 3) := by decide +kernel
theorem dX12_hand_30 : decode cX12_hand 30 = .ok (.iconst 5, 1) := by decide +kernel
theorem dX12_hand_31 : decode cX12_hand 31 = .ok (.if_icmp .ne 6, 3) := by decide +kernel
theorem dX12_hand_34 : decode cX12_hand 34 = .ok (.bipush (-4), 2) := by decide +kernel
theorem dX12_hand_36 : decode cX12_hand 36 = .ok (.ireturn, 1) := by decide +kernel
theorem dX12_hand_37 : decode cX12_hand 37 = .ok (.aload_n 0, 1) := by decide +kernel
theorem dX12_hand_38 : decode cX12_hand 38 = .ok (.getfield 123, 3) := by decide +kernel
theorem dX12_hand_41 : decode cX12_hand 41 = .ok (.aload_n 0, 1) := by decide +kernel
theorem dX12_hand_42 : decode cX12_hand 42 = .ok (.getfield 99, 3) := by decide +kernel
theorem dX12_hand_45 : decode cX12_hand 45 = .ok (.iload_n 1, 1) := by decide +kernel
theorem dX12_hand_46 : decode cX12_hand 46 = .ok (.iastore, 1) := by decide +kernel
theorem dX12_hand_47 : decode cX12_hand 47 = .ok (.aload_n 0, 1) := by decide +kernel
theorem dX12_hand_48 : decode cX12_hand 48 = .ok (.dup, 1) := by decide +kernel
theorem dX12_hand_49 : decode cX12_hand 49 = .ok (.getfield 99, 3) := by decide +kernel
theorem dX12_hand_52 : decode cX12_hand 52 = .ok (.iconst 1, 1) := by decide +kernel
theorem dX12_hand_53 : decode cX12_hand 53 = .ok (.iadd, 1) := by decide +kernel
theorem dX12_hand_54 : decode cX12_hand 54 = .ok (.putfield 99, 3) := by decide +kernel
theorem dX12_hand_57 : decode cX12_hand 57 = .ok (.aload_n 0, 1) := by decide +kernel
theorem dX12_hand_58 : decode cX12_hand 58 = .ok (.getfield 99, 3) := by decide +kernel
theorem dX12_hand_61 : decode cX12_hand 61 = .ok (.ireturn, 1) := by decide +kernel
theorem dX12_layThirst_0 : decode cX12_layThirst 0 = .ok (.iconst 0, 1) := by decide +kernel
theorem dX12_layThirst_1 : decode cX12_layThirst 1 = .ok (.istore_n 2, 1) := by decide +kernel
theorem dX12_layThirst_2 : decode cX12_layThirst 2 = .ok (.iload_n 2, 1) := by decide +kernel
theorem dX12_layThirst_3 : decode cX12_layThirst 3 = .ok (.aload_n 0, 1) := by decide +kernel
theorem dX12_layThirst_4 : decode cX12_layThirst 4 = .ok (.getfield 75, 3) := by decide +kernel
theorem dX12_layThirst_7 : decode cX12_layThirst 7 = .ok (.if_icmp .gt 43, 3) := by decide +kernel
theorem dX12_layThirst_10 : decode cX12_layThirst 10 = .ok (.iconst 0, 1) := by decide +kernel
theorem dX12_layThirst_11 : decode cX12_layThirst 11 = .ok (.istore_n 3, 1) := by decide +kernel
theorem dX12_layThirst_12 : decode cX12_layThirst 12 = .ok (.iload_n 3, 1) := by decide +kernel
theorem dX12_layThirst_13 : decode cX12_layThirst 13 = .ok (.bipush 24, 2) := by decide +kernel
theorem dX12_layThirst_15 : decode cX12_layThirst 15 = .ok (.if_icmp .ge 29, 3) := by decide +kernel
theorem dX12_layThirst_18 : decode cX12_layThirst 18 = .ok (.aload_n 0, 1) := by decide +kernel
theorem dX12_layThirst_19 : decode cX12_layThirst 19 = .ok (.getfield 126, 3) := by decide +kernel
theorem dX12_layThirst_22 : decode cX12_layThirst 22 = .ok (.bipush 24, 2) := by decide +kernel
theorem dX12_layThirst_24 : decode cX12_layThirst 24 = .ok (.iload_n 2, 1) := by decide +kernel
theorem dX12_layThirst_25 : decode cX12_layThirst 25 = .ok (.imul, 1) := by decide +kernel
theorem dX12_layThirst_26 : decode cX12_layThirst 26 = .ok (.iload_n 3, 1) := by decide +kernel
theorem dX12_layThirst_27 : decode cX12_layThirst 27 = .ok (.iadd, 1) := by decide +kernel
theorem dX12_layThirst_28 : decode cX12_layThirst 28 = .ok (.iload_n 1, 1) := by decide +kernel
theorem dX12_layThirst_29 : decode cX12_layThirst 29 = .ok (.aload_n 0, 1) := by decide +kernel
theorem dX12_layThirst_30 : decode cX12_layThirst 30 = .ok (.iload_n 2, 1) := by decide +kernel
theorem dX12_layThirst_31 : decode cX12_layThirst 31 = .ok (.iload_n 3, 1) := by decide +kernel
theorem dX12_layThirst_32 : decode cX12_layThirst 32 = .ok (.iload_n 1, 1) := by decide +kernel
theorem dX12_layThirst_33 : decode cX12_layThirst 33 = .ok (.invokevirtual 325, 3) := by decide +kernel
theorem dX12_layThirst_36 : decode cX12_layThirst 36 = .ok (.imul, 1) := by decide +kernel
theorem dX12_layThirst_37 : decode cX12_layThirst 37 = .ok (.iastore, 1) := by decide +kernel
theorem dX12_layThirst_38 : decode cX12_layThirst 38 = .ok (.iinc 3 1, 3) := by decide +kernel
theorem dX12_layThirst_41 : decode cX12_layThirst 41 = .ok (.goto (-29), 3) := by decide +kernel
theorem dX12_layThirst_44 : decode cX12_layThirst 44 = .ok (.iinc 2 1, 3) := by decide +kernel
theorem dX12_layThirst_47 : decode cX12_layThirst 47 = .ok (.goto (-45), 3) := by decide +kernel
theorem dX12_layThirst_50 : decode cX12_layThirst 50 = .ok (.aload_n 0, 1) := by decide +kernel
theorem dX12_layThirst_51 : decode cX12_layThirst 51 = .ok (.iload_n 1, 1) := by decide +kernel
theorem dX12_layThirst_52 : decode cX12_layThirst 52 = .ok (.aload_n 0, 1) := by decide +kernel
theorem dX12_layThirst_53 : decode cX12_layThirst 53 = .ok (.iconst 5, 1) := by decide +kernel
theorem dX12_layThirst_54 : decode cX12_layThirst 54 = .ok (.iconst 0, 1) := by decide +kernel
theorem dX12_layThirst_55 : decode cX12_layThirst 55 = .ok (.invokevirtual 316, 3) := by decide +kernel
theorem dX12_layThirst_58 : decode cX12_layThirst 58 = .ok (.imul, 1) := by decide +kernel
theorem dX12_layThirst_59 : decode cX12_layThirst 59 = .ok (.putfield 147, 3) := by decide +kernel
theorem dX12_layThirst_62 : decode cX12_layThirst 62 = .ok (.aload_n 0, 1) := by decide +kernel
theorem dX12_layThirst_63 : decode cX12_layThirst 63 = .ok (.iload_n 1, 1) := by decide +kernel
theorem dX12_layThirst_64 : decode cX12_layThirst 64 = .ok (.aload_n 0, 1) := by decide +kernel
theorem dX12_layThirst_65 : decode cX12_layThirst 65 = .ok (.iconst 3, 1) := by decide +kernel
theorem dX12_layThirst_66 : decode cX12_layThirst 66 = .ok (.bipush 10, 2) := by decide +kernel
theorem dX12_layThirst_68 : decode cX12_layThirst 68 = .ok (.invokevirtual 316, 3) := by decide +kernel
theorem dX12_layThirst_71 : decode cX12_layThirst 71 = .ok (.imul, 1) := by decide +kernel
theorem dX12_layThirst_72 : decode cX12_layThirst 72 = .ok (.putfield 150, 3) := by decide +kernel
theorem dX12_layThirst_75 : decode cX12_layThirst 75 = .ok (.return_, 1) := by decide +kernel
theorem dX12_goesWay_0 : decode cX12_goesWay 0 = .ok (.iconst 0, 1) := by decide +kernel
theorem dX12_goesWay_1 : decode cX12_goesWay 1 = .ok (.istore_n 2, 1) := by decide +kernel
theorem dX12_goesWay_2 : decode cX12_goesWay 2 = .ok (.iload_n 2, 1) := by decide +kernel
theorem dX12_goesWay_3 : decode cX12_goesWay 3 = .ok (.aload_n 0, 1) := by decide +kernel
theorem dX12_goesWay_4 : decode cX12_goesWay 4 = .ok (.getfield 84, 3) := by decide +kernel
theorem dX12_goesWay_7 : decode cX12_goesWay 7 = .ok (.iload_n 1, 1) := by decide +kernel
theorem dX12_goesWay_8 : decode cX12_goesWay 8 = .ok (.iaload, 1) := by decide +kernel
theorem dX12_goesWay_9 : decode cX12_goesWay 9 = .ok (.if_icmp .ge 57, 3) := by decide +kernel
theorem dX12_goesWay_12 : decode cX12_goesWay 12 = .ok (.aload_n 0, 1) := by decide +kernel
theorem dX12_goesWay_13 : decode cX12_goesWay 13 = .ok (.getfield 126, 3) := by decide +kernel
theorem dX12_goesWay_16 : decode cX12_goesWay 16 = .ok (.bipush 24, 2) := by decide +kernel
theorem dX12_goesWay_18 : decode cX12_goesWay 18 = .ok (.iload_n 1, 1) := by decide +kernel
theorem dX12_goesWay_19 : decode cX12_goesWay 19 = .ok (.imul, 1) := by decide +kernel
theorem dX12_goesWay_20 : decode cX12_goesWay 20 = .ok (.aload_n 0, 1) := by decide +kernel
theorem dX12_goesWay_21 : decode cX12_goesWay 21 = .ok (.getfield 153, 3) := by decide +kernel
theorem dX12_goesWay_24 : decode cX12_goesWay 24 = .ok (.bipush 24, 2) := by decide +kernel
theorem dX12_goesWay_26 : decode cX12_goesWay 26 = .ok (.irem, 1) := by decide +kernel
theorem dX12_goesWay_27 : decode cX12_goesWay 27 = .ok (.iadd, 1) := by decide +kernel
theorem dX12_goesWay_28 : decode cX12_goesWay 28 = .ok (.iaload, 1) := by decide +kernel
theorem dX12_goesWay_29 : decode cX12_goesWay 29 = .ok (.istore_n 3, 1) := by decide +kernel
theorem dX12_goesWay_30 : decode cX12_goesWay 30 = .ok (.aload_n 0, 1) := by decide +kernel
theorem dX12_goesWay_31 : decode cX12_goesWay 31 = .ok (.getfield 156, 3) := by decide +kernel
theorem dX12_goesWay_34 : decode cX12_goesWay 34 = .ok (.iload_n 3, 1) := by decide +kernel
theorem dX12_goesWay_35 : decode cX12_goesWay 35 = .ok (.if_icmp .ge 5, 3) := by decide +kernel
theorem dX12_goesWay_38 : decode cX12_goesWay 38 = .ok (.iconst 0, 1) := by decide +kernel
theorem dX12_goesWay_39 : decode cX12_goesWay 39 = .ok (.ireturn, 1) := by decide +kernel
theorem dX12_goesWay_40 : decode cX12_goesWay 40 = .ok (.aload_n 0, 1) := by decide +kernel
theorem dX12_goesWay_41 : decode cX12_goesWay 41 = .ok (.dup, 1) := by decide +kernel
theorem dX12_goesWay_42 : decode cX12_goesWay 42 = .ok (.getfield 156, 3) := by decide +kernel
theorem dX12_goesWay_45 : decode cX12_goesWay 45 = .ok (.iload_n 3, 1) := by decide +kernel
theorem dX12_goesWay_46 : decode cX12_goesWay 46 = .ok (.isub, 1) := by decide +kernel
theorem dX12_goesWay_47 : decode cX12_goesWay 47 = .ok (.putfield 156, 3) := by decide +kernel
theorem dX12_goesWay_50 : decode cX12_goesWay 50 = .ok (.aload_n 0, 1) := by decide +kernel
theorem dX12_goesWay_51 : decode cX12_goesWay 51 = .ok (.dup, 1) := by decide +kernel
theorem dX12_goesWay_52 : decode cX12_goesWay 52 = .ok (.getfield 153, 3) := by decide +kernel
theorem dX12_goesWay_55 : decode cX12_goesWay 55 = .ok (.iconst 1, 1) := by decide +kernel
theorem dX12_goesWay_56 : decode cX12_goesWay 56 = .ok (.iadd, 1) := by decide +kernel
theorem dX12_goesWay_57 : decode cX12_goesWay 57 = .ok (.putfield 153, 3) := by decide +kernel
theorem dX12_goesWay_60 : decode cX12_goesWay 60 = .ok (.iinc 2 1, 3) := by decide +kernel
theorem dX12_goesWay_63 : decode cX12_goesWay 63 = .ok (.goto (-61), 3) := by decide +kernel
theorem dX12_goesWay_66 : decode cX12_goesWay 66 = .ok (.iconst 1, 1) := by decide +kernel
theorem dX12_goesWay_67 : decode cX12_goesWay 67 = .ok (.ireturn, 1) := by decide +kernel
theorem dX12_standsFor_0 : decode cX12_standsFor 0 = .ok (.aload_n 0, 1) := by decide +kernel
theorem dX12_standsFor_1 : decode cX12_standsFor 1 = .ok (.getfield 156, 3) := by decide +kernel
theorem dX12_standsFor_4 : decode cX12_standsFor 4 = .ok (.iload_n 1, 1) := by decide +kernel
theorem dX12_standsFor_5 : decode cX12_standsFor 5 = .ok (.aload_n 0, 1) := by decide +kernel
theorem dX12_standsFor_6 : decode cX12_standsFor 6 = .ok (.getfield 147, 3) := by decide +kernel
theorem dX12_standsFor_9 : decode cX12_standsFor 9 = .ok (.imul, 1) := by decide +kernel
theorem dX12_standsFor_10 : decode cX12_standsFor 10 = .ok (.if_icmp .ge 5, 3) := by decide +kernel
theorem dX12_standsFor_13 : decode cX12_standsFor 13 = .ok (.iconst 0, 1) := by decide +kernel
theorem dX12_standsFor_14 : decode cX12_standsFor 14 = .ok (.ireturn, 1) := by decide +kernel
theorem dX12_standsFor_15 : decode cX12_standsFor 15 = .ok (.aload_n 0, 1) := by decide +kernel
theorem dX12_standsFor_16 : decode cX12_standsFor 16 = .ok (.dup, 1) := by decide +kernel
theorem dX12_standsFor_17 : decode cX12_standsFor 17 = .ok (.getfield 156, 3) := by decide +kernel
theorem dX12_standsFor_20 : decode cX12_standsFor 20 = .ok (.iload_n 1, 1) := by decide +kernel
theorem dX12_standsFor_21 : decode cX12_standsFor 21 = .ok (.aload_n 0, 1) := by decide +kernel
theorem dX12_standsFor_22 : decode cX12_standsFor 22 = .ok (.getfield 147, 3) := by decide +kernel
theorem dX12_standsFor_25 : decode cX12_standsFor 25 = .ok (.imul, 1) := by decide +kernel
theorem dX12_standsFor_26 : decode cX12_standsFor 26 = .ok (.isub, 1) := by decide +kernel
theorem dX12_standsFor_27 : decode cX12_standsFor 27 = .ok (.putfield 156, 3) := by decide +kernel
theorem dX12_standsFor_30 : decode cX12_standsFor 30 = .ok (.aload_n 0, 1) := by decide +kernel
theorem dX12_standsFor_31 : decode cX12_standsFor 31 = .ok (.dup, 1) := by decide +kernel
theorem dX12_standsFor_32 : decode cX12_standsFor 32 = .ok (.getfield 153, 3) := by decide +kernel
theorem dX12_standsFor_35 : decode cX12_standsFor 35 = .ok (.iload_n 1, 1) := by decide +kernel
theorem dX12_standsFor_36 : decode cX12_standsFor 36 = .ok (.iadd, 1) := by decide +kernel
theorem dX12_standsFor_37 : decode cX12_standsFor 37 = .ok (.putfield 153, 3) := by decide +kernel
theorem dX12_standsFor_40 : decode cX12_standsFor 40 = .ok (.iconst 1, 1) := by decide +kernel
theorem dX12_standsFor_41 : decode cX12_standsFor 41 = .ok (.ireturn, 1) := by decide +kernel
theorem dX12_waitsAt_0 : decode cX12_waitsAt 0 = .ok (.aload_n 0, 1) := by decide +kernel
theorem dX12_waitsAt_1 : decode cX12_waitsAt 1 = .ok (.getfield 153, 3) := by decide +kernel
theorem dX12_waitsAt_4 : decode cX12_waitsAt 4 = .ok (.aload_n 0, 1) := by decide +kernel
theorem dX12_waitsAt_5 : decode cX12_waitsAt 5 = .ok (.getfield 90, 3) := by decide +kernel
theorem dX12_waitsAt_8 : decode cX12_waitsAt 8 = .ok (.iload_n 1, 1) := by decide +kernel
theorem dX12_waitsAt_9 : decode cX12_waitsAt 9 = .ok (.iaload, 1) := by decide +kernel
theorem dX12_waitsAt_10 : decode cX12_waitsAt 10 = .ok (.if_icmp .ge 21, 3) := by decide +kernel
theorem dX12_waitsAt_13 : decode cX12_waitsAt 13 = .ok (.aload_n 0, 1) := by decide +kernel
theorem dX12_waitsAt_14 : decode cX12_waitsAt 14 = .ok (.aload_n 0, 1) := by decide +kernel
theorem dX12_waitsAt_15 : decode cX12_waitsAt 15 = .ok (.getfield 90, 3) := by decide +kernel
theorem dX12_waitsAt_18 : decode cX12_waitsAt 18 = .ok (.iload_n 1, 1) := by decide +kernel
theorem dX12_waitsAt_19 : decode cX12_waitsAt 19 = .ok (.iaload, 1) := by decide +kernel
theorem dX12_waitsAt_20 : decode cX12_waitsAt 20 = .ok (.aload_n 0, 1) := by decide +kernel
theorem dX12_waitsAt_21 : decode cX12_waitsAt 21 = .ok (.getfield 153, 3) := by decide +kernel
theorem dX12_waitsAt_24 : decode cX12_waitsAt 24 = .ok (.isub, 1) := by decide +kernel
theorem dX12_waitsAt_25 : decode cX12_waitsAt 25 = .ok (.invokevirtual 332, 3) := by decide +kernel
theorem dX12_waitsAt_28 : decode cX12_waitsAt 28 = .ok (.ifCond .eq 7, 3) := by decide +kernel
theorem dX12_waitsAt_31 : decode cX12_waitsAt 31 = .ok (.iconst 1, 1) := by decide +kernel
theorem dX12_waitsAt_32 : decode cX12_waitsAt 32 = .ok (.goto 4, 3) := by decide +kernel
theorem dX12_waitsAt_35 : decode cX12_waitsAt 35 = .ok (.iconst 0, 1) := by decide +kernel
theorem dX12_waitsAt_36 : decode cX12_waitsAt 36 = .ok (.ireturn, 1) := by decide +kernel
theorem dX12_drawsAt_0 : decode cX12_drawsAt 0 = .ok (.aload_n 0, 1) := by decide +kernel
theorem dX12_drawsAt_1 : decode cX12_drawsAt 1 = .ok (.iload_n 1, 1) := by decide +kernel
theorem dX12_drawsAt_2 : decode cX12_drawsAt 2 = .ok (.aload_n 0, 1) := by decide +kernel
theorem dX12_drawsAt_3 : decode cX12_drawsAt 3 = .ok (.getfield 153, 3) := by decide +kernel
theorem dX12_drawsAt_6 : decode cX12_drawsAt 6 = .ok (.invokevirtual 322, 3) := by decide +kernel
theorem dX12_drawsAt_9 : decode cX12_drawsAt 9 = .ok (.istore_n 3, 1) := by decide +kernel
theorem dX12_drawsAt_10 : decode cX12_drawsAt 10 = .ok (.aload_n 0, 1) := by decide +kernel
theorem dX12_drawsAt_11 : decode cX12_drawsAt 11 = .ok (.iload_n 3, 1) := by decide +kernel
theorem dX12_drawsAt_12 : decode cX12_drawsAt 12 = .ok (.aload_n 0, 1) := by decide +kernel
theorem dX12_drawsAt_13 : decode cX12_drawsAt 13 = .ok (.getfield 150, 3) := by decide +kernel
theorem dX12_drawsAt_16 : decode cX12_drawsAt 16 = .ok (.aload_n 0, 1) := by decide +kernel
theorem dX12_drawsAt_17 : decode cX12_drawsAt 17 = .ok (.getfield 156, 3) := by decide +kernel
theorem dX12_drawsAt_20 : decode cX12_drawsAt 20 = .ok (.isub, 1) := by decide +kernel
theorem dX12_drawsAt_21 : decode cX12_drawsAt 21 = .ok (.invokevirtual 309, 3) := by decide +kernel
theorem dX12_drawsAt_24 : decode cX12_drawsAt 24 = .ok (.istore 4, 2) := by decide +kernel
theorem dX12_drawsAt_26 : decode cX12_drawsAt 26 = .ok (.aload_n 0, 1) := by decide +kernel
theorem dX12_drawsAt_27 : decode cX12_drawsAt 27 = .ok (.dup, 1) := by decide +kernel
theorem dX12_drawsAt_28 : decode cX12_drawsAt 28 = .ok (.getfield 156, 3) := by decide +kernel
theorem dX12_drawsAt_31 : decode cX12_drawsAt 31 = .ok (.iload 4, 2) := by decide +kernel
theorem dX12_drawsAt_33 : decode cX12_drawsAt 33 = .ok (.iadd, 1) := by decide +kernel
theorem dX12_drawsAt_34 : decode cX12_drawsAt 34 = .ok (.putfield 156, 3) := by decide +kernel
theorem dX12_drawsAt_37 : decode cX12_drawsAt 37 = .ok (.iload_n 2, 1) := by decide +kernel
theorem dX12_drawsAt_38 : decode cX12_drawsAt 38 = .ok (.ifCond .ne 4, 3) := by decide +kernel
theorem dX12_drawsAt_41 : decode cX12_drawsAt 41 = .ok (.return_, 1) := by decide +kernel
theorem dX12_drawsAt_42 : decode cX12_drawsAt 42 = .ok (.aload_n 0, 1) := by decide +kernel
theorem dX12_drawsAt_43 : decode cX12_drawsAt 43 = .ok (.getfield 87, 3) := by decide +kernel
theorem dX12_drawsAt_46 : decode cX12_drawsAt 46 = .ok (.iload_n 1, 1) := by decide +kernel
theorem dX12_drawsAt_47 : decode cX12_drawsAt 47 = .ok (.iload_n 3, 1) := by decide +kernel
theorem dX12_drawsAt_48 : decode cX12_drawsAt 48 = .ok (.iload 4, 2) := by decide +kernel
theorem dX12_drawsAt_50 : decode cX12_drawsAt 50 = .ok (.isub, 1) := by decide +kernel
theorem dX12_drawsAt_51 : decode cX12_drawsAt 51 = .ok (.iastore, 1) := by decide +kernel
theorem dX12_drawsAt_52 : decode cX12_drawsAt 52 = .ok (.aload_n 0, 1) := by decide +kernel
theorem dX12_drawsAt_53 : decode cX12_drawsAt 53 = .ok (.getfield 90, 3) := by decide +kernel
theorem dX12_drawsAt_56 : decode cX12_drawsAt 56 = .ok (.iload_n 1, 1) := by decide +kernel
theorem dX12_drawsAt_57 : decode cX12_drawsAt 57 = .ok (.aload_n 0, 1) := by decide +kernel
theorem dX12_drawsAt_58 : decode cX12_drawsAt 58 = .ok (.getfield 153, 3) := by decide +kernel
theorem dX12_drawsAt_61 : decode cX12_drawsAt 61 = .ok (.iastore, 1) := by decide +kernel
theorem dX12_drawsAt_62 : decode cX12_drawsAt 62 = .ok (.return_, 1) := by decide +kernel
theorem dX12_standOf_0 : decode cX12_standOf 0 = .ok (.iload_n 3, 1) := by decide +kernel
theorem dX12_standOf_1 : decode cX12_standOf 1 = .ok (.bipush 7, 2) := by decide +kernel
theorem dX12_standOf_3 : decode cX12_standOf 3 = .ok (.if_icmp .ne 22, 3) := by decide +kernel
theorem dX12_standOf_6 : decode cX12_standOf 6 = .ok (.iload_n 2, 1) := by decide +kernel
theorem dX12_standOf_7 : decode cX12_standOf 7 = .ok (.aload_n 0, 1) := by decide +kernel
theorem dX12_standOf_8 : decode cX12_standOf 8 = .ok (.getfield 99, 3) := by decide +kernel
theorem dX12_standOf_11 : decode cX12_standOf 11 = .ok (.if_icmp .ge 12, 3) := by decide +kernel
theorem dX12_standOf_14 : decode cX12_standOf 14 = .ok (.aload_n 0, 1) := by decide +kernel
theorem dX12_standOf_15 : decode cX12_standOf 15 = .ok (.getfield 123, 3) := by decide +kernel
theorem dX12_standOf_18 : decode cX12_standOf 18 = .ok (.iload_n 2, 1) := by decide +kernel
theorem dX12_standOf_19 : decode cX12_standOf 19 = .ok (.iaload, 1) := by decide +kernel
theorem dX12_standOf_20 : decode cX12_standOf 20 = .ok (.goto 4, 3) := by decide +kernel
theorem dX12_standOf_23 : decode cX12_standOf 23 = .ok (.iconst 0, 1) := by decide +kernel
theorem dX12_standOf_24 : decode cX12_standOf 24 = .ok (.ireturn, 1) := by decide +kernel
theorem dX12_standOf_25 : decode cX12_standOf 25 = .ok (.iconst 0, 1) := by decide +kernel
theorem dX12_standOf_26 : decode cX12_standOf 26 = .ok (.istore 4, 2) := by decide +kernel
theorem dX12_standOf_28 : decode cX12_standOf 28 = .ok (.iload_n 3, 1) := by decide +kernel
theorem dX12_standOf_29 : decode cX12_standOf 29 = .ok (.tableswitch 191 1 6 #[39, 101, 159, 39, 184, 101], 39) := by decide +kernel
theorem dX12_standOf_68 : decode cX12_standOf 68 = .ok (.iload 4, 2) := by decide +kernel
theorem dX12_standOf_70 : decode cX12_standOf 70 = .ok (.aload_n 0, 1) := by decide +kernel
theorem dX12_standOf_71 : decode cX12_standOf 71 = .ok (.getfield 105, 3) := by decide +kernel
theorem dX12_standOf_74 : decode cX12_standOf 74 = .ok (.iload_n 1, 1) := by decide +kernel
theorem dX12_standOf_75 : decode cX12_standOf 75 = .ok (.iaload, 1) := by decide +kernel
theorem dX12_standOf_76 : decode cX12_standOf 76 = .ok (.if_icmp .ge 33, 3) := by decide +kernel
theorem dX12_standOf_79 : decode cX12_standOf 79 = .ok (.aload_n 0, 1) := by decide +kernel
theorem dX12_standOf_80 : decode cX12_standOf 80 = .ok (.iload_n 2, 1) := by decide +kernel
theorem dX12_standOf_81 : decode cX12_standOf 81 = .ok (.aload_n 0, 1) := by decide +kernel
theorem dX12_standOf_82 : decode cX12_standOf 82 = .ok (.getfield 153, 3) := by decide +kernel
theorem dX12_standOf_85 : decode cX12_standOf 85 = .ok (.iload 4, 2) := by decide +kernel
theorem dX12_standOf_87 : decode cX12_standOf 87 = .ok (.iadd, 1) := by decide +kernel
theorem dX12_standOf_88 : decode cX12_standOf 88 = .ok (.invokevirtual 322, 3) := by decide +kernel
theorem dX12_standOf_91 : decode cX12_standOf 91 = .ok (.aload_n 0, 1) := by decide +kernel
theorem dX12_standOf_92 : decode cX12_standOf 92 = .ok (.getfield 150, 3) := by decide +kernel
theorem dX12_standOf_95 : decode cX12_standOf 95 = .ok (.aload_n 0, 1) := by decide +kernel
theorem dX12_standOf_96 : decode cX12_standOf 96 = .ok (.getfield 156, 3) := by decide +kernel
theorem dX12_standOf_99 : decode cX12_standOf 99 = .ok (.isub, 1) := by decide +kernel
theorem dX12_standOf_100 : decode cX12_standOf 100 = .ok (.if_icmp .ge 9, 3) := by decide +kernel
theorem dX12_standOf_103 : decode cX12_standOf 103 = .ok (.iinc 4 1, 3) := by decide +kernel
theorem dX12_standOf_106 : decode cX12_standOf 106 = .ok (.goto (-38), 3) := by decide +kernel
theorem dX12_standOf_109 : decode cX12_standOf 109 = .ok (.iload_n 3, 1) := by decide +kernel
theorem dX12_standOf_110 : decode cX12_standOf 110 = .ok (.iconst 1, 1) := by decide +kernel
theorem dX12_standOf_111 : decode cX12_standOf 111 = .ok (.if_icmp .ne 8, 3) := by decide +kernel
theorem dX12_standOf_114 : decode cX12_standOf 114 = .ok (.iload 4, 2) := by decide +kernel
theorem dX12_standOf_116 : decode cX12_standOf 116 = .ok (.goto 13, 3) := by decide +kernel
theorem dX12_standOf_119 : decode cX12_standOf 119 = .ok (.aload_n 0, 1) := by decide +kernel
theorem dX12_standOf_120 : decode cX12_standOf 120 = .ok (.bipush 6, 2) := by decide +kernel
theorem dX12_standOf_122 : decode cX12_standOf 122 = .ok (.iload 4, 2) := by decide +kernel
theorem dX12_standOf_124 : decode cX12_standOf 124 = .ok (.iconst 1, 1) := by decide +kernel
theorem dX12_standOf_125 : decode cX12_standOf 125 = .ok (.iadd, 1) := by decide +kernel
theorem dX12_standOf_126 : decode cX12_standOf 126 = .ok (.invokevirtual 309, 3) := by decide +kernel
theorem dX12_standOf_129 : decode cX12_standOf 129 = .ok (.ireturn, 1) := by decide +kernel
theorem dX12_standOf_130 : decode cX12_standOf 130 = .ok (.iload 4, 2) := by decide +kernel
theorem dX12_standOf_132 : decode cX12_standOf 132 = .ok (.aload_n 0, 1) := by decide +kernel
theorem dX12_standOf_133 : decode cX12_standOf 133 = .ok (.getfield 105, 3) := by decide +kernel
theorem dX12_standOf_136 : decode cX12_standOf 136 = .ok (.iload_n 1, 1) := by decide +kernel
theorem dX12_standOf_137 : decode cX12_standOf 137 = .ok (.iaload, 1) := by decide +kernel
theorem dX12_standOf_138 : decode cX12_standOf 138 = .ok (.if_icmp .ge 24, 3) := by decide +kernel
theorem dX12_standOf_141 : decode cX12_standOf 141 = .ok (.aload_n 0, 1) := by decide +kernel
theorem dX12_standOf_142 : decode cX12_standOf 142 = .ok (.getfield 153, 3) := by decide +kernel
theorem dX12_standOf_145 : decode cX12_standOf 145 = .ok (.iload 4, 2) := by decide +kernel
theorem dX12_standOf_147 : decode cX12_standOf 147 = .ok (.iadd, 1) := by decide +kernel
theorem dX12_standOf_148 : decode cX12_standOf 148 = .ok (.bipush 24, 2) := by decide +kernel
theorem dX12_standOf_150 : decode cX12_standOf 150 = .ok (.irem, 1) := by decide +kernel
theorem dX12_standOf_151 : decode cX12_standOf 151 = .ok (.bipush 12, 2) := by decide +kernel
theorem dX12_standOf_153 : decode cX12_standOf 153 = .ok (.if_icmp .ge 9, 3) := by decide +kernel
theorem dX12_standOf_156 : decode cX12_standOf 156 = .ok (.iinc 4 1, 3) := by decide +kernel
theorem dX12_standOf_159 : decode cX12_standOf 159 = .ok (.goto (-29), 3) := by decide +kernel
theorem dX12_standOf_162 : decode cX12_standOf 162 = .ok (.iload_n 3, 1) := by decide +kernel
theorem dX12_standOf_163 : decode cX12_standOf 163 = .ok (.bipush 6, 2) := by decide +kernel
theorem dX12_standOf_165 : decode cX12_standOf 165 = .ok (.if_icmp .ne 20, 3) := by decide +kernel
theorem dX12_standOf_168 : decode cX12_standOf 168 = .ok (.iconst 2, 1) := by decide +kernel
theorem dX12_standOf_169 : decode cX12_standOf 169 = .ok (.aload_n 0, 1) := by decide +kernel
theorem dX12_standOf_170 : decode cX12_standOf 170 = .ok (.getfield 156, 3) := by decide +kernel
theorem dX12_standOf_173 : decode cX12_standOf 173 = .ok (.imul, 1) := by decide +kernel
theorem dX12_standOf_174 : decode cX12_standOf 174 = .ok (.aload_n 0, 1) := by decide +kernel
theorem dX12_standOf_175 : decode cX12_standOf 175 = .ok (.getfield 150, 3) := by decide +kernel
theorem dX12_standOf_178 : decode cX12_standOf 178 = .ok (.if_icmp .ge 7, 3) := by decide +kernel
theorem dX12_standOf_181 : decode cX12_standOf 181 = .ok (.iconst 0, 1) := by decide +kernel
theorem dX12_standOf_182 : decode cX12_standOf 182 = .ok (.goto 5, 3) := by decide +kernel
theorem dX12_standOf_185 : decode cX12_standOf 185 = .ok (.iload 4, 2) := by decide +kernel
theorem dX12_standOf_187 : decode cX12_standOf 187 = .ok (.ireturn, 1) := by decide +kernel
theorem dX12_standOf_188 : decode cX12_standOf 188 = .ok (.iload_n 2, 1) := by decide +kernel
theorem dX12_standOf_189 : decode cX12_standOf 189 = .ok (.aload_n 0, 1) := by decide +kernel
theorem dX12_standOf_190 : decode cX12_standOf 190 = .ok (.getfield 108, 3) := by decide +kernel
theorem dX12_standOf_193 : decode cX12_standOf 193 = .ok (.iload_n 1, 1) := by decide +kernel
theorem dX12_standOf_194 : decode cX12_standOf 194 = .ok (.iaload, 1) := by decide +kernel
theorem dX12_standOf_195 : decode cX12_standOf 195 = .ok (.if_icmp .ge 16, 3) := by decide +kernel
theorem dX12_standOf_198 : decode cX12_standOf 198 = .ok (.aload_n 0, 1) := by decide +kernel
theorem dX12_standOf_199 : decode cX12_standOf 199 = .ok (.getfield 111, 3) := by decide +kernel
theorem dX12_standOf_202 : decode cX12_standOf 202 = .ok (.iconst 5, 1) := by decide +kernel
theorem dX12_standOf_203 : decode cX12_standOf 203 = .ok (.iload_n 1, 1) := by decide +kernel
theorem dX12_standOf_204 : decode cX12_standOf 204 = .ok (.imul, 1) := by decide +kernel
theorem dX12_standOf_205 : decode cX12_standOf 205 = .ok (.iload_n 2, 1) := by decide +kernel
theorem dX12_standOf_206 : decode cX12_standOf 206 = .ok (.iadd, 1) := by decide +kernel
theorem dX12_standOf_207 : decode cX12_standOf 207 = .ok (.iaload, 1) := by decide +kernel
theorem dX12_standOf_208 : decode cX12_standOf 208 = .ok (.goto 4, 3) := by decide +kernel
theorem dX12_standOf_211 : decode cX12_standOf 211 = .ok (.iconst 0, 1) := by decide +kernel
theorem dX12_standOf_212 : decode cX12_standOf 212 = .ok (.ireturn, 1) := by decide +kernel
theorem dX12_standOf_213 : decode cX12_standOf 213 = .ok (.aload_n 0, 1) := by decide +kernel
theorem dX12_standOf_214 : decode cX12_standOf 214 = .ok (.getfield 135, 3) := by decide +kernel
theorem dX12_standOf_217 : decode cX12_standOf 217 = .ok (.iload_n 2, 1) := by decide +kernel
theorem dX12_standOf_218 : decode cX12_standOf 218 = .ok (.iaload, 1) := by decide +kernel
theorem dX12_standOf_219 : decode cX12_standOf 219 = .ok (.ireturn, 1) := by decide +kernel
theorem dX12_standOf_220 : decode cX12_standOf 220 = .ok (.iconst 0, 1) := by decide +kernel
theorem dX12_standOf_221 : decode cX12_standOf 221 = .ok (.ireturn, 1) := by decide +kernel
theorem dX12_findBest_0 : decode cX12_findBest 0 = .ok (.iconst 0, 1) := by decide +kernel
theorem dX12_findBest_1 : decode cX12_findBest 1 = .ok (.istore_n 2, 1) := by decide +kernel
theorem dX12_findBest_2 : decode cX12_findBest 2 = .ok (.iload_n 2, 1) := by decide +kernel
theorem dX12_findBest_3 : decode cX12_findBest 3 = .ok (.bipush 6, 2) := by decide +kernel
theorem dX12_findBest_5 : decode cX12_findBest 5 = .ok (.if_icmp .ge 16, 3) := by decide +kernel
theorem dX12_findBest_8 : decode cX12_findBest 8 = .ok (.aload_n 0, 1) := by decide +kernel
theorem dX12_findBest_9 : decode cX12_findBest 9 = .ok (.getfield 135, 3) := by decide +kernel
theorem dX12_findBest_12 : decode cX12_findBest 12 = .ok (.iload_n 2, 1) := by decide +kernel
theorem dX12_findBest_13 : decode cX12_findBest 13 = .ok (.iconst 0, 1) := by decide +kernel
theorem dX12_findBest_14 : decode cX12_findBest 14 = .ok (.iastore, 1) := by decide +kernel
theorem dX12_findBest_15 : decode cX12_findBest 15 = .ok (.iinc 2 1, 3) := by decide +kernel
theorem dX12_findBest_18 : decode cX12_findBest 18 = .ok (.goto (-16), 3) := by decide +kernel
theorem dX12_findBest_21 : decode cX12_findBest 21 = .ok (.aload_n 0, 1) := by decide +kernel
theorem dX12_findBest_22 : decode cX12_findBest 22 = .ok (.iload_n 1, 1) := by decide +kernel
theorem dX12_findBest_23 : decode cX12_findBest 23 = .ok (.putfield 153, 3) := by decide +kernel
theorem dX12_findBest_26 : decode cX12_findBest 26 = .ok (.aload_n 0, 1) := by decide +kernel
theorem dX12_findBest_27 : decode cX12_findBest 27 = .ok (.aload_n 0, 1) := by decide +kernel
theorem dX12_findBest_28 : decode cX12_findBest 28 = .ok (.getfield 150, 3) := by decide +kernel
theorem dX12_findBest_31 : decode cX12_findBest 31 = .ok (.putfield 156, 3) := by decide +kernel
theorem dX12_findBest_34 : decode cX12_findBest 34 = .ok (.aload_n 0, 1) := by decide +kernel
theorem dX12_findBest_35 : decode cX12_findBest 35 = .ok (.getfield 75, 3) := by decide +kernel
theorem dX12_findBest_38 : decode cX12_findBest 38 = .ok (.ifCond .eq 19, 3) := by decide +kernel
theorem dX12_findBest_41 : decode cX12_findBest 41 = .ok (.aload_n 0, 1) := by decide +kernel
theorem dX12_findBest_42 : decode cX12_findBest 42 = .ok (.iconst 0, 1) := by decide +kernel
theorem dX12_findBest_43 : decode cX12_findBest 43 = .ok (.invokevirtual 335, 3) := by decide +kernel
theorem dX12_findBest_46 : decode cX12_findBest 46 = .ok (.ifCond .eq 11, 3) := by decide +kernel
theorem dX12_findBest_49 : decode cX12_findBest 49 = .ok (.aload_n 0, 1) := by decide +kernel
theorem dX12_findBest_50 : decode cX12_findBest 50 = .ok (.iconst 0, 1) := by decide +kernel
theorem dX12_findBest_51 : decode cX12_findBest 51 = .ok (.invokevirtual 338, 3) := by decide +kernel
theorem dX12_findBest_54 : decode cX12_findBest 54 = .ok (.ifCond .ne 4, 3) := by decide +kernel
theorem dX12_findBest_57 : decode cX12_findBest 57 = .ok (.return_, 1) := by decide +kernel
theorem dX12_findBest_58 : decode cX12_findBest 58 = .ok (.iconst (-1), 1) := by decide +kernel
theorem dX12_findBest_59 : decode cX12_findBest 59 = .ok (.istore_n 2, 1) := by decide +kernel
theorem dX12_findBest_60 : decode cX12_findBest 60 = .ok (.iconst 0, 1) := by decide +kernel
theorem dX12_findBest_61 : decode cX12_findBest 61 = .ok (.istore_n 3, 1) := by decide +kernel
theorem dX12_findBest_62 : decode cX12_findBest 62 = .ok (.aload_n 0, 1) := by decide +kernel
theorem dX12_findBest_63 : decode cX12_findBest 63 = .ok (.getfield 141, 3) := by decide +kernel
theorem dX12_findBest_66 : decode cX12_findBest 66 = .ok (.iconst 0, 1) := by decide +kernel
theorem dX12_findBest_67 : decode cX12_findBest 67 = .ok (.aload_n 0, 1) := by decide +kernel
theorem dX12_findBest_68 : decode cX12_findBest 68 = .ok (.getfield 153, 3) := by decide +kernel
theorem dX12_findBest_71 : decode cX12_findBest 71 = .ok (.iastore, 1) := by decide +kernel
theorem dX12_findBest_72 : decode cX12_findBest 72 = .ok (.aload_n 0, 1) := by decide +kernel
theorem dX12_findBest_73 : decode cX12_findBest 73 = .ok (.getfield 144, 3) := by decide +kernel
theorem dX12_findBest_76 : decode cX12_findBest 76 = .ok (.iconst 0, 1) := by decide +kernel
theorem dX12_findBest_77 : decode cX12_findBest 77 = .ok (.aload_n 0, 1) := by decide +kernel
theorem dX12_findBest_78 : decode cX12_findBest 78 = .ok (.getfield 156, 3) := by decide +kernel
theorem dX12_findBest_81 : decode cX12_findBest 81 = .ok (.iastore, 1) := by decide +kernel
theorem dX12_findBest_82 : decode cX12_findBest 82 = .ok (.aload_n 0, 1) := by decide +kernel
theorem dX12_findBest_83 : decode cX12_findBest 83 = .ok (.getfield 138, 3) := by decide +kernel
theorem dX12_findBest_86 : decode cX12_findBest 86 = .ok (.iconst 0, 1) := by decide +kernel
theorem dX12_findBest_87 : decode cX12_findBest 87 = .ok (.iconst 0, 1) := by decide +kernel
theorem dX12_findBest_88 : decode cX12_findBest 88 = .ok (.iastore, 1) := by decide +kernel
theorem dX12_findBest_89 : decode cX12_findBest 89 = .ok (.iload_n 3, 1) := by decide +kernel
theorem dX12_findBest_90 : decode cX12_findBest 90 = .ok (.ifCond .lt 202, 3) := by decide +kernel
theorem dX12_findBest_93 : decode cX12_findBest 93 = .ok (.aload_n 0, 1) := by decide +kernel
theorem dX12_findBest_94 : decode cX12_findBest 94 = .ok (.getfield 138, 3) := by decide +kernel
theorem dX12_findBest_97 : decode cX12_findBest 97 = .ok (.iload_n 3, 1) := by decide +kernel
theorem dX12_findBest_98 : decode cX12_findBest 98 = .ok (.iaload, 1) := by decide +kernel
theorem dX12_findBest_99 : decode cX12_findBest 99 = .ok (.bipush 6, 2) := by decide +kernel
theorem dX12_findBest_101 : decode cX12_findBest 101 = .ok (.if_icmp .le 9, 3) := by decide +kernel
theorem dX12_findBest_104 : decode cX12_findBest 104 = .ok (.iinc 3 (-1), 3) := by decide +kernel
theorem dX12_findBest_107 : decode cX12_findBest 107 = .ok (.goto (-18), 3) := by decide +kernel
theorem dX12_findBest_110 : decode cX12_findBest 110 = .ok (.aload_n 0, 1) := by decide +kernel
theorem dX12_findBest_111 : decode cX12_findBest 111 = .ok (.aload_n 0, 1) := by decide +kernel
theorem dX12_findBest_112 : decode cX12_findBest 112 = .ok (.getfield 141, 3) := by decide +kernel
theorem dX12_findBest_115 : decode cX12_findBest 115 = .ok (.iload_n 3, 1) := by decide +kernel
theorem dX12_findBest_116 : decode cX12_findBest 116 = .ok (.iaload, 1) := by decide +kernel
theorem dX12_findBest_117 : decode cX12_findBest 117 = .ok (.putfield 153, 3) := by decide +kernel
theorem dX12_findBest_120 : decode cX12_findBest 120 = .ok (.aload_n 0, 1) := by decide +kernel
theorem dX12_findBest_121 : decode cX12_findBest 121 = .ok (.aload_n 0, 1) := by decide +kernel
theorem dX12_findBest_122 : decode cX12_findBest 122 = .ok (.getfield 144, 3) := by decide +kernel
theorem dX12_findBest_125 : decode cX12_findBest 125 = .ok (.iload_n 3, 1) := by decide +kernel
theorem dX12_findBest_126 : decode cX12_findBest 126 = .ok (.iaload, 1) := by decide +kernel
theorem dX12_findBest_127 : decode cX12_findBest 127 = .ok (.putfield 156, 3) := by decide +kernel
theorem dX12_findBest_130 : decode cX12_findBest 130 = .ok (.aload_n 0, 1) := by decide +kernel
theorem dX12_findBest_131 : decode cX12_findBest 131 = .ok (.getfield 138, 3) := by decide +kernel
theorem dX12_findBest_134 : decode cX12_findBest 134 = .ok (.iload_n 3, 1) := by decide +kernel
theorem dX12_findBest_135 : decode cX12_findBest 135 = .ok (.iaload, 1) := by decide +kernel
theorem dX12_findBest_136 : decode cX12_findBest 136 = .ok (.istore 4, 2) := by decide +kernel
theorem dX12_findBest_138 : decode cX12_findBest 138 = .ok (.aload_n 0, 1) := by decide +kernel
theorem dX12_findBest_139 : decode cX12_findBest 139 = .ok (.getfield 138, 3) := by decide +kernel
theorem dX12_findBest_142 : decode cX12_findBest 142 = .ok (.iload_n 3, 1) := by decide +kernel
theorem dX12_findBest_143 : decode cX12_findBest 143 = .ok (.dup2, 1) := by decide +kernel
theorem dX12_findBest_144 : decode cX12_findBest 144 = .ok (.iaload, 1) := by decide +kernel
theorem dX12_findBest_145 : decode cX12_findBest 145 = .ok (.iconst 1, 1) := by decide +kernel
theorem dX12_findBest_146 : decode cX12_findBest 146 = .ok (.iadd, 1) := by decide +kernel
theorem dX12_findBest_147 : decode cX12_findBest 147 = .ok (.iastore, 1) := by decide +kernel
theorem dX12_findBest_148 : decode cX12_findBest 148 = .ok (.aload_n 0, 1) := by decide +kernel
theorem dX12_findBest_149 : decode cX12_findBest 149 = .ok (.iload 4, 2) := by decide +kernel
theorem dX12_findBest_151 : decode cX12_findBest 151 = .ok (.invokevirtual 332, 3) := by decide +kernel
theorem dX12_findBest_154 : decode cX12_findBest 154 = .ok (.ifCond .ne 6, 3) := by decide +kernel
theorem dX12_findBest_157 : decode cX12_findBest 157 = .ok (.goto (-68), 3) := by decide +kernel
theorem dX12_findBest_160 : decode cX12_findBest 160 = .ok (.aload_n 0, 1) := by decide +kernel
theorem dX12_findBest_161 : decode cX12_findBest 161 = .ok (.iload_n 3, 1) := by decide +kernel
theorem dX12_findBest_162 : decode cX12_findBest 162 = .ok (.iconst 0, 1) := by decide +kernel
theorem dX12_findBest_163 : decode cX12_findBest 163 = .ok (.invokevirtual 341, 3) := by decide +kernel
theorem dX12_findBest_166 : decode cX12_findBest 166 = .ok (.aload_n 0, 1) := by decide +kernel
theorem dX12_findBest_167 : decode cX12_findBest 167 = .ok (.iload_n 3, 1) := by decide +kernel
theorem dX12_findBest_168 : decode cX12_findBest 168 = .ok (.iconst 1, 1) := by decide +kernel
theorem dX12_findBest_169 : decode cX12_findBest 169 = .ok (.iadd, 1) := by decide +kernel
theorem dX12_findBest_170 : decode cX12_findBest 170 = .ok (.invokevirtual 335, 3) := by decide +kernel
theorem dX12_findBest_173 : decode cX12_findBest 173 = .ok (.ifCond .ne 6, 3) := by decide +kernel
theorem dX12_findBest_176 : decode cX12_findBest 176 = .ok (.goto (-87), 3) := by decide +kernel
theorem dX12_findBest_179 : decode cX12_findBest 179 = .ok (.iload_n 3, 1) := by decide +kernel
theorem dX12_findBest_180 : decode cX12_findBest 180 = .ok (.iconst 1, 1) := by decide +kernel
theorem dX12_findBest_181 : decode cX12_findBest 181 = .ok (.iadd, 1) := by decide +kernel
theorem dX12_findBest_182 : decode cX12_findBest 182 = .ok (.aload_n 0, 1) := by decide +kernel
theorem dX12_findBest_183 : decode cX12_findBest 183 = .ok (.getfield 75, 3) := by decide +kernel
theorem dX12_findBest_186 : decode cX12_findBest 186 = .ok (.if_icmp .ge 49, 3) := by decide +kernel
theorem dX12_findBest_189 : decode cX12_findBest 189 = .ok (.aload_n 0, 1) := by decide +kernel
theorem dX12_findBest_190 : decode cX12_findBest 190 = .ok (.iload_n 3, 1) := by decide +kernel
theorem dX12_findBest_191 : decode cX12_findBest 191 = .ok (.iconst 1, 1) := by decide +kernel
theorem dX12_findBest_192 : decode cX12_findBest 192 = .ok (.iadd, 1) := by decide +kernel
theorem dX12_findBest_193 : decode cX12_findBest 193 = .ok (.invokevirtual 338, 3) := by decide +kernel
theorem dX12_findBest_196 : decode cX12_findBest 196 = .ok (.ifCond .ne 6, 3) := by decide +kernel
theorem dX12_findBest_199 : decode cX12_findBest 199 = .ok (.goto (-110), 3) := by decide +kernel
theorem dX12_findBest_202 : decode cX12_findBest 202 = .ok (.iinc 3 1, 3) := by decide +kernel
theorem dX12_findBest_205 : decode cX12_findBest 205 = .ok (.aload_n 0, 1) := by decide +kernel
theorem dX12_findBest_206 : decode cX12_findBest 206 = .ok (.getfield 141, 3) := by decide +kernel
theorem dX12_findBest_209 : decode cX12_findBest 209 = .ok (.iload_n 3, 1) := by decide +kernel
theorem dX12_findBest_210 : decode cX12_findBest 210 = .ok (.aload_n 0, 1) := by decide +kernel
theorem dX12_findBest_211 : decode cX12_findBest 211 = .ok (.getfield 153, 3) := by decide +kernel
theorem dX12_findBest_214 : decode cX12_findBest 214 = .ok (.iastore, 1) := by decide +kernel
theorem dX12_findBest_215 : decode cX12_findBest 215 = .ok (.aload_n 0, 1) := by decide +kernel
theorem dX12_findBest_216 : decode cX12_findBest 216 = .ok (.getfield 144, 3) := by decide +kernel
theorem dX12_findBest_219 : decode cX12_findBest 219 = .ok (.iload_n 3, 1) := by decide +kernel
theorem dX12_findBest_220 : decode cX12_findBest 220 = .ok (.aload_n 0, 1) := by decide +kernel
theorem dX12_findBest_221 : decode cX12_findBest 221 = .ok (.getfield 156, 3) := by decide +kernel
theorem dX12_findBest_224 : decode cX12_findBest 224 = .ok (.iastore, 1) := by decide +kernel
theorem dX12_findBest_225 : decode cX12_findBest 225 = .ok (.aload_n 0, 1) := by decide +kernel
theorem dX12_findBest_226 : decode cX12_findBest 226 = .ok (.getfield 138, 3) := by decide +kernel
theorem dX12_findBest_229 : decode cX12_findBest 229 = .ok (.iload_n 3, 1) := by decide +kernel
theorem dX12_findBest_230 : decode cX12_findBest 230 = .ok (.iconst 0, 1) := by decide +kernel
theorem dX12_findBest_231 : decode cX12_findBest 231 = .ok (.iastore, 1) := by decide +kernel
theorem dX12_findBest_232 : decode cX12_findBest 232 = .ok (.goto (-143), 3) := by decide +kernel
theorem dX12_findBest_235 : decode cX12_findBest 235 = .ok (.iload_n 2, 1) := by decide +kernel
theorem dX12_findBest_236 : decode cX12_findBest 236 = .ok (.ifCond .lt 14, 3) := by decide +kernel
theorem dX12_findBest_239 : decode cX12_findBest 239 = .ok (.aload_n 0, 1) := by decide +kernel
theorem dX12_findBest_240 : decode cX12_findBest 240 = .ok (.getfield 153, 3) := by decide +kernel
theorem dX12_findBest_243 : decode cX12_findBest 243 = .ok (.iload_n 2, 1) := by decide +kernel
theorem dX12_findBest_244 : decode cX12_findBest 244 = .ok (.if_icmp .lt 6, 3) := by decide +kernel
theorem dX12_findBest_247 : decode cX12_findBest 247 = .ok (.goto (-158), 3) := by decide +kernel
theorem dX12_findBest_250 : decode cX12_findBest 250 = .ok (.aload_n 0, 1) := by decide +kernel
theorem dX12_findBest_251 : decode cX12_findBest 251 = .ok (.getfield 153, 3) := by decide +kernel
theorem dX12_findBest_254 : decode cX12_findBest 254 = .ok (.istore_n 2, 1) := by decide +kernel
theorem dX12_findBest_255 : decode cX12_findBest 255 = .ok (.iconst 0, 1) := by decide +kernel
theorem dX12_findBest_256 : decode cX12_findBest 256 = .ok (.istore 5, 2) := by decide +kernel
theorem dX12_findBest_258 : decode cX12_findBest 258 = .ok (.iload 5, 2) := by decide +kernel
theorem dX12_findBest_260 : decode cX12_findBest 260 = .ok (.aload_n 0, 1) := by decide +kernel
theorem dX12_findBest_261 : decode cX12_findBest 261 = .ok (.getfield 75, 3) := by decide +kernel
theorem dX12_findBest_264 : decode cX12_findBest 264 = .ok (.if_icmp .ge 25, 3) := by decide +kernel
theorem dX12_findBest_267 : decode cX12_findBest 267 = .ok (.aload_n 0, 1) := by decide +kernel
theorem dX12_findBest_268 : decode cX12_findBest 268 = .ok (.getfield 135, 3) := by decide +kernel
theorem dX12_findBest_271 : decode cX12_findBest 271 = .ok (.iload 5, 2) := by decide +kernel
theorem dX12_findBest_273 : decode cX12_findBest 273 = .ok (.aload_n 0, 1) := by decide +kernel
theorem dX12_findBest_274 : decode cX12_findBest 274 = .ok (.getfield 138, 3) := by decide +kernel
theorem dX12_findBest_277 : decode cX12_findBest 277 = .ok (.iload 5, 2) := by decide +kernel
theorem dX12_findBest_279 : decode cX12_findBest 279 = .ok (.iaload, 1) := by decide +kernel
theorem dX12_findBest_280 : decode cX12_findBest 280 = .ok (.iconst 1, 1) := by decide +kernel
theorem dX12_findBest_281 : decode cX12_findBest 281 = .ok (.isub, 1) := by decide +kernel
theorem dX12_findBest_282 : decode cX12_findBest 282 = .ok (.iastore, 1) := by decide +kernel
theorem dX12_findBest_283 : decode cX12_findBest 283 = .ok (.iinc 5 1, 3) := by decide +kernel
theorem dX12_findBest_286 : decode cX12_findBest 286 = .ok (.goto (-28), 3) := by decide +kernel
theorem dX12_findBest_289 : decode cX12_findBest 289 = .ok (.goto (-200), 3) := by decide +kernel
theorem dX12_findBest_292 : decode cX12_findBest 292 = .ok (.return_, 1) := by decide +kernel
theorem dX12_go_0 : decode cX12_go 0 = .ok (.aload_n 0, 1) := by decide +kernel
theorem dX12_go_1 : decode cX12_go 1 = .ok (.iload_n 1, 1) := by decide +kernel
theorem dX12_go_2 : decode cX12_go 2 = .ok (.invokevirtual 345, 3) := by decide +kernel
theorem dX12_go_5 : decode cX12_go 5 = .ok (.iload 4, 2) := by decide +kernel
theorem dX12_go_7 : decode cX12_go 7 = .ok (.iconst 5, 1) := by decide +kernel
theorem dX12_go_8 : decode cX12_go 8 = .ok (.if_icmp .ne 8, 3) := by decide +kernel
theorem dX12_go_11 : decode cX12_go 11 = .ok (.aload_n 0, 1) := by decide +kernel
theorem dX12_go_12 : decode cX12_go 12 = .ok (.iload_n 2, 1) := by decide +kernel
theorem dX12_go_13 : decode cX12_go 13 = .ok (.invokevirtual 348, 3) := by decide +kernel
theorem dX12_go_16 : decode cX12_go 16 = .ok (.iconst 0, 1) := by decide +kernel
theorem dX12_go_17 : decode cX12_go 17 = .ok (.istore 5, 2) := by decide +kernel
theorem dX12_go_19 : decode cX12_go 19 = .ok (.iload 5, 2) := by decide +kernel
theorem dX12_go_21 : decode cX12_go 21 = .ok (.bipush 6, 2) := by decide +kernel
theorem dX12_go_23 : decode cX12_go 23 = .ok (.if_icmp .ge 27, 3) := by decide +kernel
theorem dX12_go_26 : decode cX12_go 26 = .ok (.aload_n 0, 1) := by decide +kernel
theorem dX12_go_27 : decode cX12_go 27 = .ok (.getfield 129, 3) := by decide +kernel
theorem dX12_go_30 : decode cX12_go 30 = .ok (.iload 5, 2) := by decide +kernel
theorem dX12_go_32 : decode cX12_go 32 = .ok (.bipush (-5), 2) := by decide +kernel
theorem dX12_go_34 : decode cX12_go 34 = .ok (.iastore, 1) := by decide +kernel
theorem dX12_go_35 : decode cX12_go 35 = .ok (.aload_n 0, 1) := by decide +kernel
theorem dX12_go_36 : decode cX12_go 36 = .ok (.getfield 132, 3) := by decide +kernel
theorem dX12_go_39 : decode cX12_go 39 = .ok (.iload 5, 2) := by decide +kernel
theorem dX12_go_41 : decode cX12_go 41 = .ok (.bipush (-5), 2) := by decide +kernel
theorem dX12_go_43 : decode cX12_go 43 = .ok (.iastore, 1) := by decide +kernel
theorem dX12_go_44 : decode cX12_go 44 = .ok (.iinc 5 1, 3) := by decide +kernel
theorem dX12_go_47 : decode cX12_go 47 = .ok (.goto (-28), 3) := by decide +kernel
theorem dX12_go_50 : decode cX12_go 50 = .ok (.aload_n 0, 1) := by decide +kernel
theorem dX12_go_51 : decode cX12_go 51 = .ok (.iload_n 2, 1) := by decide +kernel
theorem dX12_go_52 : decode cX12_go 52 = .ok (.putfield 153, 3) := by decide +kernel
theorem dX12_go_55 : decode cX12_go 55 = .ok (.aload_n 0, 1) := by decide +kernel
theorem dX12_go_56 : decode cX12_go 56 = .ok (.aload_n 0, 1) := by decide +kernel
theorem dX12_go_57 : decode cX12_go 57 = .ok (.getfield 150, 3) := by decide +kernel
theorem dX12_go_60 : decode cX12_go 60 = .ok (.putfield 156, 3) := by decide +kernel
theorem dX12_go_63 : decode cX12_go 63 = .ok (.aload_n 0, 1) := by decide +kernel
theorem dX12_go_64 : decode cX12_go 64 = .ok (.bipush (-5), 2) := by decide +kernel
theorem dX12_go_66 : decode cX12_go 66 = .ok (.putfield 159, 3) := by decide +kernel
theorem dX12_go_69 : decode cX12_go 69 = .ok (.aload_n 0, 1) := by decide +kernel
theorem dX12_go_70 : decode cX12_go 70 = .ok (.bipush (-5), 2) := by decide +kernel
theorem dX12_go_72 : decode cX12_go 72 = .ok (.putfield 162, 3) := by decide +kernel
theorem dX12_go_75 : decode cX12_go 75 = .ok (.iconst 0, 1) := by decide +kernel
theorem dX12_go_76 : decode cX12_go 76 = .ok (.istore 5, 2) := by decide +kernel
theorem dX12_go_78 : decode cX12_go 78 = .ok (.iload 5, 2) := by decide +kernel
theorem dX12_go_80 : decode cX12_go 80 = .ok (.aload_n 0, 1) := by decide +kernel
theorem dX12_go_81 : decode cX12_go 81 = .ok (.getfield 75, 3) := by decide +kernel
theorem dX12_go_84 : decode cX12_go 84 = .ok (.if_icmp .ge 100, 3) := by decide +kernel
theorem dX12_go_87 : decode cX12_go 87 = .ok (.aload_n 0, 1) := by decide +kernel
theorem dX12_go_88 : decode cX12_go 88 = .ok (.iload 5, 2) := by decide +kernel
theorem dX12_go_90 : decode cX12_go 90 = .ok (.invokevirtual 335, 3) := by decide +kernel
theorem dX12_go_93 : decode cX12_go 93 = .ok (.ifCond .ne 10, 3) := by decide +kernel
theorem dX12_go_96 : decode cX12_go 96 = .ok (.aload_n 0, 1) := by decide +kernel
theorem dX12_go_97 : decode cX12_go 97 = .ok (.iload 5, 2) := by decide +kernel
theorem dX12_go_99 : decode cX12_go 99 = .ok (.putfield 159, 3) := by decide +kernel
theorem dX12_go_102 : decode cX12_go 102 = .ok (.return_, 1) := by decide +kernel
theorem dX12_go_103 : decode cX12_go 103 = .ok (.aload_n 0, 1) := by decide +kernel
theorem dX12_go_104 : decode cX12_go 104 = .ok (.getfield 132, 3) := by decide +kernel
theorem dX12_go_107 : decode cX12_go 107 = .ok (.iload 5, 2) := by decide +kernel
theorem dX12_go_109 : decode cX12_go 109 = .ok (.aload_n 0, 1) := by decide +kernel
theorem dX12_go_110 : decode cX12_go 110 = .ok (.getfield 156, 3) := by decide +kernel
theorem dX12_go_113 : decode cX12_go 113 = .ok (.iastore, 1) := by decide +kernel
theorem dX12_go_114 : decode cX12_go 114 = .ok (.aload_n 0, 1) := by decide +kernel
theorem dX12_go_115 : decode cX12_go 115 = .ok (.iload 5, 2) := by decide +kernel
theorem dX12_go_117 : decode cX12_go 117 = .ok (.invokevirtual 338, 3) := by decide +kernel
theorem dX12_go_120 : decode cX12_go 120 = .ok (.ifCond .ne 12, 3) := by decide +kernel
theorem dX12_go_123 : decode cX12_go 123 = .ok (.aload_n 0, 1) := by decide +kernel
theorem dX12_go_124 : decode cX12_go 124 = .ok (.iload 5, 2) := by decide +kernel
theorem dX12_go_126 : decode cX12_go 126 = .ok (.iconst 1, 1) := by decide +kernel
theorem dX12_go_127 : decode cX12_go 127 = .ok (.iadd, 1) := by decide +kernel
theorem dX12_go_128 : decode cX12_go 128 = .ok (.putfield 159, 3) := by decide +kernel
theorem dX12_go_131 : decode cX12_go 131 = .ok (.return_, 1) := by decide +kernel
theorem dX12_go_132 : decode cX12_go 132 = .ok (.aload_n 0, 1) := by decide +kernel
theorem dX12_go_133 : decode cX12_go 133 = .ok (.getfield 129, 3) := by decide +kernel
theorem dX12_go_136 : decode cX12_go 136 = .ok (.iload 5, 2) := by decide +kernel
theorem dX12_go_138 : decode cX12_go 138 = .ok (.aload_n 0, 1) := by decide +kernel
theorem dX12_go_139 : decode cX12_go 139 = .ok (.iload_n 3, 1) := by decide +kernel
theorem dX12_go_140 : decode cX12_go 140 = .ok (.iload 5, 2) := by decide +kernel
theorem dX12_go_142 : decode cX12_go 142 = .ok (.iload 4, 2) := by decide +kernel
theorem dX12_go_144 : decode cX12_go 144 = .ok (.invokevirtual 351, 3) := by decide +kernel
theorem dX12_go_147 : decode cX12_go 147 = .ok (.iastore, 1) := by decide +kernel
theorem dX12_go_148 : decode cX12_go 148 = .ok (.aload_n 0, 1) := by decide +kernel
theorem dX12_go_149 : decode cX12_go 149 = .ok (.aload_n 0, 1) := by decide +kernel
theorem dX12_go_150 : decode cX12_go 150 = .ok (.getfield 129, 3) := by decide +kernel
theorem dX12_go_153 : decode cX12_go 153 = .ok (.iload 5, 2) := by decide +kernel
theorem dX12_go_155 : decode cX12_go 155 = .ok (.iaload, 1) := by decide +kernel
theorem dX12_go_156 : decode cX12_go 156 = .ok (.invokevirtual 332, 3) := by decide +kernel
theorem dX12_go_159 : decode cX12_go 159 = .ok (.ifCond .ne 12, 3) := by decide +kernel
theorem dX12_go_162 : decode cX12_go 162 = .ok (.aload_n 0, 1) := by decide +kernel
theorem dX12_go_163 : decode cX12_go 163 = .ok (.iload 5, 2) := by decide +kernel
theorem dX12_go_165 : decode cX12_go 165 = .ok (.iconst 1, 1) := by decide +kernel
theorem dX12_go_166 : decode cX12_go 166 = .ok (.iadd, 1) := by decide +kernel
theorem dX12_go_167 : decode cX12_go 167 = .ok (.putfield 159, 3) := by decide +kernel
theorem dX12_go_170 : decode cX12_go 170 = .ok (.return_, 1) := by decide +kernel
theorem dX12_go_171 : decode cX12_go 171 = .ok (.aload_n 0, 1) := by decide +kernel
theorem dX12_go_172 : decode cX12_go 172 = .ok (.iload 5, 2) := by decide +kernel
theorem dX12_go_174 : decode cX12_go 174 = .ok (.iconst 1, 1) := by decide +kernel
theorem dX12_go_175 : decode cX12_go 175 = .ok (.invokevirtual 341, 3) := by decide +kernel
theorem dX12_go_178 : decode cX12_go 178 = .ok (.iinc 5 1, 3) := by decide +kernel
theorem dX12_go_181 : decode cX12_go 181 = .ok (.goto (-103), 3) := by decide +kernel
theorem dX12_go_184 : decode cX12_go 184 = .ok (.aload_n 0, 1) := by decide +kernel
theorem dX12_go_185 : decode cX12_go 185 = .ok (.aload_n 0, 1) := by decide +kernel
theorem dX12_go_186 : decode cX12_go 186 = .ok (.getfield 75, 3) := by decide +kernel
theorem dX12_go_189 : decode cX12_go 189 = .ok (.invokevirtual 335, 3) := by decide +kernel
theorem dX12_go_192 : decode cX12_go 192 = .ok (.ifCond .eq 14, 3) := by decide +kernel
theorem dX12_go_195 : decode cX12_go 195 = .ok (.aload_n 0, 1) := by decide +kernel
theorem dX12_go_196 : decode cX12_go 196 = .ok (.aload_n 0, 1) := by decide +kernel
theorem dX12_go_197 : decode cX12_go 197 = .ok (.getfield 153, 3) := by decide +kernel
theorem dX12_go_200 : decode cX12_go 200 = .ok (.putfield 162, 3) := by decide +kernel
theorem dX12_go_203 : decode cX12_go 203 = .ok (.goto 11, 3) := by decide +kernel
theorem dX12_go_206 : decode cX12_go 206 = .ok (.aload_n 0, 1) := by decide +kernel
theorem dX12_go_207 : decode cX12_go 207 = .ok (.aload_n 0, 1) := by decide +kernel
theorem dX12_go_208 : decode cX12_go 208 = .ok (.getfield 75, 3) := by decide +kernel
theorem dX12_go_211 : decode cX12_go 211 = .ok (.putfield 159, 3) := by decide +kernel
theorem dX12_go_214 : decode cX12_go 214 = .ok (.return_, 1) := by decide +kernel
theorem dX12_goCaravan_0 : decode cX12_goCaravan 0 = .ok (.aload_n 0, 1) := by decide +kernel
theorem dX12_goCaravan_1 : decode cX12_goCaravan 1 = .ok (.aload_n 0, 1) := by decide +kernel
theorem dX12_goCaravan_2 : decode cX12_goCaravan 2 = .ok (.getfield 114, 3) := by decide +kernel
theorem dX12_goCaravan_5 : decode cX12_goCaravan 5 = .ok (.iload_n 1, 1) := by decide +kernel
theorem dX12_goCaravan_6 : decode cX12_goCaravan 6 = .ok (.iaload, 1) := by decide +kernel
theorem dX12_goCaravan_7 : decode cX12_goCaravan 7 = .ok (.aload_n 0, 1) := by decide +kernel
theorem dX12_goCaravan_8 : decode cX12_goCaravan 8 = .ok (.getfield 117, 3) := by decide +kernel
theorem dX12_goCaravan_11 : decode cX12_goCaravan 11 = .ok (.iload_n 1, 1) := by decide +kernel
theorem dX12_goCaravan_12 : decode cX12_goCaravan 12 = .ok (.iaload, 1) := by decide +kernel
theorem dX12_goCaravan_13 : decode cX12_goCaravan 13 = .ok (.aload_n 0, 1) := by decide +kernel
theorem dX12_goCaravan_14 : decode cX12_goCaravan 14 = .ok (.getfield 120, 3) := by decide +kernel
theorem dX12_goCaravan_17 : decode cX12_goCaravan 17 = .ok (.iload_n 1, 1) := by decide +kernel
theorem dX12_goCaravan_18 : decode cX12_goCaravan 18 = .ok (.iaload, 1) := by decide +kernel
theorem dX12_goCaravan_19 : decode cX12_goCaravan 19 = .ok (.aload_n 0, 1) := by decide +kernel
theorem dX12_goCaravan_20 : decode cX12_goCaravan 20 = .ok (.getfield 102, 3) := by decide +kernel
theorem dX12_goCaravan_23 : decode cX12_goCaravan 23 = .ok (.aload_n 0, 1) := by decide +kernel
theorem dX12_goCaravan_24 : decode cX12_goCaravan 24 = .ok (.getfield 120, 3) := by decide +kernel
theorem dX12_goCaravan_27 : decode cX12_goCaravan 27 = .ok (.iload_n 1, 1) := by decide +kernel
theorem dX12_goCaravan_28 : decode cX12_goCaravan 28 = .ok (.iaload, 1) := by decide +kernel
theorem dX12_goCaravan_29 : decode cX12_goCaravan 29 = .ok (.iaload, 1) := by decide +kernel
theorem dX12_goCaravan_30 : decode cX12_goCaravan 30 = .ok (.invokevirtual 354, 3) := by decide +kernel
theorem dX12_goCaravan_33 : decode cX12_goCaravan 33 = .ok (.return_, 1) := by decide +kernel
theorem dX12_isAsked_0 : decode cX12_isAsked 0 = .ok (.aload_n 0, 1) := by decide +kernel
theorem dX12_isAsked_1 : decode cX12_isAsked 1 = .ok (.iload_n 1, 1) := by decide +kernel
theorem dX12_isAsked_2 : decode cX12_isAsked 2 = .ok (.iconst 0, 1) := by decide +kernel
theorem dX12_isAsked_3 : decode cX12_isAsked 3 = .ok (.iconst 2, 1) := by decide +kernel
theorem dX12_isAsked_4 : decode cX12_isAsked 4 = .ok (.invokevirtual 233, 3) := by decide +kernel
theorem dX12_isAsked_7 : decode cX12_isAsked 7 = .ok (.ifCond .ne 27, 3) := by decide +kernel
theorem dX12_isAsked_10 : decode cX12_isAsked 10 = .ok (.aload_n 0, 1) := by decide +kernel
theorem dX12_isAsked_11 : decode cX12_isAsked 11 = .ok (.iload_n 1, 1) := by decide +kernel
theorem dX12_isAsked_12 : decode cX12_isAsked 12 = .ok (.bipush 10, 2) := by decide +kernel
theorem dX12_isAsked_14 : decode cX12_isAsked 14 = .ok (.bipush 14, 2) := by decide +kernel
theorem dX12_isAsked_16 : decode cX12_isAsked 16 = .ok (.invokevirtual 233, 3) := by decide +kernel
theorem dX12_isAsked_19 : decode cX12_isAsked 19 = .ok (.ifCond .ne 15, 3) := by decide +kernel
theorem dX12_isAsked_22 : decode cX12_isAsked 22 = .ok (.aload_n 0, 1) := by decide +kernel
theorem dX12_isAsked_23 : decode cX12_isAsked 23 = .ok (.iload_n 1, 1) := by decide +kernel
theorem dX12_isAsked_24 : decode cX12_isAsked 24 = .ok (.bipush 20, 2) := by decide +kernel
theorem dX12_isAsked_26 : decode cX12_isAsked 26 = .ok (.bipush 24, 2) := by decide +kernel
theorem dX12_isAsked_28 : decode cX12_isAsked 28 = .ok (.invokevirtual 233, 3) := by decide +kernel
theorem dX12_isAsked_31 : decode cX12_isAsked 31 = .ok (.ifCond .eq 7, 3) := by decide +kernel
theorem dX12_isAsked_34 : decode cX12_isAsked 34 = .ok (.iconst 1, 1) := by decide +kernel
theorem dX12_isAsked_35 : decode cX12_isAsked 35 = .ok (.goto 4, 3) := by decide +kernel
theorem dX12_isAsked_38 : decode cX12_isAsked 38 = .ok (.iconst 0, 1) := by decide +kernel
theorem dX12_isAsked_39 : decode cX12_isAsked 39 = .ok (.ireturn, 1) := by decide +kernel
theorem dX12_toldOf_0 : decode cX12_toldOf 0 = .ok (.iload_n 2, 1) := by decide +kernel
theorem dX12_toldOf_1 : decode cX12_toldOf 1 = .ok (.bipush 9, 2) := by decide +kernel
theorem dX12_toldOf_3 : decode cX12_toldOf 3 = .ok (.if_icmp .le 16, 3) := by decide +kernel
theorem dX12_toldOf_6 : decode cX12_toldOf 6 = .ok (.iload_n 2, 1) := by decide +kernel
theorem dX12_toldOf_7 : decode cX12_toldOf 7 = .ok (.bipush 10, 2) := by decide +kernel
theorem dX12_toldOf_9 : decode cX12_toldOf 9 = .ok (.irem, 1) := by decide +kernel
theorem dX12_toldOf_10 : decode cX12_toldOf 10 = .ok (.aload_n 0, 1) := by decide +kernel
theorem dX12_toldOf_11 : decode cX12_toldOf 11 = .ok (.getfield 75, 3) := by decide +kernel
theorem dX12_toldOf_14 : decode cX12_toldOf 14 = .ok (.if_icmp .lt 5, 3) := by decide +kernel
theorem dX12_toldOf_17 : decode cX12_toldOf 17 = .ok (.iconst (-1), 1) := by decide +kernel
theorem dX12_toldOf_18 : decode cX12_toldOf 18 = .ok (.ireturn, 1) := by decide +kernel
theorem dX12_toldOf_19 : decode cX12_toldOf 19 = .ok (.iload_n 2, 1) := by decide +kernel
theorem dX12_toldOf_20 : decode cX12_toldOf 20 = .ok (.bipush 19, 2) := by decide +kernel
theorem dX12_toldOf_22 : decode cX12_toldOf 22 = .ok (.if_icmp .le 13, 3) := by decide +kernel
theorem dX12_toldOf_25 : decode cX12_toldOf 25 = .ok (.aload_n 0, 1) := by decide +kernel
theorem dX12_toldOf_26 : decode cX12_toldOf 26 = .ok (.getfield 132, 3) := by decide +kernel
theorem dX12_toldOf_29 : decode cX12_toldOf 29 = .ok (.iload_n 2, 1) := by decide +kernel
theorem dX12_toldOf_30 : decode cX12_toldOf 30 = .ok (.bipush 20, 2) := by decide +kernel
theorem dX12_toldOf_32 : decode cX12_toldOf 32 = .ok (.isub, 1) := by decide +kernel
theorem dX12_toldOf_33 : decode cX12_toldOf 33 = .ok (.iaload, 1) := by decide +kernel
theorem dX12_toldOf_34 : decode cX12_toldOf 34 = .ok (.ireturn, 1) := by decide +kernel
theorem dX12_toldOf_35 : decode cX12_toldOf 35 = .ok (.iload_n 2, 1) := by decide +kernel
theorem dX12_toldOf_36 : decode cX12_toldOf 36 = .ok (.bipush 9, 2) := by decide +kernel
theorem dX12_toldOf_38 : decode cX12_toldOf 38 = .ok (.if_icmp .le 13, 3) := by decide +kernel
theorem dX12_toldOf_41 : decode cX12_toldOf 41 = .ok (.aload_n 0, 1) := by decide +kernel
theorem dX12_toldOf_42 : decode cX12_toldOf 42 = .ok (.getfield 129, 3) := by decide +kernel
theorem dX12_toldOf_45 : decode cX12_toldOf 45 = .ok (.iload_n 2, 1) := by decide +kernel
theorem dX12_toldOf_46 : decode cX12_toldOf 46 = .ok (.bipush 10, 2) := by decide +kernel
theorem dX12_toldOf_48 : decode cX12_toldOf 48 = .ok (.isub, 1) := by decide +kernel
theorem dX12_toldOf_49 : decode cX12_toldOf 49 = .ok (.iaload, 1) := by decide +kernel
theorem dX12_toldOf_50 : decode cX12_toldOf 50 = .ok (.ireturn, 1) := by decide +kernel
theorem dX12_toldOf_51 : decode cX12_toldOf 51 = .ok (.iload_n 2, 1) := by decide +kernel
theorem dX12_toldOf_52 : decode cX12_toldOf 52 = .ok (.ifCond .ne 10, 3) := by decide +kernel
theorem dX12_toldOf_55 : decode cX12_toldOf 55 = .ok (.aload_n 0, 1) := by decide +kernel
theorem dX12_toldOf_56 : decode cX12_toldOf 56 = .ok (.getfield 162, 3) := by decide +kernel
theorem dX12_toldOf_59 : decode cX12_toldOf 59 = .ok (.goto 39, 3) := by decide +kernel
theorem dX12_toldOf_62 : decode cX12_toldOf 62 = .ok (.iload_n 2, 1) := by decide +kernel
theorem dX12_toldOf_63 : decode cX12_toldOf 63 = .ok (.iconst 1, 1) := by decide +kernel
theorem dX12_toldOf_64 : decode cX12_toldOf 64 = .ok (.if_icmp .ne 10, 3) := by decide +kernel
theorem dX12_toldOf_67 : decode cX12_toldOf 67 = .ok (.aload_n 0, 1) := by decide +kernel
theorem dX12_toldOf_68 : decode cX12_toldOf 68 = .ok (.getfield 159, 3) := by decide +kernel
theorem dX12_toldOf_71 : decode cX12_toldOf 71 = .ok (.goto 27, 3) := by decide +kernel
theorem dX12_toldOf_74 : decode cX12_toldOf 74 = .ok (.aload_n 0, 1) := by decide +kernel
theorem dX12_toldOf_75 : decode cX12_toldOf 75 = .ok (.getfield 162, 3) := by decide +kernel
theorem dX12_toldOf_78 : decode cX12_toldOf 78 = .ok (.ifCond .ge 7, 3) := by decide +kernel
theorem dX12_toldOf_81 : decode cX12_toldOf 81 = .ok (.iconst 0, 1) := by decide +kernel
theorem dX12_toldOf_82 : decode cX12_toldOf 82 = .ok (.goto 16, 3) := by decide +kernel
theorem dX12_toldOf_85 : decode cX12_toldOf 85 = .ok (.aload_n 0, 1) := by decide +kernel
theorem dX12_toldOf_86 : decode cX12_toldOf 86 = .ok (.getfield 114, 3) := by decide +kernel
theorem dX12_toldOf_89 : decode cX12_toldOf 89 = .ok (.iload_n 1, 1) := by decide +kernel
theorem dX12_toldOf_90 : decode cX12_toldOf 90 = .ok (.iaload, 1) := by decide +kernel
theorem dX12_toldOf_91 : decode cX12_toldOf 91 = .ok (.aload_n 0, 1) := by decide +kernel
theorem dX12_toldOf_92 : decode cX12_toldOf 92 = .ok (.iconst 4, 1) := by decide +kernel
theorem dX12_toldOf_93 : decode cX12_toldOf 93 = .ok (.iconst 1, 1) := by decide +kernel
theorem dX12_toldOf_94 : decode cX12_toldOf 94 = .ok (.invokevirtual 316, 3) := by decide +kernel
theorem dX12_toldOf_97 : decode cX12_toldOf 97 = .ok (.imul, 1) := by decide +kernel
theorem dX12_toldOf_98 : decode cX12_toldOf 98 = .ok (.ireturn, 1) := by decide +kernel
theorem dX12_would_0 : decode cX12_would 0 = .ok (.aload_n 0, 1) := by decide +kernel
theorem dX12_would_1 : decode cX12_would 1 = .ok (.iload_n 1, 1) := by decide +kernel
theorem dX12_would_2 : decode cX12_would 2 = .ok (.invokevirtual 358, 3) := by decide +kernel
theorem dX12_would_5 : decode cX12_would 5 = .ok (.ifCond .eq 11, 3) := by decide +kernel
theorem dX12_would_8 : decode cX12_would 8 = .ok (.aload_n 0, 1) := by decide +kernel
theorem dX12_would_9 : decode cX12_would 9 = .ok (.iload_n 2, 1) := by decide +kernel
theorem dX12_would_10 : decode cX12_would 10 = .ok (.invokevirtual 361, 3) := by decide +kernel
theorem dX12_would_13 : decode cX12_would 13 = .ok (.ifCond .ne 5, 3) := by decide +kernel
theorem dX12_would_16 : decode cX12_would 16 = .ok (.iconst (-1), 1) := by decide +kernel
theorem dX12_would_17 : decode cX12_would 17 = .ok (.ireturn, 1) := by decide +kernel
theorem dX12_would_18 : decode cX12_would 18 = .ok (.aload_n 0, 1) := by decide +kernel
theorem dX12_would_19 : decode cX12_would 19 = .ok (.getfield 13, 3) := by decide +kernel
theorem dX12_would_22 : decode cX12_would 22 = .ok (.ifCond .ge 6, 3) := by decide +kernel
theorem dX12_would_25 : decode cX12_would 25 = .ok (.bipush (-3), 2) := by decide +kernel
theorem dX12_would_27 : decode cX12_would 27 = .ok (.ireturn, 1) := by decide +kernel
theorem dX12_would_28 : decode cX12_would 28 = .ok (.aload_n 0, 1) := by decide +kernel
theorem dX12_would_29 : decode cX12_would 29 = .ok (.invokevirtual 306, 3) := by decide +kernel
theorem dX12_would_32 : decode cX12_would 32 = .ok (.aload_n 0, 1) := by decide +kernel
theorem dX12_would_33 : decode cX12_would 33 = .ok (.iload_n 1, 1) := by decide +kernel
theorem dX12_would_34 : decode cX12_would 34 = .ok (.invokevirtual 364, 3) := by decide +kernel
theorem dX12_would_37 : decode cX12_would 37 = .ok (.aload_n 0, 1) := by decide +kernel
theorem dX12_would_38 : decode cX12_would 38 = .ok (.iload_n 1, 1) := by decide +kernel
theorem dX12_would_39 : decode cX12_would 39 = .ok (.iload_n 2, 1) := by decide +kernel
theorem dX12_would_40 : decode cX12_would 40 = .ok (.invokevirtual 367, 3) := by decide +kernel
theorem dX12_would_43 : decode cX12_would 43 = .ok (.ireturn, 1) := by decide +kernel
theorem dX12_goes_0 : decode cX12_goes 0 = .ok (.aload_n 0, 1) := by decide +kernel
theorem dX12_goes_1 : decode cX12_goes 1 = .ok (.iload_n 1, 1) := by decide +kernel
theorem dX12_goes_2 : decode cX12_goes 2 = .ok (.invokevirtual 358, 3) := by decide +kernel
theorem dX12_goes_5 : decode cX12_goes 5 = .ok (.ifCond .ne 5, 3) := by decide +kernel
theorem dX12_goes_8 : decode cX12_goes 8 = .ok (.iconst (-1), 1) := by decide +kernel
theorem dX12_goes_9 : decode cX12_goes 9 = .ok (.ireturn, 1) := by decide +kernel
theorem dX12_goes_10 : decode cX12_goes 10 = .ok (.aload_n 0, 1) := by decide +kernel
theorem dX12_goes_11 : decode cX12_goes 11 = .ok (.getfield 13, 3) := by decide +kernel
theorem dX12_goes_14 : decode cX12_goes 14 = .ok (.ifCond .ge 6, 3) := by decide +kernel
theorem dX12_goes_17 : decode cX12_goes 17 = .ok (.bipush (-3), 2) := by decide +kernel
theorem dX12_goes_19 : decode cX12_goes 19 = .ok (.ireturn, 1) := by decide +kernel
theorem dX12_goes_20 : decode cX12_goes 20 = .ok (.aload_n 0, 1) := by decide +kernel
theorem dX12_goes_21 : decode cX12_goes 21 = .ok (.invokevirtual 306, 3) := by decide +kernel
theorem dX12_goes_24 : decode cX12_goes 24 = .ok (.aload_n 0, 1) := by decide +kernel
theorem dX12_goes_25 : decode cX12_goes 25 = .ok (.iload_n 1, 1) := by decide +kernel
theorem dX12_goes_26 : decode cX12_goes 26 = .ok (.invokevirtual 364, 3) := by decide +kernel
theorem dX12_goes_29 : decode cX12_goes 29 = .ok (.iconst 0, 1) := by decide +kernel
theorem dX12_goes_30 : decode cX12_goes 30 = .ok (.istore_n 2, 1) := by decide +kernel
theorem dX12_goes_31 : decode cX12_goes 31 = .ok (.iload_n 2, 1) := by decide +kernel
theorem dX12_goes_32 : decode cX12_goes 32 = .ok (.aload_n 0, 1) := by decide +kernel
theorem dX12_goes_33 : decode cX12_goes 33 = .ok (.getfield 75, 3) := by decide +kernel
theorem dX12_goes_36 : decode cX12_goes 36 = .ok (.if_icmp .ge 33, 3) := by decide +kernel
theorem dX12_goes_39 : decode cX12_goes 39 = .ok (.aload_n 0, 1) := by decide +kernel
theorem dX12_goes_40 : decode cX12_goes 40 = .ok (.getfield 66, 3) := by decide +kernel
theorem dX12_goes_43 : decode cX12_goes 43 = .ok (.iload_n 2, 1) := by decide +kernel
theorem dX12_goes_44 : decode cX12_goes 44 = .ok (.aload_n 0, 1) := by decide +kernel
theorem dX12_goes_45 : decode cX12_goes 45 = .ok (.getfield 87, 3) := by decide +kernel
theorem dX12_goes_48 : decode cX12_goes 48 = .ok (.iload_n 2, 1) := by decide +kernel
theorem dX12_goes_49 : decode cX12_goes 49 = .ok (.iaload, 1) := by decide +kernel
theorem dX12_goes_50 : decode cX12_goes 50 = .ok (.iastore, 1) := by decide +kernel
theorem dX12_goes_51 : decode cX12_goes 51 = .ok (.aload_n 0, 1) := by decide +kernel
theorem dX12_goes_52 : decode cX12_goes 52 = .ok (.getfield 69, 3) := by decide +kernel
theorem dX12_goes_55 : decode cX12_goes 55 = .ok (.iload_n 2, 1) := by decide +kernel
theorem dX12_goes_56 : decode cX12_goes 56 = .ok (.aload_n 0, 1) := by decide +kernel
theorem dX12_goes_57 : decode cX12_goes 57 = .ok (.getfield 90, 3) := by decide +kernel
theorem dX12_goes_60 : decode cX12_goes 60 = .ok (.iload_n 2, 1) := by decide +kernel
theorem dX12_goes_61 : decode cX12_goes 61 = .ok (.iaload, 1) := by decide +kernel
theorem dX12_goes_62 : decode cX12_goes 62 = .ok (.iastore, 1) := by decide +kernel
theorem dX12_goes_63 : decode cX12_goes 63 = .ok (.iinc 2 1, 3) := by decide +kernel
theorem dX12_goes_66 : decode cX12_goes 66 = .ok (.goto (-35), 3) := by decide +kernel
theorem dX12_goes_69 : decode cX12_goes 69 = .ok (.aload_n 0, 1) := by decide +kernel
theorem dX12_goes_70 : decode cX12_goes 70 = .ok (.getfield 162, 3) := by decide +kernel
theorem dX12_goes_73 : decode cX12_goes 73 = .ok (.ireturn, 1) := by decide +kernel
theorem dX12_gone_0 : decode cX12_gone 0 = .ok (.aload_n 0, 1) := by decide +kernel
theorem dX12_gone_1 : decode cX12_gone 1 = .ok (.iload_n 1, 1) := by decide +kernel
theorem dX12_gone_2 : decode cX12_gone 2 = .ok (.invokevirtual 358, 3) := by decide +kernel
theorem dX12_gone_5 : decode cX12_gone 5 = .ok (.ifCond .eq 11, 3) := by decide +kernel
theorem dX12_gone_8 : decode cX12_gone 8 = .ok (.aload_n 0, 1) := by decide +kernel
theorem dX12_gone_9 : decode cX12_gone 9 = .ok (.iload_n 2, 1) := by decide +kernel
theorem dX12_gone_10 : decode cX12_gone 10 = .ok (.invokevirtual 361, 3) := by decide +kernel
theorem dX12_gone_13 : decode cX12_gone 13 = .ok (.ifCond .ne 5, 3) := by decide +kernel
theorem dX12_gone_16 : decode cX12_gone 16 = .ok (.iconst (-1), 1) := by decide +kernel
theorem dX12_gone_17 : decode cX12_gone 17 = .ok (.ireturn, 1) := by decide +kernel
theorem dX12_gone_18 : decode cX12_gone 18 = .ok (.aload_n 0, 1) := by decide +kernel
theorem dX12_gone_19 : decode cX12_gone 19 = .ok (.getfield 13, 3) := by decide +kernel
theorem dX12_gone_22 : decode cX12_gone 22 = .ok (.ifCond .ge 6, 3) := by decide +kernel
theorem dX12_gone_25 : decode cX12_gone 25 = .ok (.bipush (-3), 2) := by decide +kernel
theorem dX12_gone_27 : decode cX12_gone 27 = .ok (.ireturn, 1) := by decide +kernel
theorem dX12_gone_28 : decode cX12_gone 28 = .ok (.aload_n 0, 1) := by decide +kernel
theorem dX12_gone_29 : decode cX12_gone 29 = .ok (.invokevirtual 306, 3) := by decide +kernel
theorem dX12_gone_32 : decode cX12_gone 32 = .ok (.aload_n 0, 1) := by decide +kernel
theorem dX12_gone_33 : decode cX12_gone 33 = .ok (.aload_n 0, 1) := by decide +kernel
theorem dX12_gone_34 : decode cX12_gone 34 = .ok (.getfield 114, 3) := by decide +kernel
theorem dX12_gone_37 : decode cX12_gone 37 = .ok (.iload_n 1, 1) := by decide +kernel
theorem dX12_gone_38 : decode cX12_gone 38 = .ok (.iaload, 1) := by decide +kernel
theorem dX12_gone_39 : decode cX12_gone 39 = .ok (.aload_n 0, 1) := by decide +kernel
theorem dX12_gone_40 : decode cX12_gone 40 = .ok (.getfield 117, 3) := by decide +kernel
theorem dX12_gone_43 : decode cX12_gone 43 = .ok (.iload_n 1, 1) := by decide +kernel
theorem dX12_gone_44 : decode cX12_gone 44 = .ok (.iaload, 1) := by decide +kernel
theorem dX12_gone_45 : decode cX12_gone 45 = .ok (.iconst 0, 1) := by decide +kernel
theorem dX12_gone_46 : decode cX12_gone 46 = .ok (.bipush 7, 2) := by decide +kernel
theorem dX12_gone_48 : decode cX12_gone 48 = .ok (.invokevirtual 354, 3) := by decide +kernel
theorem dX12_gone_51 : decode cX12_gone 51 = .ok (.aload_n 0, 1) := by decide +kernel
theorem dX12_gone_52 : decode cX12_gone 52 = .ok (.iload_n 1, 1) := by decide +kernel
theorem dX12_gone_53 : decode cX12_gone 53 = .ok (.iload_n 2, 1) := by decide +kernel
theorem dX12_gone_54 : decode cX12_gone 54 = .ok (.invokevirtual 367, 3) := by decide +kernel
theorem dX12_gone_57 : decode cX12_gone 57 = .ok (.ireturn, 1) := by decide +kernel
theorem dX12_size_0 : decode cX12_size 0 = .ok (.aload_n 0, 1) := by decide +kernel
theorem dX12_size_1 : decode cX12_size 1 = .ok (.iload_n 2, 1) := by decide +kernel
theorem dX12_size_2 : decode cX12_size 2 = .ok (.invokevirtual 329, 3) := by decide +kernel
theorem dX12_size_5 : decode cX12_size 5 = .ok (.ifCond .eq 13, 3) := by decide +kernel
theorem dX12_size_8 : decode cX12_size 8 = .ok (.aload_n 0, 1) := by decide +kernel
theorem dX12_size_9 : decode cX12_size 9 = .ok (.iload_n 3, 1) := by decide +kernel
theorem dX12_size_10 : decode cX12_size 10 = .ok (.iconst 0, 1) := by decide +kernel
theorem dX12_size_11 : decode cX12_size 11 = .ok (.iconst 1, 1) := by decide +kernel
theorem dX12_size_12 : decode cX12_size 12 = .ok (.invokevirtual 233, 3) := by decide +kernel
theorem dX12_size_15 : decode cX12_size 15 = .ok (.ifCond .ne 5, 3) := by decide +kernel
theorem dX12_size_18 : decode cX12_size 18 = .ok (.iconst (-1), 1) := by decide +kernel
theorem dX12_size_19 : decode cX12_size 19 = .ok (.ireturn, 1) := by decide +kernel
theorem dX12_size_20 : decode cX12_size 20 = .ok (.aload_n 0, 1) := by decide +kernel
theorem dX12_size_21 : decode cX12_size 21 = .ok (.iload_n 1, 1) := by decide +kernel
theorem dX12_size_22 : decode cX12_size 22 = .ok (.iconst 0, 1) := by decide +kernel
theorem dX12_size_23 : decode cX12_size 23 = .ok (.bipush 99, 2) := by decide +kernel
theorem dX12_size_25 : decode cX12_size 25 = .ok (.invokevirtual 233, 3) := by decide +kernel
theorem dX12_size_28 : decode cX12_size 28 = .ok (.ifCond .ne 6, 3) := by decide +kernel
theorem dX12_size_31 : decode cX12_size 31 = .ok (.bipush (-2), 2) := by decide +kernel
theorem dX12_size_33 : decode cX12_size 33 = .ok (.ireturn, 1) := by decide +kernel
theorem dX12_size_34 : decode cX12_size 34 = .ok (.aload_n 0, 1) := by decide +kernel
theorem dX12_size_35 : decode cX12_size 35 = .ok (.getfield 13, 3) := by decide +kernel
theorem dX12_size_38 : decode cX12_size 38 = .ok (.ifCond .ge 6, 3) := by decide +kernel
theorem dX12_size_41 : decode cX12_size 41 = .ok (.bipush (-3), 2) := by decide +kernel
theorem dX12_size_43 : decode cX12_size 43 = .ok (.ireturn, 1) := by decide +kernel
theorem dX12_size_44 : decode cX12_size 44 = .ok (.iconst 0, 1) := by decide +kernel
theorem dX12_size_45 : decode cX12_size 45 = .ok (.istore 4, 2) := by decide +kernel
theorem dX12_size_47 : decode cX12_size 47 = .ok (.iconst (-1), 1) := by decide +kernel
theorem dX12_size_48 : decode cX12_size 48 = .ok (.istore 5, 2) := by decide +kernel
theorem dX12_size_50 : decode cX12_size 50 = .ok (.iconst 0, 1) := by decide +kernel
theorem dX12_size_51 : decode cX12_size 51 = .ok (.istore 6, 2) := by decide +kernel
theorem dX12_size_53 : decode cX12_size 53 = .ok (.iconst 1, 1) := by decide +kernel
theorem dX12_size_54 : decode cX12_size 54 = .ok (.istore 7, 2) := by decide +kernel
theorem dX12_size_56 : decode cX12_size 56 = .ok (.iload 7, 2) := by decide +kernel
theorem dX12_size_58 : decode cX12_size 58 = .ok (.bipush 10, 2) := by decide +kernel
theorem dX12_size_60 : decode cX12_size 60 = .ok (.if_icmp .ge 88, 3) := by decide +kernel
theorem dX12_size_63 : decode cX12_size 63 = .ok (.aload_n 0, 1) := by decide +kernel
theorem dX12_size_64 : decode cX12_size 64 = .ok (.invokevirtual 306, 3) := by decide +kernel
theorem dX12_size_67 : decode cX12_size 67 = .ok (.aload_n 0, 1) := by decide +kernel
theorem dX12_size_68 : decode cX12_size 68 = .ok (.iload 7, 2) := by decide +kernel
theorem dX12_size_70 : decode cX12_size 70 = .ok (.iload_n 1, 1) := by decide +kernel
theorem dX12_size_71 : decode cX12_size 71 = .ok (.iload_n 2, 1) := by decide +kernel
