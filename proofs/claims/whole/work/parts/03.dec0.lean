theorem dX0_of_0 : decode cX0_of 0 = .ok (.iconst 0, 1) := by decide +kernel
theorem dX0_of_1 : decode cX0_of 1 = .ok (.istore_n 1, 1) := by decide +kernel
theorem dX0_of_2 : decode cX0_of 2 = .ok (.iconst 0, 1) := by decide +kernel
theorem dX0_of_3 : decode cX0_of 3 = .ok (.istore_n 2, 1) := by decide +kernel
theorem dX0_of_4 : decode cX0_of 4 = .ok (.iload_n 2, 1) := by decide +kernel
theorem dX0_of_5 : decode cX0_of 5 = .ok (.iconst 5, 1) := by decide +kernel
theorem dX0_of_6 : decode cX0_of 6 = .ok (.if_icmp .ge 21, 3) := by decide +kernel
theorem dX0_of_9 : decode cX0_of 9 = .ok (.iload_n 1, 1) := by decide +kernel
theorem dX0_of_10 : decode cX0_of 10 = .ok (.iload_n 0, 1) := by decide +kernel
theorem dX0_of_11 : decode cX0_of 11 = .ok (.iload_n 2, 1) := by decide +kernel
theorem dX0_of_12 : decode cX0_of 12 = .ok (.ishr, 1) := by decide +kernel
theorem dX0_of_13 : decode cX0_of 13 = .ok (.iconst 1, 1) := by decide +kernel
theorem dX0_of_14 : decode cX0_of 14 = .ok (.iand, 1) := by decide +kernel
theorem dX0_of_15 : decode cX0_of 15 = .ok (.iconst 4, 1) := by decide +kernel
theorem dX0_of_16 : decode cX0_of 16 = .ok (.iload_n 2, 1) := by decide +kernel
theorem dX0_of_17 : decode cX0_of 17 = .ok (.imul, 1) := by decide +kernel
theorem dX0_of_18 : decode cX0_of 18 = .ok (.ishl, 1) := by decide +kernel
theorem dX0_of_19 : decode cX0_of 19 = .ok (.ior, 1) := by decide +kernel
theorem dX0_of_20 : decode cX0_of 20 = .ok (.istore_n 1, 1) := by decide +kernel
theorem dX0_of_21 : decode cX0_of 21 = .ok (.iinc 2 1, 3) := by decide +kernel
theorem dX0_of_24 : decode cX0_of 24 = .ok (.goto (-20), 3) := by decide +kernel
theorem dX0_of_27 : decode cX0_of 27 = .ok (.iload_n 1, 1) := by decide +kernel
theorem dX0_of_28 : decode cX0_of 28 = .ok (.ireturn, 1) := by decide +kernel
theorem dX0_on_0 : decode cX0_on 0 = .ok (.iload_n 0, 1) := by decide +kernel
theorem dX0_on_1 : decode cX0_on 1 = .ok (.iconst 4, 1) := by decide +kernel
theorem dX0_on_2 : decode cX0_on 2 = .ok (.iload_n 1, 1) := by decide +kernel
theorem dX0_on_3 : decode cX0_on 3 = .ok (.imul, 1) := by decide +kernel
theorem dX0_on_4 : decode cX0_on 4 = .ok (.ishr, 1) := by decide +kernel
theorem dX0_on_5 : decode cX0_on 5 = .ok (.bipush 15, 2) := by decide +kernel
theorem dX0_on_7 : decode cX0_on 7 = .ok (.iand, 1) := by decide +kernel
theorem dX0_on_8 : decode cX0_on 8 = .ok (.ireturn, 1) := by decide +kernel
theorem dX1_init_0 : decode cX1_init 0 = .ok (.aload_n 0, 1) := by decide +kernel
theorem dX1_init_1 : decode cX1_init 1 = .ok (.invokespecial 3, 3) := by decide +kernel
theorem dX1_init_4 : decode cX1_init 4 = .ok (.aload_n 0, 1) := by decide +kernel
theorem dX1_init_5 : decode cX1_init 5 = .ok (.bipush 8, 2) := by decide +kernel
theorem dX1_init_7 : decode cX1_init 7 = .ok (.newarray .int, 2) := by decide +kernel
theorem dX1_init_9 : decode cX1_init 9 = .ok (.putfield 9, 3) := by decide +kernel
theorem dX1_init_12 : decode cX1_init 12 = .ok (.aload_n 0, 1) := by decide +kernel
theorem dX1_init_13 : decode cX1_init 13 = .ok (.bipush 8, 2) := by decide +kernel
theorem dX1_init_15 : decode cX1_init 15 = .ok (.newarray .int, 2) := by decide +kernel
theorem dX1_init_17 : decode cX1_init 17 = .ok (.putfield 15, 3) := by decide +kernel
theorem dX1_init_20 : decode cX1_init 20 = .ok (.aload_n 0, 1) := by decide +kernel
theorem dX1_init_21 : decode cX1_init 21 = .ok (.bipush 8, 2) := by decide +kernel
theorem dX1_init_23 : decode cX1_init 23 = .ok (.newarray .int, 2) := by decide +kernel
theorem dX1_init_25 : decode cX1_init 25 = .ok (.putfield 18, 3) := by decide +kernel
theorem dX1_init_28 : decode cX1_init 28 = .ok (.aload_n 0, 1) := by decide +kernel
theorem dX1_init_29 : decode cX1_init 29 = .ok (.iconst 0, 1) := by decide +kernel
theorem dX1_init_30 : decode cX1_init 30 = .ok (.putfield 21, 3) := by decide +kernel
theorem dX1_init_33 : decode cX1_init 33 = .ok (.return_, 1) := by decide +kernel
theorem dX1_append_0 : decode cX1_append 0 = .ok (.aload_n 0, 1) := by decide +kernel
theorem dX1_append_1 : decode cX1_append 1 = .ok (.getfield 21, 3) := by decide +kernel
theorem dX1_append_4 : decode cX1_append 4 = .ok (.bipush 8, 2) := by decide +kernel
theorem dX1_append_6 : decode cX1_append 6 = .ok (.if_icmp .ge 43, 3) := by decide +kernel
theorem dX1_append_9 : decode cX1_append 9 = .ok (.aload_n 0, 1) := by decide +kernel
theorem dX1_append_10 : decode cX1_append 10 = .ok (.getfield 9, 3) := by decide +kernel
theorem dX1_append_13 : decode cX1_append 13 = .ok (.aload_n 0, 1) := by decide +kernel
theorem dX1_append_14 : decode cX1_append 14 = .ok (.getfield 21, 3) := by decide +kernel
theorem dX1_append_17 : decode cX1_append 17 = .ok (.iload_n 1, 1) := by decide +kernel
theorem dX1_append_18 : decode cX1_append 18 = .ok (.iastore, 1) := by decide +kernel
theorem dX1_append_19 : decode cX1_append 19 = .ok (.aload_n 0, 1) := by decide +kernel
theorem dX1_append_20 : decode cX1_append 20 = .ok (.getfield 15, 3) := by decide +kernel
theorem dX1_append_23 : decode cX1_append 23 = .ok (.aload_n 0, 1) := by decide +kernel
theorem dX1_append_24 : decode cX1_append 24 = .ok (.getfield 21, 3) := by decide +kernel
theorem dX1_append_27 : decode cX1_append 27 = .ok (.iload_n 2, 1) := by decide +kernel
theorem dX1_append_28 : decode cX1_append 28 = .ok (.iastore, 1) := by decide +kernel
theorem dX1_append_29 : decode cX1_append 29 = .ok (.aload_n 0, 1) := by decide +kernel
theorem dX1_append_30 : decode cX1_append 30 = .ok (.getfield 18, 3) := by decide +kernel
theorem dX1_append_33 : decode cX1_append 33 = .ok (.aload_n 0, 1) := by decide +kernel
theorem dX1_append_34 : decode cX1_append 34 = .ok (.getfield 21, 3) := by decide +kernel
theorem dX1_append_37 : decode cX1_append 37 = .ok (.iload_n 3, 1) := by decide +kernel
theorem dX1_append_38 : decode cX1_append 38 = .ok (.iastore, 1) := by decide +kernel
theorem dX1_append_39 : decode cX1_append 39 = .ok (.aload_n 0, 1) := by decide +kernel
theorem dX1_append_40 : decode cX1_append 40 = .ok (.dup, 1) := by decide +kernel
theorem dX1_append_41 : decode cX1_append 41 = .ok (.getfield 21, 3) := by decide +kernel
theorem dX1_append_44 : decode cX1_append 44 = .ok (.iconst 1, 1) := by decide +kernel
theorem dX1_append_45 : decode cX1_append 45 = .ok (.iadd, 1) := by decide +kernel
theorem dX1_append_46 : decode cX1_append 46 = .ok (.putfield 21, 3) := by decide +kernel
theorem dX1_append_49 : decode cX1_append 49 = .ok (.return_, 1) := by decide +kernel
theorem dX1_allHold_0 : decode cX1_allHold 0 = .ok (.iconst 0, 1) := by decide +kernel
theorem dX1_allHold_1 : decode cX1_allHold 1 = .ok (.istore_n 2, 1) := by decide +kernel
theorem dX1_allHold_2 : decode cX1_allHold 2 = .ok (.iload_n 2, 1) := by decide +kernel
theorem dX1_allHold_3 : decode cX1_allHold 3 = .ok (.aload_n 0, 1) := by decide +kernel
theorem dX1_allHold_4 : decode cX1_allHold 4 = .ok (.getfield 21, 3) := by decide +kernel
theorem dX1_allHold_7 : decode cX1_allHold 7 = .ok (.if_icmp .ge 41, 3) := by decide +kernel
theorem dX1_allHold_10 : decode cX1_allHold 10 = .ok (.aload_n 1, 1) := by decide +kernel
theorem dX1_allHold_11 : decode cX1_allHold 11 = .ok (.aload_n 1, 1) := by decide +kernel
theorem dX1_allHold_12 : decode cX1_allHold 12 = .ok (.getfield 25, 3) := by decide +kernel
theorem dX1_allHold_15 : decode cX1_allHold 15 = .ok (.aload_n 0, 1) := by decide +kernel
theorem dX1_allHold_16 : decode cX1_allHold 16 = .ok (.getfield 9, 3) := by decide +kernel
theorem dX1_allHold_19 : decode cX1_allHold 19 = .ok (.iload_n 2, 1) := by decide +kernel
theorem dX1_allHold_20 : decode cX1_allHold 20 = .ok (.iaload, 1) := by decide +kernel
theorem dX1_allHold_21 : decode cX1_allHold 21 = .ok (.aaload, 1) := by decide +kernel
theorem dX1_allHold_22 : decode cX1_allHold 22 = .ok (.aload_n 0, 1) := by decide +kernel
theorem dX1_allHold_23 : decode cX1_allHold 23 = .ok (.getfield 15, 3) := by decide +kernel
theorem dX1_allHold_26 : decode cX1_allHold 26 = .ok (.iload_n 2, 1) := by decide +kernel
theorem dX1_allHold_27 : decode cX1_allHold 27 = .ok (.iaload, 1) := by decide +kernel
theorem dX1_allHold_28 : decode cX1_allHold 28 = .ok (.invokevirtual 31, 3) := by decide +kernel
theorem dX1_allHold_31 : decode cX1_allHold 31 = .ok (.aload_n 0, 1) := by decide +kernel
theorem dX1_allHold_32 : decode cX1_allHold 32 = .ok (.getfield 18, 3) := by decide +kernel
theorem dX1_allHold_35 : decode cX1_allHold 35 = .ok (.iload_n 2, 1) := by decide +kernel
theorem dX1_allHold_36 : decode cX1_allHold 36 = .ok (.iaload, 1) := by decide +kernel
theorem dX1_allHold_37 : decode cX1_allHold 37 = .ok (.if_icmp .eq 5, 3) := by decide +kernel
theorem dX1_allHold_40 : decode cX1_allHold 40 = .ok (.iconst 0, 1) := by decide +kernel
theorem dX1_allHold_41 : decode cX1_allHold 41 = .ok (.ireturn, 1) := by decide +kernel
theorem dX1_allHold_42 : decode cX1_allHold 42 = .ok (.iinc 2 1, 3) := by decide +kernel
theorem dX1_allHold_45 : decode cX1_allHold 45 = .ok (.goto (-43), 3) := by decide +kernel
theorem dX1_allHold_48 : decode cX1_allHold 48 = .ok (.iconst 1, 1) := by decide +kernel
theorem dX1_allHold_49 : decode cX1_allHold 49 = .ok (.ireturn, 1) := by decide +kernel
theorem dX2_init_0 : decode cX2_init 0 = .ok (.aload_n 0, 1) := by decide +kernel
theorem dX2_init_1 : decode cX2_init 1 = .ok (.invokespecial 3, 3) := by decide +kernel
theorem dX2_init_4 : decode cX2_init 4 = .ok (.aload_n 0, 1) := by decide +kernel
theorem dX2_init_5 : decode cX2_init 5 = .ok (.iconst 5, 1) := by decide +kernel
theorem dX2_init_6 : decode cX2_init 6 = .ok (.newarray .int, 2) := by decide +kernel
theorem dX2_init_8 : decode cX2_init 8 = .ok (.putfield 9, 3) := by decide +kernel
theorem dX2_init_11 : decode cX2_init 11 = .ok (.aload_n 0, 1) := by decide +kernel
theorem dX2_init_12 : decode cX2_init 12 = .ok (.iconst 4, 1) := by decide +kernel
theorem dX2_init_13 : decode cX2_init 13 = .ok (.anewarray 15, 3) := by decide +kernel
theorem dX2_init_16 : decode cX2_init 16 = .ok (.putfield 17, 3) := by decide +kernel
theorem dX2_init_19 : decode cX2_init 19 = .ok (.aload_n 0, 1) := by decide +kernel
theorem dX2_init_20 : decode cX2_init 20 = .ok (.iconst 4, 1) := by decide +kernel
theorem dX2_init_21 : decode cX2_init 21 = .ok (.newarray .int, 2) := by decide +kernel
theorem dX2_init_23 : decode cX2_init 23 = .ok (.putfield 21, 3) := by decide +kernel
theorem dX2_init_26 : decode cX2_init 26 = .ok (.aload_n 0, 1) := by decide +kernel
theorem dX2_init_27 : decode cX2_init 27 = .ok (.iconst 0, 1) := by decide +kernel
theorem dX2_init_28 : decode cX2_init 28 = .ok (.putfield 24, 3) := by decide +kernel
theorem dX2_init_31 : decode cX2_init 31 = .ok (.aload_n 0, 1) := by decide +kernel
theorem dX2_init_32 : decode cX2_init 32 = .ok (.iconst 0, 1) := by decide +kernel
theorem dX2_init_33 : decode cX2_init 33 = .ok (.putfield 28, 3) := by decide +kernel
theorem dX2_init_36 : decode cX2_init 36 = .ok (.aload_n 0, 1) := by decide +kernel
theorem dX2_init_37 : decode cX2_init 37 = .ok (.iconst 0, 1) := by decide +kernel
theorem dX2_init_38 : decode cX2_init 38 = .ok (.putfield 31, 3) := by decide +kernel
theorem dX2_init_41 : decode cX2_init 41 = .ok (.iconst 0, 1) := by decide +kernel
theorem dX2_init_42 : decode cX2_init 42 = .ok (.istore_n 1, 1) := by decide +kernel
theorem dX2_init_43 : decode cX2_init 43 = .ok (.iload_n 1, 1) := by decide +kernel
theorem dX2_init_44 : decode cX2_init 44 = .ok (.iconst 4, 1) := by decide +kernel
theorem dX2_init_45 : decode cX2_init 45 = .ok (.if_icmp .ge 22, 3) := by decide +kernel
theorem dX2_init_48 : decode cX2_init 48 = .ok (.aload_n 0, 1) := by decide +kernel
theorem dX2_init_49 : decode cX2_init 49 = .ok (.getfield 17, 3) := by decide +kernel
theorem dX2_init_52 : decode cX2_init 52 = .ok (.iload_n 1, 1) := by decide +kernel
theorem dX2_init_53 : decode cX2_init 53 = .ok (.new 15, 3) := by decide +kernel
theorem dX2_init_56 : decode cX2_init 56 = .ok (.dup, 1) := by decide +kernel
theorem dX2_init_57 : decode cX2_init 57 = .ok (.invokespecial 34, 3) := by decide +kernel
theorem dX2_init_60 : decode cX2_init 60 = .ok (.aastore, 1) := by decide +kernel
theorem dX2_init_61 : decode cX2_init 61 = .ok (.iinc 1 1, 3) := by decide +kernel
theorem dX2_init_64 : decode cX2_init 64 = .ok (.goto (-21), 3) := by decide +kernel
theorem dX2_init_67 : decode cX2_init 67 = .ok (.return_, 1) := by decide +kernel
theorem dX2_isTold_0 : decode cX2_isTold 0 = .ok (.aload_n 0, 1) := by decide +kernel
theorem dX2_isTold_1 : decode cX2_isTold 1 = .ok (.getfield 31, 3) := by decide +kernel
theorem dX2_isTold_4 : decode cX2_isTold 4 = .ok (.ifCond .le 7, 3) := by decide +kernel
theorem dX2_isTold_7 : decode cX2_isTold 7 = .ok (.iconst 1, 1) := by decide +kernel
theorem dX2_isTold_8 : decode cX2_isTold 8 = .ok (.goto 4, 3) := by decide +kernel
theorem dX2_isTold_11 : decode cX2_isTold 11 = .ok (.iconst 0, 1) := by decide +kernel
theorem dX2_isTold_12 : decode cX2_isTold 12 = .ok (.ireturn, 1) := by decide +kernel
theorem dX2_hasRider_0 : decode cX2_hasRider 0 = .ok (.iload_n 1, 1) := by decide +kernel
theorem dX2_hasRider_1 : decode cX2_hasRider 1 = .ok (.ifCond .lt 15, 3) := by decide +kernel
theorem dX2_hasRider_4 : decode cX2_hasRider 4 = .ok (.iload_n 1, 1) := by decide +kernel
theorem dX2_hasRider_5 : decode cX2_hasRider 5 = .ok (.aload_n 0, 1) := by decide +kernel
theorem dX2_hasRider_6 : decode cX2_hasRider 6 = .ok (.getfield 31, 3) := by decide +kernel
theorem dX2_hasRider_9 : decode cX2_hasRider 9 = .ok (.if_icmp .ge 7, 3) := by decide +kernel
theorem dX2_hasRider_12 : decode cX2_hasRider 12 = .ok (.iconst 1, 1) := by decide +kernel
theorem dX2_hasRider_13 : decode cX2_hasRider 13 = .ok (.goto 4, 3) := by decide +kernel
theorem dX2_hasRider_16 : decode cX2_hasRider 16 = .ok (.iconst 0, 1) := by decide +kernel
theorem dX2_hasRider_17 : decode cX2_hasRider 17 = .ok (.ireturn, 1) := by decide +kernel
theorem dX2_hasSection_0 : decode cX2_hasSection 0 = .ok (.iload_n 1, 1) := by decide +kernel
theorem dX2_hasSection_1 : decode cX2_hasSection 1 = .ok (.ifCond .lt 15, 3) := by decide +kernel
theorem dX2_hasSection_4 : decode cX2_hasSection 4 = .ok (.iload_n 1, 1) := by decide +kernel
theorem dX2_hasSection_5 : decode cX2_hasSection 5 = .ok (.aload_n 0, 1) := by decide +kernel
theorem dX2_hasSection_6 : decode cX2_hasSection 6 = .ok (.getfield 28, 3) := by decide +kernel
theorem dX2_hasSection_9 : decode cX2_hasSection 9 = .ok (.if_icmp .ge 7, 3) := by decide +kernel
theorem dX2_hasSection_12 : decode cX2_hasSection 12 = .ok (.iconst 1, 1) := by decide +kernel
theorem dX2_hasSection_13 : decode cX2_hasSection 13 = .ok (.goto 4, 3) := by decide +kernel
theorem dX2_hasSection_16 : decode cX2_hasSection 16 = .ok (.iconst 0, 1) := by decide +kernel
theorem dX2_hasSection_17 : decode cX2_hasSection 17 = .ok (.ireturn, 1) := by decide +kernel
theorem dX2_board_0 : decode cX2_board 0 = .ok (.aload_n 0, 1) := by decide +kernel
theorem dX2_board_1 : decode cX2_board 1 = .ok (.aload_n 1, 1) := by decide +kernel
theorem dX2_board_2 : decode cX2_board 2 = .ok (.iload_n 2, 1) := by decide +kernel
theorem dX2_board_3 : decode cX2_board 3 = .ok (.iconst 1, 1) := by decide +kernel
theorem dX2_board_4 : decode cX2_board 4 = .ok (.iadd, 1) := by decide +kernel
theorem dX2_board_5 : decode cX2_board 5 = .ok (.invokevirtual 35, 3) := by decide +kernel
theorem dX2_board_8 : decode cX2_board 8 = .ok (.invokestatic 41, 3) := by decide +kernel
theorem dX2_board_11 : decode cX2_board 11 = .ok (.putfield 24, 3) := by decide +kernel
theorem dX2_board_14 : decode cX2_board 14 = .ok (.aload_n 0, 1) := by decide +kernel
theorem dX2_board_15 : decode cX2_board 15 = .ok (.aload_n 1, 1) := by decide +kernel
theorem dX2_board_16 : decode cX2_board 16 = .ok (.iload_n 2, 1) := by decide +kernel
theorem dX2_board_17 : decode cX2_board 17 = .ok (.iload_n 3, 1) := by decide +kernel
theorem dX2_board_18 : decode cX2_board 18 = .ok (.invokestatic 46, 3) := by decide +kernel
theorem dX2_board_21 : decode cX2_board 21 = .ok (.putfield 28, 3) := by decide +kernel
theorem dX2_board_24 : decode cX2_board 24 = .ok (.iconst 0, 1) := by decide +kernel
theorem dX2_board_25 : decode cX2_board 25 = .ok (.istore 4, 2) := by decide +kernel
theorem dX2_board_27 : decode cX2_board 27 = .ok (.iload 4, 2) := by decide +kernel
theorem dX2_board_29 : decode cX2_board 29 = .ok (.aload_n 0, 1) := by decide +kernel
theorem dX2_board_30 : decode cX2_board 30 = .ok (.getfield 28, 3) := by decide +kernel
theorem dX2_board_33 : decode cX2_board 33 = .ok (.if_icmp .ge 29, 3) := by decide +kernel
theorem dX2_board_36 : decode cX2_board 36 = .ok (.aload_n 0, 1) := by decide +kernel
theorem dX2_board_37 : decode cX2_board 37 = .ok (.getfield 9, 3) := by decide +kernel
theorem dX2_board_40 : decode cX2_board 40 = .ok (.iload 4, 2) := by decide +kernel
theorem dX2_board_42 : decode cX2_board 42 = .ok (.aload_n 1, 1) := by decide +kernel
theorem dX2_board_43 : decode cX2_board 43 = .ok (.iload_n 2, 1) := by decide +kernel
theorem dX2_board_44 : decode cX2_board 44 = .ok (.iconst 3, 1) := by decide +kernel
theorem dX2_board_45 : decode cX2_board 45 = .ok (.iadd, 1) := by decide +kernel
theorem dX2_board_46 : decode cX2_board 46 = .ok (.iload 4, 2) := by decide +kernel
theorem dX2_board_48 : decode cX2_board 48 = .ok (.iadd, 1) := by decide +kernel
theorem dX2_board_49 : decode cX2_board 49 = .ok (.invokevirtual 35, 3) := by decide +kernel
theorem dX2_board_52 : decode cX2_board 52 = .ok (.invokestatic 41, 3) := by decide +kernel
theorem dX2_board_55 : decode cX2_board 55 = .ok (.iastore, 1) := by decide +kernel
theorem dX2_board_56 : decode cX2_board 56 = .ok (.iinc 4 1, 3) := by decide +kernel
theorem dX2_board_59 : decode cX2_board 59 = .ok (.goto (-32), 3) := by decide +kernel
theorem dX2_board_62 : decode cX2_board 62 = .ok (.iconst 3, 1) := by decide +kernel
theorem dX2_board_63 : decode cX2_board 63 = .ok (.aload_n 0, 1) := by decide +kernel
theorem dX2_board_64 : decode cX2_board 64 = .ok (.getfield 28, 3) := by decide +kernel
theorem dX2_board_67 : decode cX2_board 67 = .ok (.iadd, 1) := by decide +kernel
theorem dX2_board_68 : decode cX2_board 68 = .ok (.istore 4, 2) := by decide +kernel
theorem dX2_board_70 : decode cX2_board 70 = .ok (.aload_n 0, 1) := by decide +kernel
theorem dX2_board_71 : decode cX2_board 71 = .ok (.iconst 4, 1) := by decide +kernel
theorem dX2_board_72 : decode cX2_board 72 = .ok (.iload_n 3, 1) := by decide +kernel
theorem dX2_board_73 : decode cX2_board 73 = .ok (.iload 4, 2) := by decide +kernel
theorem dX2_board_75 : decode cX2_board 75 = .ok (.isub, 1) := by decide +kernel
theorem dX2_board_76 : decode cX2_board 76 = .ok (.bipush 8, 2) := by decide +kernel
theorem dX2_board_78 : decode cX2_board 78 = .ok (.idiv, 1) := by decide +kernel
theorem dX2_board_79 : decode cX2_board 79 = .ok (.invokestatic 50, 3) := by decide +kernel
theorem dX2_board_82 : decode cX2_board 82 = .ok (.putfield 31, 3) := by decide +kernel
theorem dX2_board_85 : decode cX2_board 85 = .ok (.iconst 0, 1) := by decide +kernel
theorem dX2_board_86 : decode cX2_board 86 = .ok (.istore 5, 2) := by decide +kernel
theorem dX2_board_88 : decode cX2_board 88 = .ok (.iload 5, 2) := by decide +kernel
theorem dX2_board_90 : decode cX2_board 90 = .ok (.aload_n 0, 1) := by decide +kernel
theorem dX2_board_91 : decode cX2_board 91 = .ok (.getfield 31, 3) := by decide +kernel
theorem dX2_board_94 : decode cX2_board 94 = .ok (.if_icmp .ge 30, 3) := by decide +kernel
theorem dX2_board_97 : decode cX2_board 97 = .ok (.aload_n 0, 1) := by decide +kernel
theorem dX2_board_98 : decode cX2_board 98 = .ok (.getfield 17, 3) := by decide +kernel
theorem dX2_board_101 : decode cX2_board 101 = .ok (.iload 5, 2) := by decide +kernel
theorem dX2_board_103 : decode cX2_board 103 = .ok (.aaload, 1) := by decide +kernel
theorem dX2_board_104 : decode cX2_board 104 = .ok (.aload_n 1, 1) := by decide +kernel
theorem dX2_board_105 : decode cX2_board 105 = .ok (.iload_n 2, 1) := by decide +kernel
theorem dX2_board_106 : decode cX2_board 106 = .ok (.iload 4, 2) := by decide +kernel
theorem dX2_board_108 : decode cX2_board 108 = .ok (.iadd, 1) := by decide +kernel
theorem dX2_board_109 : decode cX2_board 109 = .ok (.bipush 8, 2) := by decide +kernel
theorem dX2_board_111 : decode cX2_board 111 = .ok (.iload 5, 2) := by decide +kernel
theorem dX2_board_113 : decode cX2_board 113 = .ok (.imul, 1) := by decide +kernel
theorem dX2_board_114 : decode cX2_board 114 = .ok (.iadd, 1) := by decide +kernel
theorem dX2_board_115 : decode cX2_board 115 = .ok (.invokevirtual 56, 3) := by decide +kernel
theorem dX2_board_118 : decode cX2_board 118 = .ok (.iinc 5 1, 3) := by decide +kernel
theorem dX2_board_121 : decode cX2_board 121 = .ok (.goto (-33), 3) := by decide +kernel
theorem dX2_board_124 : decode cX2_board 124 = .ok (.return_, 1) := by decide +kernel
theorem dX2_yearsOff_0 : decode cX2_yearsOff 0 = .ok (.aload_n 1, 1) := by decide +kernel
theorem dX2_yearsOff_1 : decode cX2_yearsOff 1 = .ok (.getfield 60, 3) := by decide +kernel
theorem dX2_yearsOff_4 : decode cX2_yearsOff 4 = .ok (.istore_n 3, 1) := by decide +kernel
theorem dX2_yearsOff_5 : decode cX2_yearsOff 5 = .ok (.iconst 0, 1) := by decide +kernel
theorem dX2_yearsOff_6 : decode cX2_yearsOff 6 = .ok (.istore 4, 2) := by decide +kernel
theorem dX2_yearsOff_8 : decode cX2_yearsOff 8 = .ok (.iload 4, 2) := by decide +kernel
theorem dX2_yearsOff_10 : decode cX2_yearsOff 10 = .ok (.aload_n 0, 1) := by decide +kernel
theorem dX2_yearsOff_11 : decode cX2_yearsOff 11 = .ok (.getfield 28, 3) := by decide +kernel
theorem dX2_yearsOff_14 : decode cX2_yearsOff 14 = .ok (.if_icmp .ge 33, 3) := by decide +kernel
theorem dX2_yearsOff_17 : decode cX2_yearsOff 17 = .ok (.iload_n 2, 1) := by decide +kernel
theorem dX2_yearsOff_18 : decode cX2_yearsOff 18 = .ok (.iload 4, 2) := by decide +kernel
theorem dX2_yearsOff_20 : decode cX2_yearsOff 20 = .ok (.ishr, 1) := by decide +kernel
theorem dX2_yearsOff_21 : decode cX2_yearsOff 21 = .ok (.iconst 1, 1) := by decide +kernel
theorem dX2_yearsOff_22 : decode cX2_yearsOff 22 = .ok (.iand, 1) := by decide +kernel
theorem dX2_yearsOff_23 : decode cX2_yearsOff 23 = .ok (.iconst 1, 1) := by decide +kernel
theorem dX2_yearsOff_24 : decode cX2_yearsOff 24 = .ok (.if_icmp .ne 17, 3) := by decide +kernel
theorem dX2_yearsOff_27 : decode cX2_yearsOff 27 = .ok (.iload_n 3, 1) := by decide +kernel
theorem dX2_yearsOff_28 : decode cX2_yearsOff 28 = .ok (.aload_n 1, 1) := by decide +kernel
theorem dX2_yearsOff_29 : decode cX2_yearsOff 29 = .ok (.aload_n 0, 1) := by decide +kernel
theorem dX2_yearsOff_30 : decode cX2_yearsOff 30 = .ok (.getfield 9, 3) := by decide +kernel
theorem dX2_yearsOff_33 : decode cX2_yearsOff 33 = .ok (.iload 4, 2) := by decide +kernel
theorem dX2_yearsOff_35 : decode cX2_yearsOff 35 = .ok (.iaload, 1) := by decide +kernel
theorem dX2_yearsOff_36 : decode cX2_yearsOff 36 = .ok (.invokevirtual 63, 3) := by decide +kernel
theorem dX2_yearsOff_39 : decode cX2_yearsOff 39 = .ok (.iadd, 1) := by decide +kernel
theorem dX2_yearsOff_40 : decode cX2_yearsOff 40 = .ok (.istore_n 3, 1) := by decide +kernel
theorem dX2_yearsOff_41 : decode cX2_yearsOff 41 = .ok (.iinc 4 1, 3) := by decide +kernel
theorem dX2_yearsOff_44 : decode cX2_yearsOff 44 = .ok (.goto (-36), 3) := by decide +kernel
theorem dX2_yearsOff_47 : decode cX2_yearsOff 47 = .ok (.iload_n 3, 1) := by decide +kernel
theorem dX2_yearsOff_48 : decode cX2_yearsOff 48 = .ok (.ireturn, 1) := by decide +kernel
theorem dX2_isRight_0 : decode cX2_isRight 0 = .ok (.aload_n 0, 1) := by decide +kernel
theorem dX2_isRight_1 : decode cX2_isRight 1 = .ok (.aload_n 1, 1) := by decide +kernel
theorem dX2_isRight_2 : decode cX2_isRight 2 = .ok (.iload_n 2, 1) := by decide +kernel
theorem dX2_isRight_3 : decode cX2_isRight 3 = .ok (.invokevirtual 66, 3) := by decide +kernel
theorem dX2_isRight_6 : decode cX2_isRight 6 = .ok (.aload_n 1, 1) := by decide +kernel
theorem dX2_isRight_7 : decode cX2_isRight 7 = .ok (.getfield 70, 3) := by decide +kernel
theorem dX2_isRight_10 : decode cX2_isRight 10 = .ok (.if_icmp .ne 7, 3) := by decide +kernel
theorem dX2_isRight_13 : decode cX2_isRight 13 = .ok (.iconst 1, 1) := by decide +kernel
theorem dX2_isRight_14 : decode cX2_isRight 14 = .ok (.goto 4, 3) := by decide +kernel
theorem dX2_isRight_17 : decode cX2_isRight 17 = .ok (.iconst 0, 1) := by decide +kernel
theorem dX2_isRight_18 : decode cX2_isRight 18 = .ok (.ireturn, 1) := by decide +kernel
theorem dX2_canSitAlone_0 : decode cX2_canSitAlone 0 = .ok (.aload_n 1, 1) := by decide +kernel
theorem dX2_canSitAlone_1 : decode cX2_canSitAlone 1 = .ok (.iload_n 2, 1) := by decide +kernel
theorem dX2_canSitAlone_2 : decode cX2_canSitAlone 2 = .ok (.invokevirtual 73, 3) := by decide +kernel
theorem dX2_canSitAlone_5 : decode cX2_canSitAlone 5 = .ok (.ifCond .eq 18, 3) := by decide +kernel
theorem dX2_canSitAlone_8 : decode cX2_canSitAlone 8 = .ok (.iload_n 2, 1) := by decide +kernel
theorem dX2_canSitAlone_9 : decode cX2_canSitAlone 9 = .ok (.ifCond .eq 10, 3) := by decide +kernel
theorem dX2_canSitAlone_12 : decode cX2_canSitAlone 12 = .ok (.aload_n 0, 1) := by decide +kernel
theorem dX2_canSitAlone_13 : decode cX2_canSitAlone 13 = .ok (.getfield 24, 3) := by decide +kernel
theorem dX2_canSitAlone_16 : decode cX2_canSitAlone 16 = .ok (.ifCond .le 7, 3) := by decide +kernel
theorem dX2_canSitAlone_19 : decode cX2_canSitAlone 19 = .ok (.iconst 1, 1) := by decide +kernel
theorem dX2_canSitAlone_20 : decode cX2_canSitAlone 20 = .ok (.goto 4, 3) := by decide +kernel
theorem dX2_canSitAlone_23 : decode cX2_canSitAlone 23 = .ok (.iconst 0, 1) := by decide +kernel
theorem dX2_canSitAlone_24 : decode cX2_canSitAlone 24 = .ok (.ireturn, 1) := by decide +kernel
theorem dX2_firstOver_0 : decode cX2_firstOver 0 = .ok (.iconst 0, 1) := by decide +kernel
theorem dX2_firstOver_1 : decode cX2_firstOver 1 = .ok (.istore_n 2, 1) := by decide +kernel
theorem dX2_firstOver_2 : decode cX2_firstOver 2 = .ok (.iload_n 2, 1) := by decide +kernel
theorem dX2_firstOver_3 : decode cX2_firstOver 3 = .ok (.aload_n 0, 1) := by decide +kernel
theorem dX2_firstOver_4 : decode cX2_firstOver 4 = .ok (.getfield 28, 3) := by decide +kernel
theorem dX2_firstOver_7 : decode cX2_firstOver 7 = .ok (.if_icmp .ge 23, 3) := by decide +kernel
theorem dX2_firstOver_10 : decode cX2_firstOver 10 = .ok (.iload_n 1, 1) := by decide +kernel
theorem dX2_firstOver_11 : decode cX2_firstOver 11 = .ok (.iload_n 2, 1) := by decide +kernel
theorem dX2_firstOver_12 : decode cX2_firstOver 12 = .ok (.invokestatic 77, 3) := by decide +kernel
theorem dX2_firstOver_15 : decode cX2_firstOver 15 = .ok (.aload_n 0, 1) := by decide +kernel
theorem dX2_firstOver_16 : decode cX2_firstOver 16 = .ok (.getfield 24, 3) := by decide +kernel
theorem dX2_firstOver_19 : decode cX2_firstOver 19 = .ok (.if_icmp .le 5, 3) := by decide +kernel
theorem dX2_firstOver_22 : decode cX2_firstOver 22 = .ok (.iload_n 2, 1) := by decide +kernel
theorem dX2_firstOver_23 : decode cX2_firstOver 23 = .ok (.ireturn, 1) := by decide +kernel
theorem dX2_firstOver_24 : decode cX2_firstOver 24 = .ok (.iinc 2 1, 3) := by decide +kernel
theorem dX2_firstOver_27 : decode cX2_firstOver 27 = .ok (.goto (-25), 3) := by decide +kernel
theorem dX2_firstOver_30 : decode cX2_firstOver 30 = .ok (.bipush (-9), 2) := by decide +kernel
theorem dX2_firstOver_32 : decode cX2_firstOver 32 = .ok (.ireturn, 1) := by decide +kernel
theorem dX2_agreeing_0 : decode cX2_agreeing 0 = .ok (.bipush (-9), 2) := by decide +kernel
theorem dX2_agreeing_2 : decode cX2_agreeing 2 = .ok (.istore_n 3, 1) := by decide +kernel
theorem dX2_agreeing_3 : decode cX2_agreeing 3 = .ok (.bipush 11, 2) := by decide +kernel
theorem dX2_agreeing_5 : decode cX2_agreeing 5 = .ok (.istore 4, 2) := by decide +kernel
theorem dX2_agreeing_7 : decode cX2_agreeing 7 = .ok (.iconst 0, 1) := by decide +kernel
theorem dX2_agreeing_8 : decode cX2_agreeing 8 = .ok (.istore 5, 2) := by decide +kernel
theorem dX2_agreeing_10 : decode cX2_agreeing 10 = .ok (.iload 5, 2) := by decide +kernel
theorem dX2_agreeing_12 : decode cX2_agreeing 12 = .ok (.aload_n 1, 1) := by decide +kernel
theorem dX2_agreeing_13 : decode cX2_agreeing 13 = .ok (.invokevirtual 82, 3) := by decide +kernel
theorem dX2_agreeing_16 : decode cX2_agreeing 16 = .ok (.if_icmp .gt 90, 3) := by decide +kernel
theorem dX2_agreeing_19 : decode cX2_agreeing 19 = .ok (.iconst 0, 1) := by decide +kernel
theorem dX2_agreeing_20 : decode cX2_agreeing 20 = .ok (.istore 6, 2) := by decide +kernel
theorem dX2_agreeing_22 : decode cX2_agreeing 22 = .ok (.iload 6, 2) := by decide +kernel
theorem dX2_agreeing_24 : decode cX2_agreeing 24 = .ok (.aload_n 2, 1) := by decide +kernel
theorem dX2_agreeing_25 : decode cX2_agreeing 25 = .ok (.invokevirtual 82, 3) := by decide +kernel
theorem dX2_agreeing_28 : decode cX2_agreeing 28 = .ok (.if_icmp .gt 72, 3) := by decide +kernel
theorem dX2_agreeing_31 : decode cX2_agreeing 31 = .ok (.iload 5, 2) := by decide +kernel
theorem dX2_agreeing_33 : decode cX2_agreeing 33 = .ok (.invokestatic 86, 3) := by decide +kernel
theorem dX2_agreeing_36 : decode cX2_agreeing 36 = .ok (.iload 6, 2) := by decide +kernel
theorem dX2_agreeing_38 : decode cX2_agreeing 38 = .ok (.invokestatic 86, 3) := by decide +kernel
theorem dX2_agreeing_41 : decode cX2_agreeing 41 = .ok (.iadd, 1) := by decide +kernel
theorem dX2_agreeing_42 : decode cX2_agreeing 42 = .ok (.istore 7, 2) := by decide +kernel
theorem dX2_agreeing_44 : decode cX2_agreeing 44 = .ok (.iload 7, 2) := by decide +kernel
theorem dX2_agreeing_46 : decode cX2_agreeing 46 = .ok (.iload 4, 2) := by decide +kernel
theorem dX2_agreeing_48 : decode cX2_agreeing 48 = .ok (.if_icmp .ge 46, 3) := by decide +kernel
theorem dX2_agreeing_51 : decode cX2_agreeing 51 = .ok (.aload_n 1, 1) := by decide +kernel
theorem dX2_agreeing_52 : decode cX2_agreeing 52 = .ok (.iload 5, 2) := by decide +kernel
theorem dX2_agreeing_54 : decode cX2_agreeing 54 = .ok (.invokevirtual 73, 3) := by decide +kernel
theorem dX2_agreeing_57 : decode cX2_agreeing 57 = .ok (.ifCond .eq 37, 3) := by decide +kernel
theorem dX2_agreeing_60 : decode cX2_agreeing 60 = .ok (.aload_n 2, 1) := by decide +kernel
theorem dX2_agreeing_61 : decode cX2_agreeing 61 = .ok (.iload 6, 2) := by decide +kernel
theorem dX2_agreeing_63 : decode cX2_agreeing 63 = .ok (.invokevirtual 73, 3) := by decide +kernel
theorem dX2_agreeing_66 : decode cX2_agreeing 66 = .ok (.ifCond .eq 28, 3) := by decide +kernel
theorem dX2_agreeing_69 : decode cX2_agreeing 69 = .ok (.aload_n 0, 1) := by decide +kernel
theorem dX2_agreeing_70 : decode cX2_agreeing 70 = .ok (.aload_n 1, 1) := by decide +kernel
theorem dX2_agreeing_71 : decode cX2_agreeing 71 = .ok (.iload 5, 2) := by decide +kernel
theorem dX2_agreeing_73 : decode cX2_agreeing 73 = .ok (.aload_n 2, 1) := by decide +kernel
theorem dX2_agreeing_74 : decode cX2_agreeing 74 = .ok (.iload 6, 2) := by decide +kernel
theorem dX2_agreeing_76 : decode cX2_agreeing 76 = .ok (.invokevirtual 91, 3) := by decide +kernel
theorem dX2_agreeing_79 : decode cX2_agreeing 79 = .ok (.ifCond .eq 15, 3) := by decide +kernel
theorem dX2_agreeing_82 : decode cX2_agreeing 82 = .ok (.iload 7, 2) := by decide +kernel
theorem dX2_agreeing_84 : decode cX2_agreeing 84 = .ok (.istore 4, 2) := by decide +kernel
theorem dX2_agreeing_86 : decode cX2_agreeing 86 = .ok (.iload 5, 2) := by decide +kernel
theorem dX2_agreeing_88 : decode cX2_agreeing 88 = .ok (.iconst 5, 1) := by decide +kernel
theorem dX2_agreeing_89 : decode cX2_agreeing 89 = .ok (.ishl, 1) := by decide +kernel
theorem dX2_agreeing_90 : decode cX2_agreeing 90 = .ok (.iload 6, 2) := by decide +kernel
theorem dX2_agreeing_92 : decode cX2_agreeing 92 = .ok (.ior, 1) := by decide +kernel
theorem dX2_agreeing_93 : decode cX2_agreeing 93 = .ok (.istore_n 3, 1) := by decide +kernel
theorem dX2_agreeing_94 : decode cX2_agreeing 94 = .ok (.iinc 6 1, 3) := by decide +kernel
theorem dX2_agreeing_97 : decode cX2_agreeing 97 = .ok (.goto (-75), 3) := by decide +kernel
theorem dX2_agreeing_100 : decode cX2_agreeing 100 = .ok (.iinc 5 1, 3) := by decide +kernel
theorem dX2_agreeing_103 : decode cX2_agreeing 103 = .ok (.goto (-93), 3) := by decide +kernel
theorem dX2_agreeing_106 : decode cX2_agreeing 106 = .ok (.iload_n 3, 1) := by decide +kernel
theorem dX2_agreeing_107 : decode cX2_agreeing 107 = .ok (.ireturn, 1) := by decide +kernel
theorem dX2_bothAgree_0 : decode cX2_bothAgree 0 = .ok (.aload_n 0, 1) := by decide +kernel
theorem dX2_bothAgree_1 : decode cX2_bothAgree 1 = .ok (.aload_n 1, 1) := by decide +kernel
theorem dX2_bothAgree_2 : decode cX2_bothAgree 2 = .ok (.iload_n 2, 1) := by decide +kernel
theorem dX2_bothAgree_3 : decode cX2_bothAgree 3 = .ok (.invokevirtual 66, 3) := by decide +kernel
theorem dX2_bothAgree_6 : decode cX2_bothAgree 6 = .ok (.aload_n 0, 1) := by decide +kernel
theorem dX2_bothAgree_7 : decode cX2_bothAgree 7 = .ok (.aload_n 3, 1) := by decide +kernel
theorem dX2_bothAgree_8 : decode cX2_bothAgree 8 = .ok (.iload 4, 2) := by decide +kernel
theorem dX2_bothAgree_10 : decode cX2_bothAgree 10 = .ok (.invokevirtual 66, 3) := by decide +kernel
theorem dX2_bothAgree_13 : decode cX2_bothAgree 13 = .ok (.if_icmp .ne 26, 3) := by decide +kernel
theorem dX2_bothAgree_16 : decode cX2_bothAgree 16 = .ok (.aload_n 0, 1) := by decide +kernel
theorem dX2_bothAgree_17 : decode cX2_bothAgree 17 = .ok (.iload_n 2, 1) := by decide +kernel
theorem dX2_bothAgree_18 : decode cX2_bothAgree 18 = .ok (.invokestatic 95, 3) := by decide +kernel
theorem dX2_bothAgree_21 : decode cX2_bothAgree 21 = .ok (.iload 4, 2) := by decide +kernel
theorem dX2_bothAgree_23 : decode cX2_bothAgree 23 = .ok (.invokestatic 95, 3) := by decide +kernel
theorem dX2_bothAgree_26 : decode cX2_bothAgree 26 = .ok (.iadd, 1) := by decide +kernel
theorem dX2_bothAgree_27 : decode cX2_bothAgree 27 = .ok (.invokevirtual 98, 3) := by decide +kernel
theorem dX2_bothAgree_30 : decode cX2_bothAgree 30 = .ok (.bipush (-9), 2) := by decide +kernel
theorem dX2_bothAgree_32 : decode cX2_bothAgree 32 = .ok (.if_icmp .ne 7, 3) := by decide +kernel
theorem dX2_bothAgree_35 : decode cX2_bothAgree 35 = .ok (.iconst 1, 1) := by decide +kernel
theorem dX2_bothAgree_36 : decode cX2_bothAgree 36 = .ok (.goto 4, 3) := by decide +kernel
theorem dX2_bothAgree_39 : decode cX2_bothAgree 39 = .ok (.iconst 0, 1) := by decide +kernel
theorem dX2_bothAgree_40 : decode cX2_bothAgree 40 = .ok (.ireturn, 1) := by decide +kernel
theorem dX2_firstOf_0 : decode cX2_firstOf 0 = .ok (.iload_n 0, 1) := by decide +kernel
theorem dX2_firstOf_1 : decode cX2_firstOf 1 = .ok (.iconst 5, 1) := by decide +kernel
theorem dX2_firstOf_2 : decode cX2_firstOf 2 = .ok (.ishr, 1) := by decide +kernel
theorem dX2_firstOf_3 : decode cX2_firstOf 3 = .ok (.ireturn, 1) := by decide +kernel
theorem dX2_otherOf_0 : decode cX2_otherOf 0 = .ok (.iload_n 0, 1) := by decide +kernel
theorem dX2_otherOf_1 : decode cX2_otherOf 1 = .ok (.bipush 31, 2) := by decide +kernel
theorem dX2_otherOf_3 : decode cX2_otherOf 3 = .ok (.iand, 1) := by decide +kernel
theorem dX2_otherOf_4 : decode cX2_otherOf 4 = .ok (.ireturn, 1) := by decide +kernel
theorem dX2_mostRight_0 : decode cX2_mostRight 0 = .ok (.iconst 0, 1) := by decide +kernel
theorem dX2_mostRight_1 : decode cX2_mostRight 1 = .ok (.istore_n 1, 1) := by decide +kernel
theorem dX2_mostRight_2 : decode cX2_mostRight 2 = .ok (.iload_n 1, 1) := by decide +kernel
theorem dX2_mostRight_3 : decode cX2_mostRight 3 = .ok (.aload_n 0, 1) := by decide +kernel
theorem dX2_mostRight_4 : decode cX2_mostRight 4 = .ok (.getfield 31, 3) := by decide +kernel
theorem dX2_mostRight_7 : decode cX2_mostRight 7 = .ok (.if_icmp .ge 25, 3) := by decide +kernel
theorem dX2_mostRight_10 : decode cX2_mostRight 10 = .ok (.aload_n 0, 1) := by decide +kernel
theorem dX2_mostRight_11 : decode cX2_mostRight 11 = .ok (.getfield 21, 3) := by decide +kernel
theorem dX2_mostRight_14 : decode cX2_mostRight 14 = .ok (.iload_n 1, 1) := by decide +kernel
theorem dX2_mostRight_15 : decode cX2_mostRight 15 = .ok (.aload_n 0, 1) := by decide +kernel
theorem dX2_mostRight_16 : decode cX2_mostRight 16 = .ok (.aload_n 0, 1) := by decide +kernel
theorem dX2_mostRight_17 : decode cX2_mostRight 17 = .ok (.getfield 17, 3) := by decide +kernel
theorem dX2_mostRight_20 : decode cX2_mostRight 20 = .ok (.iload_n 1, 1) := by decide +kernel
theorem dX2_mostRight_21 : decode cX2_mostRight 21 = .ok (.aaload, 1) := by decide +kernel
theorem dX2_mostRight_22 : decode cX2_mostRight 22 = .ok (.invokevirtual 101, 3) := by decide +kernel
theorem dX2_mostRight_25 : decode cX2_mostRight 25 = .ok (.iastore, 1) := by decide +kernel
theorem dX2_mostRight_26 : decode cX2_mostRight 26 = .ok (.iinc 1 1, 3) := by decide +kernel
theorem dX2_mostRight_29 : decode cX2_mostRight 29 = .ok (.goto (-27), 3) := by decide +kernel
theorem dX2_mostRight_32 : decode cX2_mostRight 32 = .ok (.iconst 0, 1) := by decide +kernel
theorem dX2_mostRight_33 : decode cX2_mostRight 33 = .ok (.istore_n 1, 1) := by decide +kernel
theorem dX2_mostRight_34 : decode cX2_mostRight 34 = .ok (.iconst 1, 1) := by decide +kernel
theorem dX2_mostRight_35 : decode cX2_mostRight 35 = .ok (.istore_n 2, 1) := by decide +kernel
theorem dX2_mostRight_36 : decode cX2_mostRight 36 = .ok (.iload_n 2, 1) := by decide +kernel
theorem dX2_mostRight_37 : decode cX2_mostRight 37 = .ok (.iconst 1, 1) := by decide +kernel
theorem dX2_mostRight_38 : decode cX2_mostRight 38 = .ok (.aload_n 0, 1) := by decide +kernel
theorem dX2_mostRight_39 : decode cX2_mostRight 39 = .ok (.getfield 31, 3) := by decide +kernel
theorem dX2_mostRight_42 : decode cX2_mostRight 42 = .ok (.ishl, 1) := by decide +kernel
theorem dX2_mostRight_43 : decode cX2_mostRight 43 = .ok (.if_icmp .ge 32, 3) := by decide +kernel
theorem dX2_mostRight_46 : decode cX2_mostRight 46 = .ok (.iload_n 2, 1) := by decide +kernel
theorem dX2_mostRight_47 : decode cX2_mostRight 47 = .ok (.invokestatic 86, 3) := by decide +kernel
theorem dX2_mostRight_50 : decode cX2_mostRight 50 = .ok (.iload_n 1, 1) := by decide +kernel
theorem dX2_mostRight_51 : decode cX2_mostRight 51 = .ok (.invokestatic 86, 3) := by decide +kernel
theorem dX2_mostRight_54 : decode cX2_mostRight 54 = .ok (.if_icmp .le 15, 3) := by decide +kernel
theorem dX2_mostRight_57 : decode cX2_mostRight 57 = .ok (.aload_n 0, 1) := by decide +kernel
theorem dX2_mostRight_58 : decode cX2_mostRight 58 = .ok (.iload_n 2, 1) := by decide +kernel
theorem dX2_mostRight_59 : decode cX2_mostRight 59 = .ok (.iconst 0, 1) := by decide +kernel
theorem dX2_mostRight_60 : decode cX2_mostRight 60 = .ok (.iconst 0, 1) := by decide +kernel
theorem dX2_mostRight_61 : decode cX2_mostRight 61 = .ok (.invokevirtual 105, 3) := by decide +kernel
theorem dX2_mostRight_64 : decode cX2_mostRight 64 = .ok (.ifCond .eq 5, 3) := by decide +kernel
theorem dX2_mostRight_67 : decode cX2_mostRight 67 = .ok (.iload_n 2, 1) := by decide +kernel
theorem dX2_mostRight_68 : decode cX2_mostRight 68 = .ok (.istore_n 1, 1) := by decide +kernel
theorem dX2_mostRight_69 : decode cX2_mostRight 69 = .ok (.iinc 2 1, 3) := by decide +kernel
theorem dX2_mostRight_72 : decode cX2_mostRight 72 = .ok (.goto (-36), 3) := by decide +kernel
theorem dX2_mostRight_75 : decode cX2_mostRight 75 = .ok (.iload_n 1, 1) := by decide +kernel
theorem dX2_mostRight_76 : decode cX2_mostRight 76 = .ok (.ireturn, 1) := by decide +kernel
theorem dX2_setsToBeRight_0 : decode cX2_setsToBeRight 0 = .ok (.iconst 0, 1) := by decide +kernel
theorem dX2_setsToBeRight_1 : decode cX2_setsToBeRight 1 = .ok (.istore_n 2, 1) := by decide +kernel
theorem dX2_setsToBeRight_2 : decode cX2_setsToBeRight 2 = .ok (.iconst 0, 1) := by decide +kernel
theorem dX2_setsToBeRight_3 : decode cX2_setsToBeRight 3 = .ok (.istore_n 3, 1) := by decide +kernel
theorem dX2_setsToBeRight_4 : decode cX2_setsToBeRight 4 = .ok (.iload_n 3, 1) := by decide +kernel
theorem dX2_setsToBeRight_5 : decode cX2_setsToBeRight 5 = .ok (.aload_n 1, 1) := by decide +kernel
theorem dX2_setsToBeRight_6 : decode cX2_setsToBeRight 6 = .ok (.invokevirtual 82, 3) := by decide +kernel
theorem dX2_setsToBeRight_9 : decode cX2_setsToBeRight 9 = .ok (.if_icmp .gt 32, 3) := by decide +kernel
theorem dX2_setsToBeRight_12 : decode cX2_setsToBeRight 12 = .ok (.aload_n 1, 1) := by decide +kernel
theorem dX2_setsToBeRight_13 : decode cX2_setsToBeRight 13 = .ok (.iload_n 3, 1) := by decide +kernel
theorem dX2_setsToBeRight_14 : decode cX2_setsToBeRight 14 = .ok (.invokevirtual 73, 3) := by decide +kernel
theorem dX2_setsToBeRight_17 : decode cX2_setsToBeRight 17 = .ok (.ifCond .eq 18, 3) := by decide +kernel
theorem dX2_setsToBeRight_20 : decode cX2_setsToBeRight 20 = .ok (.aload_n 0, 1) := by decide +kernel
theorem dX2_setsToBeRight_21 : decode cX2_setsToBeRight 21 = .ok (.aload_n 1, 1) := by decide +kernel
theorem dX2_setsToBeRight_22 : decode cX2_setsToBeRight 22 = .ok (.iload_n 3, 1) := by decide +kernel
theorem dX2_setsToBeRight_23 : decode cX2_setsToBeRight 23 = .ok (.invokevirtual 109, 3) := by decide +kernel
theorem dX2_setsToBeRight_26 : decode cX2_setsToBeRight 26 = .ok (.ifCond .eq 9, 3) := by decide +kernel
theorem dX2_setsToBeRight_29 : decode cX2_setsToBeRight 29 = .ok (.iload_n 2, 1) := by decide +kernel
theorem dX2_setsToBeRight_30 : decode cX2_setsToBeRight 30 = .ok (.iconst 1, 1) := by decide +kernel
theorem dX2_setsToBeRight_31 : decode cX2_setsToBeRight 31 = .ok (.iload_n 3, 1) := by decide +kernel
theorem dX2_setsToBeRight_32 : decode cX2_setsToBeRight 32 = .ok (.ishl, 1) := by decide +kernel
theorem dX2_setsToBeRight_33 : decode cX2_setsToBeRight 33 = .ok (.ior, 1) := by decide +kernel
theorem dX2_setsToBeRight_34 : decode cX2_setsToBeRight 34 = .ok (.istore_n 2, 1) := by decide +kernel
theorem dX2_setsToBeRight_35 : decode cX2_setsToBeRight 35 = .ok (.iinc 3 1, 3) := by decide +kernel
theorem dX2_setsToBeRight_38 : decode cX2_setsToBeRight 38 = .ok (.goto (-34), 3) := by decide +kernel
theorem dX2_setsToBeRight_41 : decode cX2_setsToBeRight 41 = .ok (.iload_n 2, 1) := by decide +kernel
theorem dX2_setsToBeRight_42 : decode cX2_setsToBeRight 42 = .ok (.ireturn, 1) := by decide +kernel
theorem dX2_canAllBeRight_0 : decode cX2_canAllBeRight 0 = .ok (.iload_n 2, 1) := by decide +kernel
theorem dX2_canAllBeRight_1 : decode cX2_canAllBeRight 1 = .ok (.aload_n 0, 1) := by decide +kernel
theorem dX2_canAllBeRight_2 : decode cX2_canAllBeRight 2 = .ok (.getfield 31, 3) := by decide +kernel
theorem dX2_canAllBeRight_5 : decode cX2_canAllBeRight 5 = .ok (.if_icmp .lt 5, 3) := by decide +kernel
theorem dX2_canAllBeRight_8 : decode cX2_canAllBeRight 8 = .ok (.iconst 1, 1) := by decide +kernel
theorem dX2_canAllBeRight_9 : decode cX2_canAllBeRight 9 = .ok (.ireturn, 1) := by decide +kernel
theorem dX2_canAllBeRight_10 : decode cX2_canAllBeRight 10 = .ok (.iload_n 1, 1) := by decide +kernel
theorem dX2_canAllBeRight_11 : decode cX2_canAllBeRight 11 = .ok (.iload_n 2, 1) := by decide +kernel
theorem dX2_canAllBeRight_12 : decode cX2_canAllBeRight 12 = .ok (.ishr, 1) := by decide +kernel
theorem dX2_canAllBeRight_13 : decode cX2_canAllBeRight 13 = .ok (.iconst 1, 1) := by decide +kernel
theorem dX2_canAllBeRight_14 : decode cX2_canAllBeRight 14 = .ok (.iand, 1) := by decide +kernel
theorem dX2_canAllBeRight_15 : decode cX2_canAllBeRight 15 = .ok (.ifCond .ne 13, 3) := by decide +kernel
theorem dX2_canAllBeRight_18 : decode cX2_canAllBeRight 18 = .ok (.aload_n 0, 1) := by decide +kernel
theorem dX2_canAllBeRight_19 : decode cX2_canAllBeRight 19 = .ok (.iload_n 1, 1) := by decide +kernel
theorem dX2_canAllBeRight_20 : decode cX2_canAllBeRight 20 = .ok (.iload_n 2, 1) := by decide +kernel
theorem dX2_canAllBeRight_21 : decode cX2_canAllBeRight 21 = .ok (.iconst 1, 1) := by decide +kernel
theorem dX2_canAllBeRight_22 : decode cX2_canAllBeRight 22 = .ok (.iadd, 1) := by decide +kernel
theorem dX2_canAllBeRight_23 : decode cX2_canAllBeRight 23 = .ok (.iload_n 3, 1) := by decide +kernel
theorem dX2_canAllBeRight_24 : decode cX2_canAllBeRight 24 = .ok (.invokevirtual 105, 3) := by decide +kernel
theorem dX2_canAllBeRight_27 : decode cX2_canAllBeRight 27 = .ok (.ireturn, 1) := by decide +kernel
theorem dX2_canAllBeRight_28 : decode cX2_canAllBeRight 28 = .ok (.iconst 0, 1) := by decide +kernel
theorem dX2_canAllBeRight_29 : decode cX2_canAllBeRight 29 = .ok (.istore 4, 2) := by decide +kernel
theorem dX2_canAllBeRight_31 : decode cX2_canAllBeRight 31 = .ok (.iload 4, 2) := by decide +kernel
theorem dX2_canAllBeRight_33 : decode cX2_canAllBeRight 33 = .ok (.aload_n 0, 1) := by decide +kernel
theorem dX2_canAllBeRight_34 : decode cX2_canAllBeRight 34 = .ok (.getfield 17, 3) := by decide +kernel
theorem dX2_canAllBeRight_37 : decode cX2_canAllBeRight 37 = .ok (.iload_n 2, 1) := by decide +kernel
theorem dX2_canAllBeRight_38 : decode cX2_canAllBeRight 38 = .ok (.aaload, 1) := by decide +kernel
theorem dX2_canAllBeRight_39 : decode cX2_canAllBeRight 39 = .ok (.invokevirtual 82, 3) := by decide +kernel
theorem dX2_canAllBeRight_42 : decode cX2_canAllBeRight 42 = .ok (.if_icmp .gt 59, 3) := by decide +kernel
theorem dX2_canAllBeRight_45 : decode cX2_canAllBeRight 45 = .ok (.aload_n 0, 1) := by decide +kernel
theorem dX2_canAllBeRight_46 : decode cX2_canAllBeRight 46 = .ok (.getfield 21, 3) := by decide +kernel
theorem dX2_canAllBeRight_49 : decode cX2_canAllBeRight 49 = .ok (.iload_n 2, 1) := by decide +kernel
theorem dX2_canAllBeRight_50 : decode cX2_canAllBeRight 50 = .ok (.iaload, 1) := by decide +kernel
theorem dX2_canAllBeRight_51 : decode cX2_canAllBeRight 51 = .ok (.iload 4, 2) := by decide +kernel
theorem dX2_canAllBeRight_53 : decode cX2_canAllBeRight 53 = .ok (.ishr, 1) := by decide +kernel
theorem dX2_canAllBeRight_54 : decode cX2_canAllBeRight 54 = .ok (.iconst 1, 1) := by decide +kernel
theorem dX2_canAllBeRight_55 : decode cX2_canAllBeRight 55 = .ok (.iand, 1) := by decide +kernel
theorem dX2_canAllBeRight_56 : decode cX2_canAllBeRight 56 = .ok (.iconst 1, 1) := by decide +kernel
theorem dX2_canAllBeRight_57 : decode cX2_canAllBeRight 57 = .ok (.if_icmp .ne 38, 3) := by decide +kernel
theorem dX2_canAllBeRight_60 : decode cX2_canAllBeRight 60 = .ok (.iload_n 3, 1) := by decide +kernel
theorem dX2_canAllBeRight_61 : decode cX2_canAllBeRight 61 = .ok (.iload 4, 2) := by decide +kernel
theorem dX2_canAllBeRight_63 : decode cX2_canAllBeRight 63 = .ok (.invokestatic 95, 3) := by decide +kernel
theorem dX2_canAllBeRight_66 : decode cX2_canAllBeRight 66 = .ok (.iadd, 1) := by decide +kernel
theorem dX2_canAllBeRight_67 : decode cX2_canAllBeRight 67 = .ok (.istore 5, 2) := by decide +kernel
theorem dX2_canAllBeRight_69 : decode cX2_canAllBeRight 69 = .ok (.aload_n 0, 1) := by decide +kernel
theorem dX2_canAllBeRight_70 : decode cX2_canAllBeRight 70 = .ok (.iload 5, 2) := by decide +kernel
theorem dX2_canAllBeRight_72 : decode cX2_canAllBeRight 72 = .ok (.invokevirtual 98, 3) := by decide +kernel
theorem dX2_canAllBeRight_75 : decode cX2_canAllBeRight 75 = .ok (.bipush (-9), 2) := by decide +kernel
theorem dX2_canAllBeRight_77 : decode cX2_canAllBeRight 77 = .ok (.if_icmp .ne 18, 3) := by decide +kernel
theorem dX2_canAllBeRight_80 : decode cX2_canAllBeRight 80 = .ok (.aload_n 0, 1) := by decide +kernel
theorem dX2_canAllBeRight_81 : decode cX2_canAllBeRight 81 = .ok (.iload_n 1, 1) := by decide +kernel
theorem dX2_canAllBeRight_82 : decode cX2_canAllBeRight 82 = .ok (.iload_n 2, 1) := by decide +kernel
theorem dX2_canAllBeRight_83 : decode cX2_canAllBeRight 83 = .ok (.iconst 1, 1) := by decide +kernel
theorem dX2_canAllBeRight_84 : decode cX2_canAllBeRight 84 = .ok (.iadd, 1) := by decide +kernel
theorem dX2_canAllBeRight_85 : decode cX2_canAllBeRight 85 = .ok (.iload 5, 2) := by decide +kernel
theorem dX2_canAllBeRight_87 : decode cX2_canAllBeRight 87 = .ok (.invokevirtual 105, 3) := by decide +kernel
theorem dX2_canAllBeRight_90 : decode cX2_canAllBeRight 90 = .ok (.ifCond .eq 5, 3) := by decide +kernel
theorem dX2_canAllBeRight_93 : decode cX2_canAllBeRight 93 = .ok (.iconst 1, 1) := by decide +kernel
theorem dX2_canAllBeRight_94 : decode cX2_canAllBeRight 94 = .ok (.ireturn, 1) := by decide +kernel
theorem dX2_canAllBeRight_95 : decode cX2_canAllBeRight 95 = .ok (.iinc 4 1, 3) := by decide +kernel
theorem dX2_canAllBeRight_98 : decode cX2_canAllBeRight 98 = .ok (.goto (-67), 3) := by decide +kernel
theorem dX2_canAllBeRight_101 : decode cX2_canAllBeRight 101 = .ok (.iconst 0, 1) := by decide +kernel
theorem dX2_canAllBeRight_102 : decode cX2_canAllBeRight 102 = .ok (.ireturn, 1) := by decide +kernel
theorem dX3_firstFault_0 : decode cX3_firstFault 0 = .ok (.aload_n 0, 1) := by decide +kernel
theorem dX3_firstFault_1 : decode cX3_firstFault 1 = .ok (.iload_n 1, 1) := by decide +kernel
theorem dX3_firstFault_2 : decode cX3_firstFault 2 = .ok (.iload_n 2, 1) := by decide +kernel
theorem dX3_firstFault_3 : decode cX3_firstFault 3 = .ok (.invokestatic 9, 3) := by decide +kernel
theorem dX3_firstFault_6 : decode cX3_firstFault 6 = .ok (.istore_n 3, 1) := by decide +kernel
theorem dX3_firstFault_7 : decode cX3_firstFault 7 = .ok (.iconst 0, 1) := by decide +kernel
theorem dX3_firstFault_8 : decode cX3_firstFault 8 = .ok (.istore 4, 2) := by decide +kernel
theorem dX3_firstFault_10 : decode cX3_firstFault 10 = .ok (.iload 4, 2) := by decide +kernel
theorem dX3_firstFault_12 : decode cX3_firstFault 12 = .ok (.iload_n 2, 1) := by decide +kernel
theorem dX3_firstFault_13 : decode cX3_firstFault 13 = .ok (.if_icmp .ge 23, 3) := by decide +kernel
theorem dX3_firstFault_16 : decode cX3_firstFault 16 = .ok (.aload_n 0, 1) := by decide +kernel
theorem dX3_firstFault_17 : decode cX3_firstFault 17 = .ok (.iload_n 1, 1) := by decide +kernel
theorem dX3_firstFault_18 : decode cX3_firstFault 18 = .ok (.iload 4, 2) := by decide +kernel
theorem dX3_firstFault_20 : decode cX3_firstFault 20 = .ok (.iload_n 3, 1) := by decide +kernel
theorem dX3_firstFault_21 : decode cX3_firstFault 21 = .ok (.invokestatic 15, 3) := by decide +kernel
theorem dX3_firstFault_24 : decode cX3_firstFault 24 = .ok (.ifCond .ne 6, 3) := by decide +kernel
theorem dX3_firstFault_27 : decode cX3_firstFault 27 = .ok (.iload 4, 2) := by decide +kernel
theorem dX3_firstFault_29 : decode cX3_firstFault 29 = .ok (.ireturn, 1) := by decide +kernel
theorem dX3_firstFault_30 : decode cX3_firstFault 30 = .ok (.iinc 4 1, 3) := by decide +kernel
theorem dX3_firstFault_33 : decode cX3_firstFault 33 = .ok (.goto (-23), 3) := by decide +kernel
theorem dX3_firstFault_36 : decode cX3_firstFault 36 = .ok (.iload_n 2, 1) := by decide +kernel
theorem dX3_firstFault_37 : decode cX3_firstFault 37 = .ok (.iconst 3, 1) := by decide +kernel
theorem dX3_firstFault_38 : decode cX3_firstFault 38 = .ok (.isub, 1) := by decide +kernel
theorem dX3_firstFault_39 : decode cX3_firstFault 39 = .ok (.iload_n 3, 1) := by decide +kernel
theorem dX3_firstFault_40 : decode cX3_firstFault 40 = .ok (.isub, 1) := by decide +kernel
theorem dX3_firstFault_41 : decode cX3_firstFault 41 = .ok (.istore 4, 2) := by decide +kernel
theorem dX3_firstFault_43 : decode cX3_firstFault 43 = .ok (.iload_n 3, 1) := by decide +kernel
theorem dX3_firstFault_44 : decode cX3_firstFault 44 = .ok (.ifCond .le 20, 3) := by decide +kernel
theorem dX3_firstFault_47 : decode cX3_firstFault 47 = .ok (.iload 4, 2) := by decide +kernel
theorem dX3_firstFault_49 : decode cX3_firstFault 49 = .ok (.ifCond .le 15, 3) := by decide +kernel
theorem dX3_firstFault_52 : decode cX3_firstFault 52 = .ok (.iload 4, 2) := by decide +kernel
theorem dX3_firstFault_54 : decode cX3_firstFault 54 = .ok (.bipush 8, 2) := by decide +kernel
theorem dX3_firstFault_56 : decode cX3_firstFault 56 = .ok (.irem, 1) := by decide +kernel
theorem dX3_firstFault_57 : decode cX3_firstFault 57 = .ok (.ifCond .ne 7, 3) := by decide +kernel
theorem dX3_firstFault_60 : decode cX3_firstFault 60 = .ok (.iconst 1, 1) := by decide +kernel
theorem dX3_firstFault_61 : decode cX3_firstFault 61 = .ok (.goto 4, 3) := by decide +kernel
theorem dX3_firstFault_64 : decode cX3_firstFault 64 = .ok (.iconst 0, 1) := by decide +kernel
theorem dX3_firstFault_65 : decode cX3_firstFault 65 = .ok (.istore 5, 2) := by decide +kernel
theorem dX3_firstFault_67 : decode cX3_firstFault 67 = .ok (.iload 5, 2) := by decide +kernel
theorem dX3_firstFault_69 : decode cX3_firstFault 69 = .ok (.ifCond .eq 8, 3) := by decide +kernel
theorem dX3_firstFault_72 : decode cX3_firstFault 72 = .ok (.bipush (-9), 2) := by decide +kernel
theorem dX3_firstFault_74 : decode cX3_firstFault 74 = .ok (.goto 4, 3) := by decide +kernel
theorem dX3_firstFault_77 : decode cX3_firstFault 77 = .ok (.iload_n 2, 1) := by decide +kernel
theorem dX3_firstFault_78 : decode cX3_firstFault 78 = .ok (.ireturn, 1) := by decide +kernel
theorem dX3_sectionsTold_0 : decode cX3_sectionsTold 0 = .ok (.iconst 0, 1) := by decide +kernel
theorem dX3_sectionsTold_1 : decode cX3_sectionsTold 1 = .ok (.istore_n 3, 1) := by decide +kernel
theorem dX3_sectionsTold_2 : decode cX3_sectionsTold 2 = .ok (.iload_n 3, 1) := by decide +kernel
theorem dX3_sectionsTold_3 : decode cX3_sectionsTold 3 = .ok (.iconst 5, 1) := by decide +kernel
theorem dX3_sectionsTold_4 : decode cX3_sectionsTold 4 = .ok (.if_icmp .ge 33, 3) := by decide +kernel
theorem dX3_sectionsTold_7 : decode cX3_sectionsTold 7 = .ok (.iconst 3, 1) := by decide +kernel
theorem dX3_sectionsTold_8 : decode cX3_sectionsTold 8 = .ok (.iload_n 3, 1) := by decide +kernel
theorem dX3_sectionsTold_9 : decode cX3_sectionsTold 9 = .ok (.iadd, 1) := by decide +kernel
theorem dX3_sectionsTold_10 : decode cX3_sectionsTold 10 = .ok (.iload_n 2, 1) := by decide +kernel
theorem dX3_sectionsTold_11 : decode cX3_sectionsTold 11 = .ok (.if_icmp .ge 26, 3) := by decide +kernel
theorem dX3_sectionsTold_14 : decode cX3_sectionsTold 14 = .ok (.aload_n 0, 1) := by decide +kernel
theorem dX3_sectionsTold_15 : decode cX3_sectionsTold 15 = .ok (.iload_n 1, 1) := by decide +kernel
theorem dX3_sectionsTold_16 : decode cX3_sectionsTold 16 = .ok (.iconst 3, 1) := by decide +kernel
theorem dX3_sectionsTold_17 : decode cX3_sectionsTold 17 = .ok (.iadd, 1) := by decide +kernel
theorem dX3_sectionsTold_18 : decode cX3_sectionsTold 18 = .ok (.iload_n 3, 1) := by decide +kernel
theorem dX3_sectionsTold_19 : decode cX3_sectionsTold 19 = .ok (.iadd, 1) := by decide +kernel
theorem dX3_sectionsTold_20 : decode cX3_sectionsTold 20 = .ok (.invokevirtual 19, 3) := by decide +kernel
theorem dX3_sectionsTold_23 : decode cX3_sectionsTold 23 = .ok (.iconst 0, 1) := by decide +kernel
theorem dX3_sectionsTold_24 : decode cX3_sectionsTold 24 = .ok (.iconst 3, 1) := by decide +kernel
theorem dX3_sectionsTold_25 : decode cX3_sectionsTold 25 = .ok (.invokestatic 25, 3) := by decide +kernel
theorem dX3_sectionsTold_28 : decode cX3_sectionsTold 28 = .ok (.ifCond .eq 9, 3) := by decide +kernel
theorem dX3_sectionsTold_31 : decode cX3_sectionsTold 31 = .ok (.iinc 3 1, 3) := by decide +kernel
theorem dX3_sectionsTold_34 : decode cX3_sectionsTold 34 = .ok (.goto (-32), 3) := by decide +kernel
theorem dX3_sectionsTold_37 : decode cX3_sectionsTold 37 = .ok (.iload_n 3, 1) := by decide +kernel
theorem dX3_sectionsTold_38 : decode cX3_sectionsTold 38 = .ok (.ireturn, 1) := by decide +kernel
theorem dX3_goesOn_0 : decode cX3_goesOn 0 = .ok (.aload_n 0, 1) := by decide +kernel
theorem dX3_goesOn_1 : decode cX3_goesOn 1 = .ok (.iload_n 1, 1) := by decide +kernel
theorem dX3_goesOn_2 : decode cX3_goesOn 2 = .ok (.iload_n 2, 1) := by decide +kernel
theorem dX3_goesOn_3 : decode cX3_goesOn 3 = .ok (.iadd, 1) := by decide +kernel
theorem dX3_goesOn_4 : decode cX3_goesOn 4 = .ok (.invokevirtual 19, 3) := by decide +kernel
theorem dX3_goesOn_7 : decode cX3_goesOn 7 = .ok (.istore 4, 2) := by decide +kernel
theorem dX3_goesOn_9 : decode cX3_goesOn 9 = .ok (.iload_n 2, 1) := by decide +kernel
theorem dX3_goesOn_10 : decode cX3_goesOn 10 = .ok (.tableswitch 60 0 2 #[26, 39, 47], 26) := by decide +kernel
theorem dX3_goesOn_36 : decode cX3_goesOn 36 = .ok (.iload 4, 2) := by decide +kernel
theorem dX3_goesOn_38 : decode cX3_goesOn 38 = .ok (.bipush 117, 2) := by decide +kernel
theorem dX3_goesOn_40 : decode cX3_goesOn 40 = .ok (.if_icmp .ne 7, 3) := by decide +kernel
theorem dX3_goesOn_43 : decode cX3_goesOn 43 = .ok (.iconst 1, 1) := by decide +kernel
theorem dX3_goesOn_44 : decode cX3_goesOn 44 = .ok (.goto 4, 3) := by decide +kernel
theorem dX3_goesOn_47 : decode cX3_goesOn 47 = .ok (.iconst 0, 1) := by decide +kernel
theorem dX3_goesOn_48 : decode cX3_goesOn 48 = .ok (.ireturn, 1) := by decide +kernel
theorem dX3_goesOn_49 : decode cX3_goesOn 49 = .ok (.iload 4, 2) := by decide +kernel
theorem dX3_goesOn_51 : decode cX3_goesOn 51 = .ok (.iconst 0, 1) := by decide +kernel
theorem dX3_goesOn_52 : decode cX3_goesOn 52 = .ok (.iconst 3, 1) := by decide +kernel
theorem dX3_goesOn_53 : decode cX3_goesOn 53 = .ok (.invokestatic 25, 3) := by decide +kernel
theorem dX3_goesOn_56 : decode cX3_goesOn 56 = .ok (.ireturn, 1) := by decide +kernel
theorem dX3_goesOn_57 : decode cX3_goesOn 57 = .ok (.iload 4, 2) := by decide +kernel
theorem dX3_goesOn_59 : decode cX3_goesOn 59 = .ok (.bipush 44, 2) := by decide +kernel
theorem dX3_goesOn_61 : decode cX3_goesOn 61 = .ok (.if_icmp .ne 7, 3) := by decide +kernel
theorem dX3_goesOn_64 : decode cX3_goesOn 64 = .ok (.iconst 1, 1) := by decide +kernel
theorem dX3_goesOn_65 : decode cX3_goesOn 65 = .ok (.goto 4, 3) := by decide +kernel
theorem dX3_goesOn_68 : decode cX3_goesOn 68 = .ok (.iconst 0, 1) := by decide +kernel
theorem dX3_goesOn_69 : decode cX3_goesOn 69 = .ok (.ireturn, 1) := by decide +kernel
theorem dX3_goesOn_70 : decode cX3_goesOn 70 = .ok (.iload_n 2, 1) := by decide +kernel
theorem dX3_goesOn_71 : decode cX3_goesOn 71 = .ok (.iconst 3, 1) := by decide +kernel
theorem dX3_goesOn_72 : decode cX3_goesOn 72 = .ok (.iload_n 3, 1) := by decide +kernel
theorem dX3_goesOn_73 : decode cX3_goesOn 73 = .ok (.iadd, 1) := by decide +kernel
theorem dX3_goesOn_74 : decode cX3_goesOn 74 = .ok (.if_icmp .ge 5, 3) := by decide +kernel
theorem dX3_goesOn_77 : decode cX3_goesOn 77 = .ok (.iconst 1, 1) := by decide +kernel
theorem dX3_goesOn_78 : decode cX3_goesOn 78 = .ok (.ireturn, 1) := by decide +kernel
theorem dX3_goesOn_79 : decode cX3_goesOn 79 = .ok (.iload_n 2, 1) := by decide +kernel
theorem dX3_goesOn_80 : decode cX3_goesOn 80 = .ok (.iconst 3, 1) := by decide +kernel
theorem dX3_goesOn_81 : decode cX3_goesOn 81 = .ok (.isub, 1) := by decide +kernel
theorem dX3_goesOn_82 : decode cX3_goesOn 82 = .ok (.iload_n 3, 1) := by decide +kernel
theorem dX3_goesOn_83 : decode cX3_goesOn 83 = .ok (.isub, 1) := by decide +kernel
theorem dX3_goesOn_84 : decode cX3_goesOn 84 = .ok (.istore 5, 2) := by decide +kernel
theorem dX3_goesOn_86 : decode cX3_goesOn 86 = .ok (.iload_n 3, 1) := by decide +kernel
theorem dX3_goesOn_87 : decode cX3_goesOn 87 = .ok (.ifCond .eq 10, 3) := by decide +kernel
theorem dX3_goesOn_90 : decode cX3_goesOn 90 = .ok (.iload 5, 2) := by decide +kernel
theorem dX3_goesOn_92 : decode cX3_goesOn 92 = .ok (.bipush 32, 2) := by decide +kernel
theorem dX3_goesOn_94 : decode cX3_goesOn 94 = .ok (.if_icmp .lt 5, 3) := by decide +kernel
theorem dX3_goesOn_97 : decode cX3_goesOn 97 = .ok (.iconst 0, 1) := by decide +kernel
theorem dX3_goesOn_98 : decode cX3_goesOn 98 = .ok (.ireturn, 1) := by decide +kernel
theorem dX3_goesOn_99 : decode cX3_goesOn 99 = .ok (.aload_n 0, 1) := by decide +kernel
theorem dX3_goesOn_100 : decode cX3_goesOn 100 = .ok (.iload_n 1, 1) := by decide +kernel
theorem dX3_goesOn_101 : decode cX3_goesOn 101 = .ok (.iload_n 2, 1) := by decide +kernel
theorem dX3_goesOn_102 : decode cX3_goesOn 102 = .ok (.iadd, 1) := by decide +kernel
theorem dX3_goesOn_103 : decode cX3_goesOn 103 = .ok (.iload 5, 2) := by decide +kernel
theorem dX3_goesOn_105 : decode cX3_goesOn 105 = .ok (.bipush 8, 2) := by decide +kernel
theorem dX3_goesOn_107 : decode cX3_goesOn 107 = .ok (.irem, 1) := by decide +kernel
theorem dX3_goesOn_108 : decode cX3_goesOn 108 = .ok (.iload_n 3, 1) := by decide +kernel
theorem dX3_goesOn_109 : decode cX3_goesOn 109 = .ok (.invokestatic 29, 3) := by decide +kernel
theorem dX3_goesOn_112 : decode cX3_goesOn 112 = .ok (.ireturn, 1) := by decide +kernel
theorem dX3_riderGoesOn_0 : decode cX3_riderGoesOn 0 = .ok (.aload_n 0, 1) := by decide +kernel
theorem dX3_riderGoesOn_1 : decode cX3_riderGoesOn 1 = .ok (.iload_n 1, 1) := by decide +kernel
theorem dX3_riderGoesOn_2 : decode cX3_riderGoesOn 2 = .ok (.invokevirtual 19, 3) := by decide +kernel
theorem dX3_riderGoesOn_5 : decode cX3_riderGoesOn 5 = .ok (.istore 4, 2) := by decide +kernel
theorem dX3_riderGoesOn_7 : decode cX3_riderGoesOn 7 = .ok (.iload_n 2, 1) := by decide +kernel
theorem dX3_riderGoesOn_8 : decode cX3_riderGoesOn 8 = .ok (.tableswitch 103 0 4 #[36, 49, 65, 75, 94], 36) := by decide +kernel
theorem dX3_riderGoesOn_44 : decode cX3_riderGoesOn 44 = .ok (.iload 4, 2) := by decide +kernel
theorem dX3_riderGoesOn_46 : decode cX3_riderGoesOn 46 = .ok (.bipush 59, 2) := by decide +kernel
theorem dX3_riderGoesOn_48 : decode cX3_riderGoesOn 48 = .ok (.if_icmp .ne 7, 3) := by decide +kernel
theorem dX3_riderGoesOn_51 : decode cX3_riderGoesOn 51 = .ok (.iconst 1, 1) := by decide +kernel
theorem dX3_riderGoesOn_52 : decode cX3_riderGoesOn 52 = .ok (.goto 4, 3) := by decide +kernel
theorem dX3_riderGoesOn_55 : decode cX3_riderGoesOn 55 = .ok (.iconst 0, 1) := by decide +kernel
theorem dX3_riderGoesOn_56 : decode cX3_riderGoesOn 56 = .ok (.ireturn, 1) := by decide +kernel
theorem dX3_riderGoesOn_57 : decode cX3_riderGoesOn 57 = .ok (.iload 4, 2) := by decide +kernel
theorem dX3_riderGoesOn_59 : decode cX3_riderGoesOn 59 = .ok (.invokestatic 32, 3) := by decide +kernel
theorem dX3_riderGoesOn_62 : decode cX3_riderGoesOn 62 = .ok (.bipush (-9), 2) := by decide +kernel
theorem dX3_riderGoesOn_64 : decode cX3_riderGoesOn 64 = .ok (.if_icmp .eq 7, 3) := by decide +kernel
theorem dX3_riderGoesOn_67 : decode cX3_riderGoesOn 67 = .ok (.iconst 1, 1) := by decide +kernel
theorem dX3_riderGoesOn_68 : decode cX3_riderGoesOn 68 = .ok (.goto 4, 3) := by decide +kernel
theorem dX3_riderGoesOn_71 : decode cX3_riderGoesOn 71 = .ok (.iconst 0, 1) := by decide +kernel
theorem dX3_riderGoesOn_72 : decode cX3_riderGoesOn 72 = .ok (.ireturn, 1) := by decide +kernel
theorem dX3_riderGoesOn_73 : decode cX3_riderGoesOn 73 = .ok (.iload 4, 2) := by decide +kernel
theorem dX3_riderGoesOn_75 : decode cX3_riderGoesOn 75 = .ok (.iconst 0, 1) := by decide +kernel
theorem dX3_riderGoesOn_76 : decode cX3_riderGoesOn 76 = .ok (.iload_n 3, 1) := by decide +kernel
theorem dX3_riderGoesOn_77 : decode cX3_riderGoesOn 77 = .ok (.iconst 1, 1) := by decide +kernel
theorem dX3_riderGoesOn_78 : decode cX3_riderGoesOn 78 = .ok (.isub, 1) := by decide +kernel
theorem dX3_riderGoesOn_79 : decode cX3_riderGoesOn 79 = .ok (.invokestatic 25, 3) := by decide +kernel
theorem dX3_riderGoesOn_82 : decode cX3_riderGoesOn 82 = .ok (.ireturn, 1) := by decide +kernel
theorem dX3_riderGoesOn_83 : decode cX3_riderGoesOn 83 = .ok (.iload 4, 2) := by decide +kernel
theorem dX3_riderGoesOn_85 : decode cX3_riderGoesOn 85 = .ok (.aload_n 0, 1) := by decide +kernel
theorem dX3_riderGoesOn_86 : decode cX3_riderGoesOn 86 = .ok (.iload_n 1, 1) := by decide +kernel
theorem dX3_riderGoesOn_87 : decode cX3_riderGoesOn 87 = .ok (.iconst 1, 1) := by decide +kernel
theorem dX3_riderGoesOn_88 : decode cX3_riderGoesOn 88 = .ok (.isub, 1) := by decide +kernel
theorem dX3_riderGoesOn_89 : decode cX3_riderGoesOn 89 = .ok (.invokevirtual 19, 3) := by decide +kernel
theorem dX3_riderGoesOn_92 : decode cX3_riderGoesOn 92 = .ok (.invokestatic 35, 3) := by decide +kernel
theorem dX3_riderGoesOn_95 : decode cX3_riderGoesOn 95 = .ok (.iconst 1, 1) := by decide +kernel
theorem dX3_riderGoesOn_96 : decode cX3_riderGoesOn 96 = .ok (.iadd, 1) := by decide +kernel
theorem dX3_riderGoesOn_97 : decode cX3_riderGoesOn 97 = .ok (.iload_n 3, 1) := by decide +kernel
theorem dX3_riderGoesOn_98 : decode cX3_riderGoesOn 98 = .ok (.invokestatic 25, 3) := by decide +kernel
theorem dX3_riderGoesOn_101 : decode cX3_riderGoesOn 101 = .ok (.ireturn, 1) := by decide +kernel
theorem dX3_riderGoesOn_102 : decode cX3_riderGoesOn 102 = .ok (.iload 4, 2) := by decide +kernel
theorem dX3_riderGoesOn_104 : decode cX3_riderGoesOn 104 = .ok (.iconst 0, 1) := by decide +kernel
theorem dX3_riderGoesOn_105 : decode cX3_riderGoesOn 105 = .ok (.bipush 7, 2) := by decide +kernel
theorem dX3_riderGoesOn_107 : decode cX3_riderGoesOn 107 = .ok (.invokestatic 25, 3) := by decide +kernel
theorem dX3_riderGoesOn_110 : decode cX3_riderGoesOn 110 = .ok (.ireturn, 1) := by decide +kernel
theorem dX3_riderGoesOn_111 : decode cX3_riderGoesOn 111 = .ok (.iload 4, 2) := by decide +kernel
theorem dX3_riderGoesOn_113 : decode cX3_riderGoesOn 113 = .ok (.iconst 0, 1) := by decide +kernel
theorem dX3_riderGoesOn_114 : decode cX3_riderGoesOn 114 = .ok (.bipush 9, 2) := by decide +kernel
theorem dX3_riderGoesOn_116 : decode cX3_riderGoesOn 116 = .ok (.invokestatic 25, 3) := by decide +kernel
theorem dX3_riderGoesOn_119 : decode cX3_riderGoesOn 119 = .ok (.ireturn, 1) := by decide +kernel
theorem dX3_kindOf_0 : decode cX3_kindOf 0 = .ok (.iload_n 0, 1) := by decide +kernel
theorem dX3_kindOf_1 : decode cX3_kindOf 1 = .ok (.lookupswitch 41 #[(101, 39), (108, 37), (114, 35)], 35) := by decide +kernel
theorem dX3_kindOf_36 : decode cX3_kindOf 36 = .ok (.iconst 0, 1) := by decide +kernel
theorem dX3_kindOf_37 : decode cX3_kindOf 37 = .ok (.ireturn, 1) := by decide +kernel
theorem dX3_kindOf_38 : decode cX3_kindOf 38 = .ok (.iconst 1, 1) := by decide +kernel
theorem dX3_kindOf_39 : decode cX3_kindOf 39 = .ok (.ireturn, 1) := by decide +kernel
theorem dX3_kindOf_40 : decode cX3_kindOf 40 = .ok (.iconst 2, 1) := by decide +kernel
theorem dX3_kindOf_41 : decode cX3_kindOf 41 = .ok (.ireturn, 1) := by decide +kernel
theorem dX3_kindOf_42 : decode cX3_kindOf 42 = .ok (.bipush (-9), 2) := by decide +kernel
theorem dX3_kindOf_44 : decode cX3_kindOf 44 = .ok (.ireturn, 1) := by decide +kernel
theorem dX3_digit_0 : decode cX3_digit 0 = .ok (.iload_n 0, 1) := by decide +kernel
theorem dX3_digit_1 : decode cX3_digit 1 = .ok (.bipush 48, 2) := by decide +kernel
theorem dX3_digit_3 : decode cX3_digit 3 = .ok (.isub, 1) := by decide +kernel
theorem dX3_digit_4 : decode cX3_digit 4 = .ok (.ireturn, 1) := by decide +kernel
theorem dX3_isDigit_0 : decode cX3_isDigit 0 = .ok (.iload_n 0, 1) := by decide +kernel
theorem dX3_isDigit_1 : decode cX3_isDigit 1 = .ok (.bipush 48, 2) := by decide +kernel
theorem dX3_isDigit_3 : decode cX3_isDigit 3 = .ok (.iload_n 1, 1) := by decide +kernel
theorem dX3_isDigit_4 : decode cX3_isDigit 4 = .ok (.iadd, 1) := by decide +kernel
theorem dX3_isDigit_5 : decode cX3_isDigit 5 = .ok (.if_icmp .lt 15, 3) := by decide +kernel
theorem dX3_isDigit_8 : decode cX3_isDigit 8 = .ok (.iload_n 0, 1) := by decide +kernel
theorem dX3_isDigit_9 : decode cX3_isDigit 9 = .ok (.bipush 48, 2) := by decide +kernel
theorem dX3_isDigit_11 : decode cX3_isDigit 11 = .ok (.iload_n 2, 1) := by decide +kernel
theorem dX3_isDigit_12 : decode cX3_isDigit 12 = .ok (.iadd, 1) := by decide +kernel
theorem dX3_isDigit_13 : decode cX3_isDigit 13 = .ok (.if_icmp .gt 7, 3) := by decide +kernel
theorem dX3_isDigit_16 : decode cX3_isDigit 16 = .ok (.iconst 1, 1) := by decide +kernel
theorem dX3_isDigit_17 : decode cX3_isDigit 17 = .ok (.goto 4, 3) := by decide +kernel
theorem dX3_isDigit_20 : decode cX3_isDigit 20 = .ok (.iconst 0, 1) := by decide +kernel
theorem dX3_isDigit_21 : decode cX3_isDigit 21 = .ok (.ireturn, 1) := by decide +kernel
theorem dX4_init_0 : decode cX4_init 0 = .ok (.aload_n 0, 1) := by decide +kernel
theorem dX4_init_1 : decode cX4_init 1 = .ok (.invokespecial 3, 3) := by decide +kernel
theorem dX4_init_4 : decode cX4_init 4 = .ok (.aload_n 0, 1) := by decide +kernel
theorem dX4_init_5 : decode cX4_init 5 = .ok (.iconst 0, 1) := by decide +kernel
theorem dX4_init_6 : decode cX4_init 6 = .ok (.putfield 9, 3) := by decide +kernel
theorem dX4_init_9 : decode cX4_init 9 = .ok (.aload_n 0, 1) := by decide +kernel
theorem dX4_init_10 : decode cX4_init 10 = .ok (.iconst 0, 1) := by decide +kernel
theorem dX4_init_11 : decode cX4_init 11 = .ok (.putfield 15, 3) := by decide +kernel
theorem dX4_init_14 : decode cX4_init 14 = .ok (.aload_n 0, 1) := by decide +kernel
theorem dX4_init_15 : decode cX4_init 15 = .ok (.iconst 0, 1) := by decide +kernel
theorem dX4_init_16 : decode cX4_init 16 = .ok (.putfield 18, 3) := by decide +kernel
theorem dX4_init_19 : decode cX4_init 19 = .ok (.aload_n 0, 1) := by decide +kernel
theorem dX4_init_20 : decode cX4_init 20 = .ok (.iconst 0, 1) := by decide +kernel
theorem dX4_init_21 : decode cX4_init 21 = .ok (.putfield 21, 3) := by decide +kernel
theorem dX4_init_24 : decode cX4_init 24 = .ok (.aload_n 0, 1) := by decide +kernel
theorem dX4_init_25 : decode cX4_init 25 = .ok (.iconst 0, 1) := by decide +kernel
theorem dX4_init_26 : decode cX4_init 26 = .ok (.putfield 24, 3) := by decide +kernel
theorem dX4_init_29 : decode cX4_init 29 = .ok (.return_, 1) := by decide +kernel
theorem dX4_board_0 : decode cX4_board 0 = .ok (.aload_n 0, 1) := by decide +kernel
theorem dX4_board_1 : decode cX4_board 1 = .ok (.aload_n 1, 1) := by decide +kernel
theorem dX4_board_2 : decode cX4_board 2 = .ok (.iload_n 2, 1) := by decide +kernel
theorem dX4_board_3 : decode cX4_board 3 = .ok (.iconst 1, 1) := by decide +kernel
theorem dX4_board_4 : decode cX4_board 4 = .ok (.iadd, 1) := by decide +kernel
theorem dX4_board_5 : decode cX4_board 5 = .ok (.invokevirtual 27, 3) := by decide +kernel
theorem dX4_board_8 : decode cX4_board 8 = .ok (.invokestatic 33, 3) := by decide +kernel
theorem dX4_board_11 : decode cX4_board 11 = .ok (.putfield 9, 3) := by decide +kernel
theorem dX4_board_14 : decode cX4_board 14 = .ok (.aload_n 0, 1) := by decide +kernel
theorem dX4_board_15 : decode cX4_board 15 = .ok (.aload_n 1, 1) := by decide +kernel
theorem dX4_board_16 : decode cX4_board 16 = .ok (.iload_n 2, 1) := by decide +kernel
theorem dX4_board_17 : decode cX4_board 17 = .ok (.iconst 2, 1) := by decide +kernel
theorem dX4_board_18 : decode cX4_board 18 = .ok (.iadd, 1) := by decide +kernel
theorem dX4_board_19 : decode cX4_board 19 = .ok (.invokevirtual 27, 3) := by decide +kernel
theorem dX4_board_22 : decode cX4_board 22 = .ok (.invokestatic 38, 3) := by decide +kernel
theorem dX4_board_25 : decode cX4_board 25 = .ok (.putfield 15, 3) := by decide +kernel
theorem dX4_board_28 : decode cX4_board 28 = .ok (.aload_n 0, 1) := by decide +kernel
theorem dX4_board_29 : decode cX4_board 29 = .ok (.aload_n 1, 1) := by decide +kernel
theorem dX4_board_30 : decode cX4_board 30 = .ok (.iload_n 2, 1) := by decide +kernel
theorem dX4_board_31 : decode cX4_board 31 = .ok (.iconst 3, 1) := by decide +kernel
theorem dX4_board_32 : decode cX4_board 32 = .ok (.iadd, 1) := by decide +kernel
theorem dX4_board_33 : decode cX4_board 33 = .ok (.invokevirtual 27, 3) := by decide +kernel
theorem dX4_board_36 : decode cX4_board 36 = .ok (.invokestatic 38, 3) := by decide +kernel
theorem dX4_board_39 : decode cX4_board 39 = .ok (.putfield 18, 3) := by decide +kernel
theorem dX4_board_42 : decode cX4_board 42 = .ok (.aload_n 0, 1) := by decide +kernel
theorem dX4_board_43 : decode cX4_board 43 = .ok (.aload_n 1, 1) := by decide +kernel
theorem dX4_board_44 : decode cX4_board 44 = .ok (.iload_n 2, 1) := by decide +kernel
theorem dX4_board_45 : decode cX4_board 45 = .ok (.iconst 4, 1) := by decide +kernel
theorem dX4_board_46 : decode cX4_board 46 = .ok (.iadd, 1) := by decide +kernel
theorem dX4_board_47 : decode cX4_board 47 = .ok (.invokestatic 41, 3) := by decide +kernel
theorem dX4_board_50 : decode cX4_board 50 = .ok (.putfield 21, 3) := by decide +kernel
theorem dX4_board_53 : decode cX4_board 53 = .ok (.aload_n 0, 1) := by decide +kernel
theorem dX4_board_54 : decode cX4_board 54 = .ok (.aload_n 1, 1) := by decide +kernel
theorem dX4_board_55 : decode cX4_board 55 = .ok (.iload_n 2, 1) := by decide +kernel
theorem dX4_board_56 : decode cX4_board 56 = .ok (.bipush 6, 2) := by decide +kernel
theorem dX4_board_58 : decode cX4_board 58 = .ok (.iadd, 1) := by decide +kernel
theorem dX4_board_59 : decode cX4_board 59 = .ok (.invokestatic 41, 3) := by decide +kernel
theorem dX4_board_62 : decode cX4_board 62 = .ok (.putfield 24, 3) := by decide +kernel
theorem dX4_board_65 : decode cX4_board 65 = .ok (.return_, 1) := by decide +kernel
theorem dX4_twoDigits_0 : decode cX4_twoDigits 0 = .ok (.bipush 10, 2) := by decide +kernel
theorem dX4_twoDigits_2 : decode cX4_twoDigits 2 = .ok (.aload_n 0, 1) := by decide +kernel
theorem dX4_twoDigits_3 : decode cX4_twoDigits 3 = .ok (.iload_n 1, 1) := by decide +kernel
theorem dX4_twoDigits_4 : decode cX4_twoDigits 4 = .ok (.invokevirtual 27, 3) := by decide +kernel
theorem dX4_twoDigits_7 : decode cX4_twoDigits 7 = .ok (.invokestatic 38, 3) := by decide +kernel
theorem dX4_twoDigits_10 : decode cX4_twoDigits 10 = .ok (.imul, 1) := by decide +kernel
theorem dX4_twoDigits_11 : decode cX4_twoDigits 11 = .ok (.aload_n 0, 1) := by decide +kernel
theorem dX4_twoDigits_12 : decode cX4_twoDigits 12 = .ok (.iload_n 1, 1) := by decide +kernel
theorem dX4_twoDigits_13 : decode cX4_twoDigits 13 = .ok (.iconst 1, 1) := by decide +kernel
theorem dX4_twoDigits_14 : decode cX4_twoDigits 14 = .ok (.iadd, 1) := by decide +kernel
theorem dX4_twoDigits_15 : decode cX4_twoDigits 15 = .ok (.invokevirtual 27, 3) := by decide +kernel
theorem dX4_twoDigits_18 : decode cX4_twoDigits 18 = .ok (.invokestatic 38, 3) := by decide +kernel
theorem dX4_twoDigits_21 : decode cX4_twoDigits 21 = .ok (.iadd, 1) := by decide +kernel
theorem dX4_twoDigits_22 : decode cX4_twoDigits 22 = .ok (.ireturn, 1) := by decide +kernel
theorem dX4_own_0 : decode cX4_own 0 = .ok (.iconst 1, 1) := by decide +kernel
theorem dX4_own_1 : decode cX4_own 1 = .ok (.aload_n 0, 1) := by decide +kernel
theorem dX4_own_2 : decode cX4_own 2 = .ok (.getfield 18, 3) := by decide +kernel
theorem dX4_own_5 : decode cX4_own 5 = .ok (.ishl, 1) := by decide +kernel
theorem dX4_own_6 : decode cX4_own 6 = .ok (.iconst 1, 1) := by decide +kernel
theorem dX4_own_7 : decode cX4_own 7 = .ok (.aload_n 0, 1) := by decide +kernel
theorem dX4_own_8 : decode cX4_own 8 = .ok (.getfield 15, 3) := by decide +kernel
theorem dX4_own_11 : decode cX4_own 11 = .ok (.ishl, 1) := by decide +kernel
theorem dX4_own_12 : decode cX4_own 12 = .ok (.isub, 1) := by decide +kernel
theorem dX4_own_13 : decode cX4_own 13 = .ok (.ireturn, 1) := by decide +kernel
theorem dX4_owns_0 : decode cX4_owns 0 = .ok (.iload_n 1, 1) := by decide +kernel
theorem dX4_owns_1 : decode cX4_owns 1 = .ok (.aload_n 0, 1) := by decide +kernel
theorem dX4_owns_2 : decode cX4_owns 2 = .ok (.invokevirtual 45, 3) := by decide +kernel
theorem dX4_owns_5 : decode cX4_owns 5 = .ok (.iconst (-1), 1) := by decide +kernel
theorem dX4_owns_6 : decode cX4_owns 6 = .ok (.ixor, 1) := by decide +kernel
theorem dX4_owns_7 : decode cX4_owns 7 = .ok (.iand, 1) := by decide +kernel
theorem dX4_owns_8 : decode cX4_owns 8 = .ok (.ifCond .ne 7, 3) := by decide +kernel
theorem dX4_owns_11 : decode cX4_owns 11 = .ok (.iconst 1, 1) := by decide +kernel
theorem dX4_owns_12 : decode cX4_owns 12 = .ok (.goto 4, 3) := by decide +kernel
theorem dX4_owns_15 : decode cX4_owns 15 = .ok (.iconst 0, 1) := by decide +kernel
theorem dX4_owns_16 : decode cX4_owns 16 = .ok (.ireturn, 1) := by decide +kernel
theorem dX4_yearsAbove_0 : decode cX4_yearsAbove 0 = .ok (.aload_n 0, 1) := by decide +kernel
theorem dX4_yearsAbove_1 : decode cX4_yearsAbove 1 = .ok (.getfield 9, 3) := by decide +kernel
theorem dX4_yearsAbove_4 : decode cX4_yearsAbove 4 = .ok (.lookupswitch 34 #[(0, 28), (1, 30)], 28) := by decide +kernel
theorem dX4_yearsAbove_32 : decode cX4_yearsAbove 32 = .ok (.iload_n 1, 1) := by decide +kernel
theorem dX4_yearsAbove_33 : decode cX4_yearsAbove 33 = .ok (.ireturn, 1) := by decide +kernel
theorem dX4_yearsAbove_34 : decode cX4_yearsAbove 34 = .ok (.iload_n 1, 1) := by decide +kernel
theorem dX4_yearsAbove_35 : decode cX4_yearsAbove 35 = .ok (.iconst 1, 1) := by decide +kernel
theorem dX4_yearsAbove_36 : decode cX4_yearsAbove 36 = .ok (.iadd, 1) := by decide +kernel
theorem dX4_yearsAbove_37 : decode cX4_yearsAbove 37 = .ok (.ireturn, 1) := by decide +kernel
theorem dX4_yearsAbove_38 : decode cX4_yearsAbove 38 = .ok (.iload_n 1, 1) := by decide +kernel
theorem dX4_yearsAbove_39 : decode cX4_yearsAbove 39 = .ok (.iconst 1, 1) := by decide +kernel
theorem dX4_yearsAbove_40 : decode cX4_yearsAbove 40 = .ok (.iadd, 1) := by decide +kernel
theorem dX4_yearsAbove_41 : decode cX4_yearsAbove 41 = .ok (.iconst 2, 1) := by decide +kernel
theorem dX4_yearsAbove_42 : decode cX4_yearsAbove 42 = .ok (.idiv, 1) := by decide +kernel
theorem dX4_yearsAbove_43 : decode cX4_yearsAbove 43 = .ok (.ireturn, 1) := by decide +kernel
theorem dX5_init_0 : decode cX5_init 0 = .ok (.aload_n 0, 1) := by decide +kernel
theorem dX5_init_1 : decode cX5_init 1 = .ok (.invokespecial 3, 3) := by decide +kernel
theorem dX5_init_4 : decode cX5_init 4 = .ok (.aload_n 0, 1) := by decide +kernel
theorem dX5_init_5 : decode cX5_init 5 = .ok (.bipush 60, 2) := by decide +kernel
theorem dX5_init_7 : decode cX5_init 7 = .ok (.newarray .int, 2) := by decide +kernel
theorem dX5_init_9 : decode cX5_init 9 = .ok (.putfield 9, 3) := by decide +kernel
theorem dX5_init_12 : decode cX5_init 12 = .ok (.aload_n 0, 1) := by decide +kernel
theorem dX5_init_13 : decode cX5_init 13 = .ok (.iconst (-1), 1) := by decide +kernel
theorem dX5_init_14 : decode cX5_init 14 = .ok (.putfield 15, 3) := by decide +kernel
theorem dX5_init_17 : decode cX5_init 17 = .ok (.aload_n 0, 1) := by decide +kernel
theorem dX5_init_18 : decode cX5_init 18 = .ok (.iconst 0, 1) := by decide +kernel
theorem dX5_init_19 : decode cX5_init 19 = .ok (.putfield 19, 3) := by decide +kernel
theorem dX5_init_22 : decode cX5_init 22 = .ok (.return_, 1) := by decide +kernel
theorem dX5_hasRow_0 : decode cX5_hasRow 0 = .ok (.aload_n 0, 1) := by decide +kernel
theorem dX5_hasRow_1 : decode cX5_hasRow 1 = .ok (.getfield 15, 3) := by decide +kernel
theorem dX5_hasRow_4 : decode cX5_hasRow 4 = .ok (.iconst (-1), 1) := by decide +kernel
theorem dX5_hasRow_5 : decode cX5_hasRow 5 = .ok (.if_icmp .eq 7, 3) := by decide +kernel
theorem dX5_hasRow_8 : decode cX5_hasRow 8 = .ok (.iconst 1, 1) := by decide +kernel
theorem dX5_hasRow_9 : decode cX5_hasRow 9 = .ok (.goto 4, 3) := by decide +kernel
theorem dX5_hasRow_12 : decode cX5_hasRow 12 = .ok (.iconst 0, 1) := by decide +kernel
theorem dX5_hasRow_13 : decode cX5_hasRow 13 = .ok (.ireturn, 1) := by decide +kernel
theorem dX5_renew_0 : decode cX5_renew 0 = .ok (.aload_n 0, 1) := by decide +kernel
theorem dX5_renew_1 : decode cX5_renew 1 = .ok (.iload_n 1, 1) := by decide +kernel
theorem dX5_renew_2 : decode cX5_renew 2 = .ok (.putfield 15, 3) := by decide +kernel
theorem dX5_renew_5 : decode cX5_renew 5 = .ok (.aload_n 0, 1) := by decide +kernel
theorem dX5_renew_6 : decode cX5_renew 6 = .ok (.iload_n 2, 1) := by decide +kernel
theorem dX5_renew_7 : decode cX5_renew 7 = .ok (.putfield 19, 3) := by decide +kernel
theorem dX5_renew_10 : decode cX5_renew 10 = .ok (.iconst 0, 1) := by decide +kernel
theorem dX5_renew_11 : decode cX5_renew 11 = .ok (.istore_n 3, 1) := by decide +kernel
theorem dX5_renew_12 : decode cX5_renew 12 = .ok (.iload_n 3, 1) := by decide +kernel
theorem dX5_renew_13 : decode cX5_renew 13 = .ok (.bipush 60, 2) := by decide +kernel
theorem dX5_renew_15 : decode cX5_renew 15 = .ok (.if_icmp .ge 16, 3) := by decide +kernel
theorem dX5_renew_18 : decode cX5_renew 18 = .ok (.aload_n 0, 1) := by decide +kernel
theorem dX5_renew_19 : decode cX5_renew 19 = .ok (.getfield 9, 3) := by decide +kernel
theorem dX5_renew_22 : decode cX5_renew 22 = .ok (.iload_n 3, 1) := by decide +kernel
theorem dX5_renew_23 : decode cX5_renew 23 = .ok (.iconst 0, 1) := by decide +kernel
theorem dX5_renew_24 : decode cX5_renew 24 = .ok (.iastore, 1) := by decide +kernel
theorem dX5_renew_25 : decode cX5_renew 25 = .ok (.iinc 3 1, 3) := by decide +kernel
theorem dX5_renew_28 : decode cX5_renew 28 = .ok (.goto (-16), 3) := by decide +kernel
theorem dX5_renew_31 : decode cX5_renew 31 = .ok (.return_, 1) := by decide +kernel
theorem dX5_drop_0 : decode cX5_drop 0 = .ok (.aload_n 0, 1) := by decide +kernel
theorem dX5_drop_1 : decode cX5_drop 1 = .ok (.iconst (-1), 1) := by decide +kernel
theorem dX5_drop_2 : decode cX5_drop 2 = .ok (.putfield 15, 3) := by decide +kernel
theorem dX5_drop_5 : decode cX5_drop 5 = .ok (.aload_n 0, 1) := by decide +kernel
theorem dX5_drop_6 : decode cX5_drop 6 = .ok (.iconst 0, 1) := by decide +kernel
theorem dX5_drop_7 : decode cX5_drop 7 = .ok (.putfield 19, 3) := by decide +kernel
theorem dX5_drop_10 : decode cX5_drop 10 = .ok (.return_, 1) := by decide +kernel
theorem dX5_hasCell_0 : decode cX5_hasCell 0 = .ok (.iload_n 1, 1) := by decide +kernel
theorem dX5_hasCell_1 : decode cX5_hasCell 1 = .ok (.ifCond .lt 15, 3) := by decide +kernel
theorem dX5_hasCell_4 : decode cX5_hasCell 4 = .ok (.iload_n 1, 1) := by decide +kernel
theorem dX5_hasCell_5 : decode cX5_hasCell 5 = .ok (.aload_n 0, 1) := by decide +kernel
theorem dX5_hasCell_6 : decode cX5_hasCell 6 = .ok (.getfield 19, 3) := by decide +kernel
theorem dX5_hasCell_9 : decode cX5_hasCell 9 = .ok (.if_icmp .ge 7, 3) := by decide +kernel
theorem dX5_hasCell_12 : decode cX5_hasCell 12 = .ok (.iconst 1, 1) := by decide +kernel
theorem dX5_hasCell_13 : decode cX5_hasCell 13 = .ok (.goto 4, 3) := by decide +kernel
theorem dX5_hasCell_16 : decode cX5_hasCell 16 = .ok (.iconst 0, 1) := by decide +kernel
theorem dX5_hasCell_17 : decode cX5_hasCell 17 = .ok (.ireturn, 1) := by decide +kernel
theorem dX5_hasCells_0 : decode cX5_hasCells 0 = .ok (.iload_n 1, 1) := by decide +kernel
theorem dX5_hasCells_1 : decode cX5_hasCells 1 = .ok (.ifCond .lt 29, 3) := by decide +kernel
theorem dX5_hasCells_4 : decode cX5_hasCells 4 = .ok (.iload_n 1, 1) := by decide +kernel
theorem dX5_hasCells_5 : decode cX5_hasCells 5 = .ok (.aload_n 0, 1) := by decide +kernel
theorem dX5_hasCells_6 : decode cX5_hasCells 6 = .ok (.getfield 19, 3) := by decide +kernel
theorem dX5_hasCells_9 : decode cX5_hasCells 9 = .ok (.if_icmp .gt 21, 3) := by decide +kernel
theorem dX5_hasCells_12 : decode cX5_hasCells 12 = .ok (.iload_n 2, 1) := by decide +kernel
theorem dX5_hasCells_13 : decode cX5_hasCells 13 = .ok (.ifCond .lt 17, 3) := by decide +kernel
theorem dX5_hasCells_16 : decode cX5_hasCells 16 = .ok (.iload_n 2, 1) := by decide +kernel
theorem dX5_hasCells_17 : decode cX5_hasCells 17 = .ok (.aload_n 0, 1) := by decide +kernel
theorem dX5_hasCells_18 : decode cX5_hasCells 18 = .ok (.getfield 19, 3) := by decide +kernel
theorem dX5_hasCells_21 : decode cX5_hasCells 21 = .ok (.iload_n 1, 1) := by decide +kernel
theorem dX5_hasCells_22 : decode cX5_hasCells 22 = .ok (.isub, 1) := by decide +kernel
theorem dX5_hasCells_23 : decode cX5_hasCells 23 = .ok (.if_icmp .gt 7, 3) := by decide +kernel
theorem dX5_hasCells_26 : decode cX5_hasCells 26 = .ok (.iconst 1, 1) := by decide +kernel
theorem dX5_hasCells_27 : decode cX5_hasCells 27 = .ok (.goto 4, 3) := by decide +kernel
theorem dX5_hasCells_30 : decode cX5_hasCells 30 = .ok (.iconst 0, 1) := by decide +kernel
theorem dX5_hasCells_31 : decode cX5_hasCells 31 = .ok (.ireturn, 1) := by decide +kernel
theorem dX5_at_0 : decode cX5_at 0 = .ok (.aload_n 0, 1) := by decide +kernel
theorem dX5_at_1 : decode cX5_at 1 = .ok (.iload_n 1, 1) := by decide +kernel
theorem dX5_at_2 : decode cX5_at 2 = .ok (.invokevirtual 22, 3) := by decide +kernel
theorem dX5_at_5 : decode cX5_at 5 = .ok (.ifCond .eq 12, 3) := by decide +kernel
theorem dX5_at_8 : decode cX5_at 8 = .ok (.aload_n 0, 1) := by decide +kernel
theorem dX5_at_9 : decode cX5_at 9 = .ok (.getfield 9, 3) := by decide +kernel
theorem dX5_at_12 : decode cX5_at 12 = .ok (.iload_n 1, 1) := by decide +kernel
theorem dX5_at_13 : decode cX5_at 13 = .ok (.iaload, 1) := by decide +kernel
theorem dX5_at_14 : decode cX5_at 14 = .ok (.goto 4, 3) := by decide +kernel
theorem dX5_at_17 : decode cX5_at 17 = .ok (.iconst 0, 1) := by decide +kernel
theorem dX5_at_18 : decode cX5_at 18 = .ok (.ireturn, 1) := by decide +kernel
theorem dX5_write_0 : decode cX5_write 0 = .ok (.aload_n 0, 1) := by decide +kernel
theorem dX5_write_1 : decode cX5_write 1 = .ok (.iload_n 1, 1) := by decide +kernel
theorem dX5_write_2 : decode cX5_write 2 = .ok (.invokevirtual 22, 3) := by decide +kernel
theorem dX5_write_5 : decode cX5_write 5 = .ok (.ifCond .eq 14, 3) := by decide +kernel
theorem dX5_write_8 : decode cX5_write 8 = .ok (.aload_n 0, 1) := by decide +kernel
theorem dX5_write_9 : decode cX5_write 9 = .ok (.getfield 9, 3) := by decide +kernel
theorem dX5_write_12 : decode cX5_write 12 = .ok (.iload_n 1, 1) := by decide +kernel
theorem dX5_write_13 : decode cX5_write 13 = .ok (.aload_n 0, 1) := by decide +kernel
theorem dX5_write_14 : decode cX5_write 14 = .ok (.iload_n 2, 1) := by decide +kernel
theorem dX5_write_15 : decode cX5_write 15 = .ok (.invokevirtual 26, 3) := by decide +kernel
theorem dX5_write_18 : decode cX5_write 18 = .ok (.iastore, 1) := by decide +kernel
theorem dX5_write_19 : decode cX5_write 19 = .ok (.return_, 1) := by decide +kernel
theorem dX5_cutToLane_0 : decode cX5_cutToLane 0 = .ok (.aload_n 0, 1) := by decide +kernel
theorem dX5_cutToLane_1 : decode cX5_cutToLane 1 = .ok (.getfield 15, 3) := by decide +kernel
theorem dX5_cutToLane_4 : decode cX5_cutToLane 4 = .ok (.lookupswitch 34 #[(0, 28), (1, 31)], 28) := by decide +kernel
theorem dX5_cutToLane_32 : decode cX5_cutToLane 32 = .ok (.iload_n 1, 1) := by decide +kernel
theorem dX5_cutToLane_33 : decode cX5_cutToLane 33 = .ok (.i2b, 1) := by decide +kernel
theorem dX5_cutToLane_34 : decode cX5_cutToLane 34 = .ok (.ireturn, 1) := by decide +kernel
theorem dX5_cutToLane_35 : decode cX5_cutToLane 35 = .ok (.iload_n 1, 1) := by decide +kernel
theorem dX5_cutToLane_36 : decode cX5_cutToLane 36 = .ok (.i2s, 1) := by decide +kernel
theorem dX5_cutToLane_37 : decode cX5_cutToLane 37 = .ok (.ireturn, 1) := by decide +kernel
theorem dX5_cutToLane_38 : decode cX5_cutToLane 38 = .ok (.iload_n 1, 1) := by decide +kernel
theorem dX5_cutToLane_39 : decode cX5_cutToLane 39 = .ok (.ireturn, 1) := by decide +kernel
theorem dX5_faultOfRow_0 : decode cX5_faultOfRow 0 = .ok (.aload_n 0, 1) := by decide +kernel
theorem dX5_faultOfRow_1 : decode cX5_faultOfRow 1 = .ok (.invokevirtual 30, 3) := by decide +kernel
theorem dX5_faultOfRow_4 : decode cX5_faultOfRow 4 = .ok (.ifCond .ne 5, 3) := by decide +kernel
theorem dX5_faultOfRow_7 : decode cX5_faultOfRow 7 = .ok (.iconst 1, 1) := by decide +kernel
theorem dX5_faultOfRow_8 : decode cX5_faultOfRow 8 = .ok (.ireturn, 1) := by decide +kernel
theorem dX5_faultOfRow_9 : decode cX5_faultOfRow 9 = .ok (.aload_n 0, 1) := by decide +kernel
theorem dX5_faultOfRow_10 : decode cX5_faultOfRow 10 = .ok (.getfield 15, 3) := by decide +kernel
theorem dX5_faultOfRow_13 : decode cX5_faultOfRow 13 = .ok (.iload_n 1, 1) := by decide +kernel
theorem dX5_faultOfRow_14 : decode cX5_faultOfRow 14 = .ok (.if_icmp .ne 7, 3) := by decide +kernel
theorem dX5_faultOfRow_17 : decode cX5_faultOfRow 17 = .ok (.iconst 0, 1) := by decide +kernel
theorem dX5_faultOfRow_18 : decode cX5_faultOfRow 18 = .ok (.goto 4, 3) := by decide +kernel
theorem dX5_faultOfRow_21 : decode cX5_faultOfRow 21 = .ok (.iconst 2, 1) := by decide +kernel
theorem dX5_faultOfRow_22 : decode cX5_faultOfRow 22 = .ok (.ireturn, 1) := by decide +kernel
theorem dX5_faultOfCells_0 : decode cX5_faultOfCells 0 = .ok (.aload_n 0, 1) := by decide +kernel
theorem dX5_faultOfCells_1 : decode cX5_faultOfCells 1 = .ok (.iload_n 1, 1) := by decide +kernel
theorem dX5_faultOfCells_2 : decode cX5_faultOfCells 2 = .ok (.invokevirtual 34, 3) := by decide +kernel
theorem dX5_faultOfCells_5 : decode cX5_faultOfCells 5 = .ok (.istore 4, 2) := by decide +kernel
theorem dX5_faultOfCells_7 : decode cX5_faultOfCells 7 = .ok (.iload 4, 2) := by decide +kernel
theorem dX5_faultOfCells_9 : decode cX5_faultOfCells 9 = .ok (.ifCond .eq 6, 3) := by decide +kernel
theorem dX5_faultOfCells_12 : decode cX5_faultOfCells 12 = .ok (.iload 4, 2) := by decide +kernel
theorem dX5_faultOfCells_14 : decode cX5_faultOfCells 14 = .ok (.ireturn, 1) := by decide +kernel
theorem dX5_faultOfCells_15 : decode cX5_faultOfCells 15 = .ok (.iload_n 3, 1) := by decide +kernel
theorem dX5_faultOfCells_16 : decode cX5_faultOfCells 16 = .ok (.ifCond .ge 5, 3) := by decide +kernel
theorem dX5_faultOfCells_19 : decode cX5_faultOfCells 19 = .ok (.iconst 4, 1) := by decide +kernel
theorem dX5_faultOfCells_20 : decode cX5_faultOfCells 20 = .ok (.ireturn, 1) := by decide +kernel
theorem dX5_faultOfCells_21 : decode cX5_faultOfCells 21 = .ok (.aload_n 0, 1) := by decide +kernel
theorem dX5_faultOfCells_22 : decode cX5_faultOfCells 22 = .ok (.iload_n 2, 1) := by decide +kernel
theorem dX5_faultOfCells_23 : decode cX5_faultOfCells 23 = .ok (.iload_n 3, 1) := by decide +kernel
theorem dX5_faultOfCells_24 : decode cX5_faultOfCells 24 = .ok (.invokevirtual 37, 3) := by decide +kernel
theorem dX5_faultOfCells_27 : decode cX5_faultOfCells 27 = .ok (.ifCond .eq 7, 3) := by decide +kernel
theorem dX5_faultOfCells_30 : decode cX5_faultOfCells 30 = .ok (.iconst 0, 1) := by decide +kernel
theorem dX5_faultOfCells_31 : decode cX5_faultOfCells 31 = .ok (.goto 4, 3) := by decide +kernel
theorem dX5_faultOfCells_34 : decode cX5_faultOfCells 34 = .ok (.iconst 3, 1) := by decide +kernel
theorem dX5_faultOfCells_35 : decode cX5_faultOfCells 35 = .ok (.ireturn, 1) := by decide +kernel
theorem dJ6_bitCount_0f7a4_0 : decode cJ6_bitCount_0f7a4 0 = .ok (.iload_n 0, 1) := by decide +kernel
theorem dJ6_bitCount_0f7a4_1 : decode cJ6_bitCount_0f7a4 1 = .ok (.iload_n 0, 1) := by decide +kernel
theorem dJ6_bitCount_0f7a4_2 : decode cJ6_bitCount_0f7a4 2 = .ok (.iconst 1, 1) := by decide +kernel
theorem dJ6_bitCount_0f7a4_3 : decode cJ6_bitCount_0f7a4 3 = .ok (.iushr, 1) := by decide +kernel
theorem dJ6_bitCount_0f7a4_4 : decode cJ6_bitCount_0f7a4 4 = .ok (.ldc_w 265, 3) := by decide +kernel
theorem dJ6_bitCount_0f7a4_7 : decode cJ6_bitCount_0f7a4 7 = .ok (.iand, 1) := by decide +kernel
theorem dJ6_bitCount_0f7a4_8 : decode cJ6_bitCount_0f7a4 8 = .ok (.isub, 1) := by decide +kernel
theorem dJ6_bitCount_0f7a4_9 : decode cJ6_bitCount_0f7a4 9 = .ok (.istore_n 0, 1) := by decide +kernel
theorem dJ6_bitCount_0f7a4_10 : decode cJ6_bitCount_0f7a4 10 = .ok (.iload_n 0, 1) := by decide +kernel
theorem dJ6_bitCount_0f7a4_11 : decode cJ6_bitCount_0f7a4 11 = .ok (.ldc_w 266, 3) := by decide +kernel
theorem dJ6_bitCount_0f7a4_14 : decode cJ6_bitCount_0f7a4 14 = .ok (.iand, 1) := by decide +kernel
theorem dJ6_bitCount_0f7a4_15 : decode cJ6_bitCount_0f7a4 15 = .ok (.iload_n 0, 1) := by decide +kernel
theorem dJ6_bitCount_0f7a4_16 : decode cJ6_bitCount_0f7a4 16 = .ok (.iconst 2, 1) := by decide +kernel
theorem dJ6_bitCount_0f7a4_17 : decode cJ6_bitCount_0f7a4 17 = .ok (.iushr, 1) := by decide +kernel
theorem dJ6_bitCount_0f7a4_18 : decode cJ6_bitCount_0f7a4 18 = .ok (.ldc_w 266, 3) := by decide +kernel
theorem dJ6_bitCount_0f7a4_21 : decode cJ6_bitCount_0f7a4 21 = .ok (.iand, 1) := by decide +kernel
theorem dJ6_bitCount_0f7a4_22 : decode cJ6_bitCount_0f7a4 22 = .ok (.iadd, 1) := by decide +kernel
theorem dJ6_bitCount_0f7a4_23 : decode cJ6_bitCount_0f7a4 23 = .ok (.istore_n 0, 1) := by decide +kernel
theorem dJ6_bitCount_0f7a4_24 : decode cJ6_bitCount_0f7a4 24 = .ok (.iload_n 0, 1) := by decide +kernel
theorem dJ6_bitCount_0f7a4_25 : decode cJ6_bitCount_0f7a4 25 = .ok (.iload_n 0, 1) := by decide +kernel
theorem dJ6_bitCount_0f7a4_26 : decode cJ6_bitCount_0f7a4 26 = .ok (.iconst 4, 1) := by decide +kernel
theorem dJ6_bitCount_0f7a4_27 : decode cJ6_bitCount_0f7a4 27 = .ok (.iushr, 1) := by decide +kernel
theorem dJ6_bitCount_0f7a4_28 : decode cJ6_bitCount_0f7a4 28 = .ok (.iadd, 1) := by decide +kernel
theorem dJ6_bitCount_0f7a4_29 : decode cJ6_bitCount_0f7a4 29 = .ok (.ldc_w 267, 3) := by decide +kernel
theorem dJ6_bitCount_0f7a4_32 : decode cJ6_bitCount_0f7a4 32 = .ok (.iand, 1) := by decide +kernel
theorem dJ6_bitCount_0f7a4_33 : decode cJ6_bitCount_0f7a4 33 = .ok (.istore_n 0, 1) := by decide +kernel
theorem dJ6_bitCount_0f7a4_34 : decode cJ6_bitCount_0f7a4 34 = .ok (.iload_n 0, 1) := by decide +kernel
theorem dJ6_bitCount_0f7a4_35 : decode cJ6_bitCount_0f7a4 35 = .ok (.iload_n 0, 1) := by decide +kernel
theorem dJ6_bitCount_0f7a4_36 : decode cJ6_bitCount_0f7a4 36 = .ok (.bipush 8, 2) := by decide +kernel
theorem dJ6_bitCount_0f7a4_38 : decode cJ6_bitCount_0f7a4 38 = .ok (.iushr, 1) := by decide +kernel
theorem dJ6_bitCount_0f7a4_39 : decode cJ6_bitCount_0f7a4 39 = .ok (.iadd, 1) := by decide +kernel
theorem dJ6_bitCount_0f7a4_40 : decode cJ6_bitCount_0f7a4 40 = .ok (.istore_n 0, 1) := by decide +kernel
theorem dJ6_bitCount_0f7a4_41 : decode cJ6_bitCount_0f7a4 41 = .ok (.iload_n 0, 1) := by decide +kernel
theorem dJ6_bitCount_0f7a4_42 : decode cJ6_bitCount_0f7a4 42 = .ok (.iload_n 0, 1) := by decide +kernel
theorem dJ6_bitCount_0f7a4_43 : decode cJ6_bitCount_0f7a4 43 = .ok (.bipush 16, 2) := by decide +kernel
theorem dJ6_bitCount_0f7a4_45 : decode cJ6_bitCount_0f7a4 45 = .ok (.iushr, 1) := by decide +kernel
theorem dJ6_bitCount_0f7a4_46 : decode cJ6_bitCount_0f7a4 46 = .ok (.iadd, 1) := by decide +kernel
theorem dJ6_bitCount_0f7a4_47 : decode cJ6_bitCount_0f7a4 47 = .ok (.istore_n 0, 1) := by decide +kernel
theorem dJ6_bitCount_0f7a4_48 : decode cJ6_bitCount_0f7a4 48 = .ok (.iload_n 0, 1) := by decide +kernel
theorem dJ6_bitCount_0f7a4_49 : decode cJ6_bitCount_0f7a4 49 = .ok (.bipush 63, 2) := by decide +kernel
theorem dJ6_bitCount_0f7a4_51 : decode cJ6_bitCount_0f7a4 51 = .ok (.iand, 1) := by decide +kernel
theorem dJ6_bitCount_0f7a4_52 : decode cJ6_bitCount_0f7a4 52 = .ok (.ireturn, 1) := by decide +kernel
theorem dJ9_min_7cf53_0 : decode cJ9_min_7cf53 0 = .ok (.iload_n 0, 1) := by decide +kernel
theorem dJ9_min_7cf53_1 : decode cJ9_min_7cf53 1 = .ok (.iload_n 1, 1) := by decide +kernel
theorem dJ9_min_7cf53_2 : decode cJ9_min_7cf53 2 = .ok (.if_icmp .gt 7, 3) := by decide +kernel
theorem dJ9_min_7cf53_5 : decode cJ9_min_7cf53 5 = .ok (.iload_n 0, 1) := by decide +kernel
theorem dJ9_min_7cf53_6 : decode cJ9_min_7cf53 6 = .ok (.goto 4, 3) := by decide +kernel
theorem dJ9_min_7cf53_9 : decode cJ9_min_7cf53 9 = .ok (.iload_n 1, 1) := by decide +kernel
theorem dJ9_min_7cf53_10 : decode cJ9_min_7cf53 10 = .ok (.ireturn, 1) := by decide +kernel
