theorem dX6_init_0 : decode cX6_init 0 = .ok (.aload_n 0, 1) := by decide +kernel
theorem dX6_init_1 : decode cX6_init 1 = .ok (.invokespecial 3, 3) := by decide +kernel
theorem dX6_init_4 : decode cX6_init 4 = .ok (.aload_n 0, 1) := by decide +kernel
theorem dX6_init_5 : decode cX6_init 5 = .ok (.new 9, 3) := by decide +kernel
theorem dX6_init_8 : decode cX6_init 8 = .ok (.dup, 1) := by decide +kernel
theorem dX6_init_9 : decode cX6_init 9 = .ok (.invokespecial 11, 3) := by decide +kernel
theorem dX6_init_12 : decode cX6_init 12 = .ok (.putfield 12, 3) := by decide +kernel
theorem dX6_init_15 : decode cX6_init 15 = .ok (.aload_n 0, 1) := by decide +kernel
theorem dX6_init_16 : decode cX6_init 16 = .ok (.new 18, 3) := by decide +kernel
theorem dX6_init_19 : decode cX6_init 19 = .ok (.dup, 1) := by decide +kernel
theorem dX6_init_20 : decode cX6_init 20 = .ok (.invokespecial 20, 3) := by decide +kernel
theorem dX6_init_23 : decode cX6_init 23 = .ok (.putfield 21, 3) := by decide +kernel
theorem dX6_init_26 : decode cX6_init 26 = .ok (.aload_n 0, 1) := by decide +kernel
theorem dX6_init_27 : decode cX6_init 27 = .ok (.iconst 4, 1) := by decide +kernel
theorem dX6_init_28 : decode cX6_init 28 = .ok (.anewarray 25, 3) := by decide +kernel
theorem dX6_init_31 : decode cX6_init 31 = .ok (.putfield 27, 3) := by decide +kernel
theorem dX6_init_34 : decode cX6_init 34 = .ok (.aload_n 0, 1) := by decide +kernel
theorem dX6_init_35 : decode cX6_init 35 = .ok (.iconst 4, 1) := by decide +kernel
theorem dX6_init_36 : decode cX6_init 36 = .ok (.newarray .int, 2) := by decide +kernel
theorem dX6_init_38 : decode cX6_init 38 = .ok (.putfield 31, 3) := by decide +kernel
theorem dX6_init_41 : decode cX6_init 41 = .ok (.aload_n 0, 1) := by decide +kernel
theorem dX6_init_42 : decode cX6_init 42 = .ok (.iconst 0, 1) := by decide +kernel
theorem dX6_init_43 : decode cX6_init 43 = .ok (.putfield 35, 3) := by decide +kernel
theorem dX6_init_46 : decode cX6_init 46 = .ok (.aload_n 0, 1) := by decide +kernel
theorem dX6_init_47 : decode cX6_init 47 = .ok (.iconst 0, 1) := by decide +kernel
theorem dX6_init_48 : decode cX6_init 48 = .ok (.putfield 39, 3) := by decide +kernel
theorem dX6_init_51 : decode cX6_init 51 = .ok (.iconst 0, 1) := by decide +kernel
theorem dX6_init_52 : decode cX6_init 52 = .ok (.istore_n 1, 1) := by decide +kernel
theorem dX6_init_53 : decode cX6_init 53 = .ok (.iload_n 1, 1) := by decide +kernel
theorem dX6_init_54 : decode cX6_init 54 = .ok (.iconst 4, 1) := by decide +kernel
theorem dX6_init_55 : decode cX6_init 55 = .ok (.if_icmp .ge 22, 3) := by decide +kernel
theorem dX6_init_58 : decode cX6_init 58 = .ok (.aload_n 0, 1) := by decide +kernel
theorem dX6_init_59 : decode cX6_init 59 = .ok (.getfield 27, 3) := by decide +kernel
theorem dX6_init_62 : decode cX6_init 62 = .ok (.iload_n 1, 1) := by decide +kernel
theorem dX6_init_63 : decode cX6_init 63 = .ok (.new 25, 3) := by decide +kernel
theorem dX6_init_66 : decode cX6_init 66 = .ok (.dup, 1) := by decide +kernel
theorem dX6_init_67 : decode cX6_init 67 = .ok (.invokespecial 42, 3) := by decide +kernel
theorem dX6_init_70 : decode cX6_init 70 = .ok (.aastore, 1) := by decide +kernel
theorem dX6_init_71 : decode cX6_init 71 = .ok (.iinc 1 1, 3) := by decide +kernel
theorem dX6_init_74 : decode cX6_init 74 = .ok (.goto (-21), 3) := by decide +kernel
theorem dX6_init_77 : decode cX6_init 77 = .ok (.return_, 1) := by decide +kernel
theorem dX6_ride_0 : decode cX6_ride 0 = .ok (.aload_n 0, 1) := by decide +kernel
theorem dX6_ride_1 : decode cX6_ride 1 = .ok (.iconst 0, 1) := by decide +kernel
theorem dX6_ride_2 : decode cX6_ride 2 = .ok (.putfield 39, 3) := by decide +kernel
theorem dX6_ride_5 : decode cX6_ride 5 = .ok (.iload_n 1, 1) := by decide +kernel
theorem dX6_ride_6 : decode cX6_ride 6 = .ok (.invokestatic 43, 3) := by decide +kernel
theorem dX6_ride_9 : decode cX6_ride 9 = .ok (.ifCond .ne 5, 3) := by decide +kernel
theorem dX6_ride_12 : decode cX6_ride 12 = .ok (.iconst (-1), 1) := by decide +kernel
theorem dX6_ride_13 : decode cX6_ride 13 = .ok (.ireturn, 1) := by decide +kernel
theorem dX6_ride_14 : decode cX6_ride 14 = .ok (.iload_n 2, 1) := by decide +kernel
theorem dX6_ride_15 : decode cX6_ride 15 = .ok (.invokestatic 47, 3) := by decide +kernel
theorem dX6_ride_18 : decode cX6_ride 18 = .ok (.ifCond .ne 6, 3) := by decide +kernel
theorem dX6_ride_21 : decode cX6_ride 21 = .ok (.bipush (-2), 2) := by decide +kernel
theorem dX6_ride_23 : decode cX6_ride 23 = .ok (.ireturn, 1) := by decide +kernel
theorem dX6_ride_24 : decode cX6_ride 24 = .ok (.aload_n 0, 1) := by decide +kernel
theorem dX6_ride_25 : decode cX6_ride 25 = .ok (.getfield 27, 3) := by decide +kernel
theorem dX6_ride_28 : decode cX6_ride 28 = .ok (.iload_n 1, 1) := by decide +kernel
theorem dX6_ride_29 : decode cX6_ride 29 = .ok (.aaload, 1) := by decide +kernel
theorem dX6_ride_30 : decode cX6_ride 30 = .ok (.astore 5, 2) := by decide +kernel
theorem dX6_ride_32 : decode cX6_ride 32 = .ok (.aload 5, 2) := by decide +kernel
theorem dX6_ride_34 : decode cX6_ride 34 = .ok (.iload_n 2, 1) := by decide +kernel
theorem dX6_ride_35 : decode cX6_ride 35 = .ok (.iload_n 3, 1) := by decide +kernel
theorem dX6_ride_36 : decode cX6_ride 36 = .ok (.iload 4, 2) := by decide +kernel
theorem dX6_ride_38 : decode cX6_ride 38 = .ok (.invokevirtual 50, 3) := by decide +kernel
theorem dX6_ride_41 : decode cX6_ride 41 = .ok (.istore 6, 2) := by decide +kernel
theorem dX6_ride_43 : decode cX6_ride 43 = .ok (.iload 6, 2) := by decide +kernel
theorem dX6_ride_45 : decode cX6_ride 45 = .ok (.ifCond .eq 10, 3) := by decide +kernel
theorem dX6_ride_48 : decode cX6_ride 48 = .ok (.aload_n 0, 1) := by decide +kernel
theorem dX6_ride_49 : decode cX6_ride 49 = .ok (.iload 6, 2) := by decide +kernel
theorem dX6_ride_51 : decode cX6_ride 51 = .ok (.invokevirtual 54, 3) := by decide +kernel
theorem dX6_ride_54 : decode cX6_ride 54 = .ok (.ireturn, 1) := by decide +kernel
theorem dX6_ride_55 : decode cX6_ride 55 = .ok (.aload 5, 2) := by decide +kernel
theorem dX6_ride_57 : decode cX6_ride 57 = .ok (.iload_n 3, 1) := by decide +kernel
theorem dX6_ride_58 : decode cX6_ride 58 = .ok (.iload 4, 2) := by decide +kernel
theorem dX6_ride_60 : decode cX6_ride 60 = .ok (.invokestatic 58, 3) := by decide +kernel
theorem dX6_ride_63 : decode cX6_ride 63 = .ok (.istore 7, 2) := by decide +kernel
theorem dX6_ride_65 : decode cX6_ride 65 = .ok (.iload 7, 2) := by decide +kernel
theorem dX6_ride_67 : decode cX6_ride 67 = .ok (.bipush (-9), 2) := by decide +kernel
theorem dX6_ride_69 : decode cX6_ride 69 = .ok (.if_icmp .eq 9, 3) := by decide +kernel
theorem dX6_ride_72 : decode cX6_ride 72 = .ok (.bipush (-100), 2) := by decide +kernel
theorem dX6_ride_74 : decode cX6_ride 74 = .ok (.iload 7, 2) := by decide +kernel
theorem dX6_ride_76 : decode cX6_ride 76 = .ok (.isub, 1) := by decide +kernel
theorem dX6_ride_77 : decode cX6_ride 77 = .ok (.ireturn, 1) := by decide +kernel
theorem dX6_ride_78 : decode cX6_ride 78 = .ok (.aload_n 0, 1) := by decide +kernel
theorem dX6_ride_79 : decode cX6_ride 79 = .ok (.getfield 12, 3) := by decide +kernel
theorem dX6_ride_82 : decode cX6_ride 82 = .ok (.aload 5, 2) := by decide +kernel
theorem dX6_ride_84 : decode cX6_ride 84 = .ok (.iload_n 3, 1) := by decide +kernel
theorem dX6_ride_85 : decode cX6_ride 85 = .ok (.iload 4, 2) := by decide +kernel
theorem dX6_ride_87 : decode cX6_ride 87 = .ok (.invokevirtual 64, 3) := by decide +kernel
theorem dX6_ride_90 : decode cX6_ride 90 = .ok (.aload_n 0, 1) := by decide +kernel
theorem dX6_ride_91 : decode cX6_ride 91 = .ok (.getfield 21, 3) := by decide +kernel
theorem dX6_ride_94 : decode cX6_ride 94 = .ok (.iconst 0, 1) := by decide +kernel
theorem dX6_ride_95 : decode cX6_ride 95 = .ok (.putfield 68, 3) := by decide +kernel
theorem dX6_ride_98 : decode cX6_ride 98 = .ok (.aload_n 0, 1) := by decide +kernel
theorem dX6_ride_99 : decode cX6_ride 99 = .ok (.getfield 12, 3) := by decide +kernel
theorem dX6_ride_102 : decode cX6_ride 102 = .ok (.getfield 71, 3) := by decide +kernel
theorem dX6_ride_105 : decode cX6_ride 105 = .ok (.ireturn, 1) := by decide +kernel
theorem dX6_ofRider_0 : decode cX6_ofRider 0 = .ok (.aload_n 0, 1) := by decide +kernel
theorem dX6_ofRider_1 : decode cX6_ofRider 1 = .ok (.getfield 12, 3) := by decide +kernel
theorem dX6_ofRider_4 : decode cX6_ofRider 4 = .ok (.iload_n 1, 1) := by decide +kernel
theorem dX6_ofRider_5 : decode cX6_ofRider 5 = .ok (.invokevirtual 72, 3) := by decide +kernel
theorem dX6_ofRider_8 : decode cX6_ofRider 8 = .ok (.ifCond .ne 5, 3) := by decide +kernel
theorem dX6_ofRider_11 : decode cX6_ofRider 11 = .ok (.iconst (-1), 1) := by decide +kernel
theorem dX6_ofRider_12 : decode cX6_ofRider 12 = .ok (.ireturn, 1) := by decide +kernel
theorem dX6_ofRider_13 : decode cX6_ofRider 13 = .ok (.aload_n 0, 1) := by decide +kernel
theorem dX6_ofRider_14 : decode cX6_ofRider 14 = .ok (.getfield 12, 3) := by decide +kernel
theorem dX6_ofRider_17 : decode cX6_ofRider 17 = .ok (.getfield 75, 3) := by decide +kernel
theorem dX6_ofRider_20 : decode cX6_ofRider 20 = .ok (.iload_n 1, 1) := by decide +kernel
theorem dX6_ofRider_21 : decode cX6_ofRider 21 = .ok (.aaload, 1) := by decide +kernel
theorem dX6_ofRider_22 : decode cX6_ofRider 22 = .ok (.astore_n 3, 1) := by decide +kernel
theorem dX6_ofRider_23 : decode cX6_ofRider 23 = .ok (.iload_n 2, 1) := by decide +kernel
theorem dX6_ofRider_24 : decode cX6_ofRider 24 = .ok (.tableswitch 70 0 5 #[40, 45, 50, 55, 60, 65], 40) := by decide +kernel
theorem dX6_ofRider_64 : decode cX6_ofRider 64 = .ok (.aload_n 3, 1) := by decide +kernel
theorem dX6_ofRider_65 : decode cX6_ofRider 65 = .ok (.getfield 79, 3) := by decide +kernel
theorem dX6_ofRider_68 : decode cX6_ofRider 68 = .ok (.ireturn, 1) := by decide +kernel
theorem dX6_ofRider_69 : decode cX6_ofRider 69 = .ok (.aload_n 3, 1) := by decide +kernel
theorem dX6_ofRider_70 : decode cX6_ofRider 70 = .ok (.getfield 84, 3) := by decide +kernel
theorem dX6_ofRider_73 : decode cX6_ofRider 73 = .ok (.ireturn, 1) := by decide +kernel
theorem dX6_ofRider_74 : decode cX6_ofRider 74 = .ok (.aload_n 3, 1) := by decide +kernel
theorem dX6_ofRider_75 : decode cX6_ofRider 75 = .ok (.getfield 87, 3) := by decide +kernel
theorem dX6_ofRider_78 : decode cX6_ofRider 78 = .ok (.ireturn, 1) := by decide +kernel
theorem dX6_ofRider_79 : decode cX6_ofRider 79 = .ok (.aload_n 3, 1) := by decide +kernel
theorem dX6_ofRider_80 : decode cX6_ofRider 80 = .ok (.getfield 90, 3) := by decide +kernel
theorem dX6_ofRider_83 : decode cX6_ofRider 83 = .ok (.ireturn, 1) := by decide +kernel
theorem dX6_ofRider_84 : decode cX6_ofRider 84 = .ok (.aload_n 3, 1) := by decide +kernel
theorem dX6_ofRider_85 : decode cX6_ofRider 85 = .ok (.getfield 93, 3) := by decide +kernel
theorem dX6_ofRider_88 : decode cX6_ofRider 88 = .ok (.ireturn, 1) := by decide +kernel
theorem dX6_ofRider_89 : decode cX6_ofRider 89 = .ok (.aload_n 3, 1) := by decide +kernel
theorem dX6_ofRider_90 : decode cX6_ofRider 90 = .ok (.invokevirtual 96, 3) := by decide +kernel
theorem dX6_ofRider_93 : decode cX6_ofRider 93 = .ok (.ireturn, 1) := by decide +kernel
theorem dX6_ofRider_94 : decode cX6_ofRider 94 = .ok (.bipush (-2), 2) := by decide +kernel
theorem dX6_ofRider_96 : decode cX6_ofRider 96 = .ok (.ireturn, 1) := by decide +kernel
theorem dX6_slope_0 : decode cX6_slope 0 = .ok (.aload_n 0, 1) := by decide +kernel
theorem dX6_slope_1 : decode cX6_slope 1 = .ok (.getfield 12, 3) := by decide +kernel
theorem dX6_slope_4 : decode cX6_slope 4 = .ok (.iload_n 1, 1) := by decide +kernel
theorem dX6_slope_5 : decode cX6_slope 5 = .ok (.invokevirtual 100, 3) := by decide +kernel
theorem dX6_slope_8 : decode cX6_slope 8 = .ok (.ifCond .eq 15, 3) := by decide +kernel
theorem dX6_slope_11 : decode cX6_slope 11 = .ok (.aload_n 0, 1) := by decide +kernel
theorem dX6_slope_12 : decode cX6_slope 12 = .ok (.getfield 12, 3) := by decide +kernel
theorem dX6_slope_15 : decode cX6_slope 15 = .ok (.getfield 103, 3) := by decide +kernel
theorem dX6_slope_18 : decode cX6_slope 18 = .ok (.iload_n 1, 1) := by decide +kernel
theorem dX6_slope_19 : decode cX6_slope 19 = .ok (.iaload, 1) := by decide +kernel
theorem dX6_slope_20 : decode cX6_slope 20 = .ok (.goto 4, 3) := by decide +kernel
theorem dX6_slope_23 : decode cX6_slope 23 = .ok (.iconst (-1), 1) := by decide +kernel
theorem dX6_slope_24 : decode cX6_slope 24 = .ok (.ireturn, 1) := by decide +kernel
theorem dX6_tilt_0 : decode cX6_tilt 0 = .ok (.aload_n 0, 1) := by decide +kernel
theorem dX6_tilt_1 : decode cX6_tilt 1 = .ok (.getfield 12, 3) := by decide +kernel
theorem dX6_tilt_4 : decode cX6_tilt 4 = .ok (.iload_n 1, 1) := by decide +kernel
theorem dX6_tilt_5 : decode cX6_tilt 5 = .ok (.invokevirtual 100, 3) := by decide +kernel
theorem dX6_tilt_8 : decode cX6_tilt 8 = .ok (.ifCond .ne 5, 3) := by decide +kernel
theorem dX6_tilt_11 : decode cX6_tilt 11 = .ok (.iconst (-1), 1) := by decide +kernel
theorem dX6_tilt_12 : decode cX6_tilt 12 = .ok (.ireturn, 1) := by decide +kernel
theorem dX6_tilt_13 : decode cX6_tilt 13 = .ok (.iload_n 2, 1) := by decide +kernel
theorem dX6_tilt_14 : decode cX6_tilt 14 = .ok (.iconst 3, 1) := by decide +kernel
theorem dX6_tilt_15 : decode cX6_tilt 15 = .ok (.invokestatic 106, 3) := by decide +kernel
theorem dX6_tilt_18 : decode cX6_tilt 18 = .ok (.ifCond .ne 6, 3) := by decide +kernel
theorem dX6_tilt_21 : decode cX6_tilt 21 = .ok (.bipush (-2), 2) := by decide +kernel
theorem dX6_tilt_23 : decode cX6_tilt 23 = .ok (.ireturn, 1) := by decide +kernel
theorem dX6_tilt_24 : decode cX6_tilt 24 = .ok (.aload_n 0, 1) := by decide +kernel
theorem dX6_tilt_25 : decode cX6_tilt 25 = .ok (.getfield 12, 3) := by decide +kernel
theorem dX6_tilt_28 : decode cX6_tilt 28 = .ok (.getfield 103, 3) := by decide +kernel
theorem dX6_tilt_31 : decode cX6_tilt 31 = .ok (.iload_n 1, 1) := by decide +kernel
theorem dX6_tilt_32 : decode cX6_tilt 32 = .ok (.iaload, 1) := by decide +kernel
theorem dX6_tilt_33 : decode cX6_tilt 33 = .ok (.istore_n 3, 1) := by decide +kernel
theorem dX6_tilt_34 : decode cX6_tilt 34 = .ok (.aload_n 0, 1) := by decide +kernel
theorem dX6_tilt_35 : decode cX6_tilt 35 = .ok (.getfield 12, 3) := by decide +kernel
theorem dX6_tilt_38 : decode cX6_tilt 38 = .ok (.getfield 103, 3) := by decide +kernel
theorem dX6_tilt_41 : decode cX6_tilt 41 = .ok (.iload_n 1, 1) := by decide +kernel
theorem dX6_tilt_42 : decode cX6_tilt 42 = .ok (.iload_n 2, 1) := by decide +kernel
theorem dX6_tilt_43 : decode cX6_tilt 43 = .ok (.iastore, 1) := by decide +kernel
theorem dX6_tilt_44 : decode cX6_tilt 44 = .ok (.iload_n 3, 1) := by decide +kernel
theorem dX6_tilt_45 : decode cX6_tilt 45 = .ok (.ireturn, 1) := by decide +kernel
theorem dX6_seat_0 : decode cX6_seat 0 = .ok (.iload_n 1, 1) := by decide +kernel
theorem dX6_seat_1 : decode cX6_seat 1 = .ok (.iconst 3, 1) := by decide +kernel
theorem dX6_seat_2 : decode cX6_seat 2 = .ok (.invokestatic 106, 3) := by decide +kernel
theorem dX6_seat_5 : decode cX6_seat 5 = .ok (.ifCond .ne 6, 3) := by decide +kernel
theorem dX6_seat_8 : decode cX6_seat 8 = .ok (.bipush (-2), 2) := by decide +kernel
theorem dX6_seat_10 : decode cX6_seat 10 = .ok (.ireturn, 1) := by decide +kernel
theorem dX6_seat_11 : decode cX6_seat 11 = .ok (.aload_n 0, 1) := by decide +kernel
theorem dX6_seat_12 : decode cX6_seat 12 = .ok (.getfield 12, 3) := by decide +kernel
theorem dX6_seat_15 : decode cX6_seat 15 = .ok (.invokevirtual 110, 3) := by decide +kernel
theorem dX6_seat_18 : decode cX6_seat 18 = .ok (.ifCond .ne 6, 3) := by decide +kernel
theorem dX6_seat_21 : decode cX6_seat 21 = .ok (.bipush (-3), 2) := by decide +kernel
theorem dX6_seat_23 : decode cX6_seat 23 = .ok (.ireturn, 1) := by decide +kernel
theorem dX6_seat_24 : decode cX6_seat 24 = .ok (.aload_n 0, 1) := by decide +kernel
theorem dX6_seat_25 : decode cX6_seat 25 = .ok (.getfield 12, 3) := by decide +kernel
theorem dX6_seat_28 : decode cX6_seat 28 = .ok (.getfield 114, 3) := by decide +kernel
theorem dX6_seat_31 : decode cX6_seat 31 = .ok (.istore_n 2, 1) := by decide +kernel
theorem dX6_seat_32 : decode cX6_seat 32 = .ok (.aload_n 0, 1) := by decide +kernel
theorem dX6_seat_33 : decode cX6_seat 33 = .ok (.getfield 12, 3) := by decide +kernel
theorem dX6_seat_36 : decode cX6_seat 36 = .ok (.iload_n 1, 1) := by decide +kernel
theorem dX6_seat_37 : decode cX6_seat 37 = .ok (.putfield 114, 3) := by decide +kernel
theorem dX6_seat_40 : decode cX6_seat 40 = .ok (.iload_n 2, 1) := by decide +kernel
theorem dX6_seat_41 : decode cX6_seat 41 = .ok (.ireturn, 1) := by decide +kernel
theorem dX6_wish_0 : decode cX6_wish 0 = .ok (.aload_n 0, 1) := by decide +kernel
theorem dX6_wish_1 : decode cX6_wish 1 = .ok (.getfield 12, 3) := by decide +kernel
theorem dX6_wish_4 : decode cX6_wish 4 = .ok (.iload_n 1, 1) := by decide +kernel
theorem dX6_wish_5 : decode cX6_wish 5 = .ok (.invokevirtual 72, 3) := by decide +kernel
theorem dX6_wish_8 : decode cX6_wish 8 = .ok (.ifCond .ne 5, 3) := by decide +kernel
theorem dX6_wish_11 : decode cX6_wish 11 = .ok (.iconst (-1), 1) := by decide +kernel
theorem dX6_wish_12 : decode cX6_wish 12 = .ok (.ireturn, 1) := by decide +kernel
theorem dX6_wish_13 : decode cX6_wish 13 = .ok (.iload_n 2, 1) := by decide +kernel
theorem dX6_wish_14 : decode cX6_wish 14 = .ok (.bipush 99, 2) := by decide +kernel
theorem dX6_wish_16 : decode cX6_wish 16 = .ok (.invokestatic 106, 3) := by decide +kernel
theorem dX6_wish_19 : decode cX6_wish 19 = .ok (.ifCond .ne 6, 3) := by decide +kernel
theorem dX6_wish_22 : decode cX6_wish 22 = .ok (.bipush (-2), 2) := by decide +kernel
theorem dX6_wish_24 : decode cX6_wish 24 = .ok (.ireturn, 1) := by decide +kernel
theorem dX6_wish_25 : decode cX6_wish 25 = .ok (.aload_n 0, 1) := by decide +kernel
theorem dX6_wish_26 : decode cX6_wish 26 = .ok (.getfield 12, 3) := by decide +kernel
theorem dX6_wish_29 : decode cX6_wish 29 = .ok (.getfield 75, 3) := by decide +kernel
theorem dX6_wish_32 : decode cX6_wish 32 = .ok (.iload_n 1, 1) := by decide +kernel
theorem dX6_wish_33 : decode cX6_wish 33 = .ok (.aaload, 1) := by decide +kernel
theorem dX6_wish_34 : decode cX6_wish 34 = .ok (.astore_n 3, 1) := by decide +kernel
theorem dX6_wish_35 : decode cX6_wish 35 = .ok (.aload_n 3, 1) := by decide +kernel
theorem dX6_wish_36 : decode cX6_wish 36 = .ok (.getfield 93, 3) := by decide +kernel
theorem dX6_wish_39 : decode cX6_wish 39 = .ok (.istore 4, 2) := by decide +kernel
theorem dX6_wish_41 : decode cX6_wish 41 = .ok (.aload_n 3, 1) := by decide +kernel
theorem dX6_wish_42 : decode cX6_wish 42 = .ok (.iload_n 2, 1) := by decide +kernel
theorem dX6_wish_43 : decode cX6_wish 43 = .ok (.putfield 93, 3) := by decide +kernel
theorem dX6_wish_46 : decode cX6_wish 46 = .ok (.iload 4, 2) := by decide +kernel
theorem dX6_wish_48 : decode cX6_wish 48 = .ok (.ireturn, 1) := by decide +kernel
theorem dX6_gain_0 : decode cX6_gain 0 = .ok (.aload_n 0, 1) := by decide +kernel
theorem dX6_gain_1 : decode cX6_gain 1 = .ok (.getfield 12, 3) := by decide +kernel
theorem dX6_gain_4 : decode cX6_gain 4 = .ok (.iload_n 1, 1) := by decide +kernel
theorem dX6_gain_5 : decode cX6_gain 5 = .ok (.invokevirtual 72, 3) := by decide +kernel
theorem dX6_gain_8 : decode cX6_gain 8 = .ok (.ifCond .eq 14, 3) := by decide +kernel
theorem dX6_gain_11 : decode cX6_gain 11 = .ok (.aload_n 0, 1) := by decide +kernel
theorem dX6_gain_12 : decode cX6_gain 12 = .ok (.getfield 12, 3) := by decide +kernel
theorem dX6_gain_15 : decode cX6_gain 15 = .ok (.iload_n 2, 1) := by decide +kernel
theorem dX6_gain_16 : decode cX6_gain 16 = .ok (.invokevirtual 100, 3) := by decide +kernel
theorem dX6_gain_19 : decode cX6_gain 19 = .ok (.ifCond .ne 5, 3) := by decide +kernel
theorem dX6_gain_22 : decode cX6_gain 22 = .ok (.iconst (-1), 1) := by decide +kernel
theorem dX6_gain_23 : decode cX6_gain 23 = .ok (.ireturn, 1) := by decide +kernel
theorem dX6_gain_24 : decode cX6_gain 24 = .ok (.aload_n 0, 1) := by decide +kernel
theorem dX6_gain_25 : decode cX6_gain 25 = .ok (.getfield 12, 3) := by decide +kernel
theorem dX6_gain_28 : decode cX6_gain 28 = .ok (.getfield 75, 3) := by decide +kernel
theorem dX6_gain_31 : decode cX6_gain 31 = .ok (.iload_n 1, 1) := by decide +kernel
theorem dX6_gain_32 : decode cX6_gain 32 = .ok (.aaload, 1) := by decide +kernel
theorem dX6_gain_33 : decode cX6_gain 33 = .ok (.aload_n 0, 1) := by decide +kernel
theorem dX6_gain_34 : decode cX6_gain 34 = .ok (.getfield 12, 3) := by decide +kernel
theorem dX6_gain_37 : decode cX6_gain 37 = .ok (.getfield 103, 3) := by decide +kernel
theorem dX6_gain_40 : decode cX6_gain 40 = .ok (.iload_n 2, 1) := by decide +kernel
theorem dX6_gain_41 : decode cX6_gain 41 = .ok (.iaload, 1) := by decide +kernel
theorem dX6_gain_42 : decode cX6_gain 42 = .ok (.invokevirtual 117, 3) := by decide +kernel
theorem dX6_gain_45 : decode cX6_gain 45 = .ok (.ireturn, 1) := by decide +kernel
theorem dX6_age_0 : decode cX6_age 0 = .ok (.aload_n 0, 1) := by decide +kernel
theorem dX6_age_1 : decode cX6_age 1 = .ok (.getfield 12, 3) := by decide +kernel
theorem dX6_age_4 : decode cX6_age 4 = .ok (.iload_n 1, 1) := by decide +kernel
theorem dX6_age_5 : decode cX6_age 5 = .ok (.invokevirtual 72, 3) := by decide +kernel
theorem dX6_age_8 : decode cX6_age 8 = .ok (.ifCond .ne 5, 3) := by decide +kernel
theorem dX6_age_11 : decode cX6_age 11 = .ok (.iconst (-1), 1) := by decide +kernel
theorem dX6_age_12 : decode cX6_age 12 = .ok (.ireturn, 1) := by decide +kernel
theorem dX6_age_13 : decode cX6_age 13 = .ok (.aload_n 0, 1) := by decide +kernel
theorem dX6_age_14 : decode cX6_age 14 = .ok (.getfield 12, 3) := by decide +kernel
theorem dX6_age_17 : decode cX6_age 17 = .ok (.getfield 75, 3) := by decide +kernel
theorem dX6_age_20 : decode cX6_age 20 = .ok (.iload_n 1, 1) := by decide +kernel
theorem dX6_age_21 : decode cX6_age 21 = .ok (.aaload, 1) := by decide +kernel
theorem dX6_age_22 : decode cX6_age 22 = .ok (.astore_n 3, 1) := by decide +kernel
theorem dX6_age_23 : decode cX6_age 23 = .ok (.aload_n 3, 1) := by decide +kernel
theorem dX6_age_24 : decode cX6_age 24 = .ok (.iload_n 2, 1) := by decide +kernel
theorem dX6_age_25 : decode cX6_age 25 = .ok (.invokevirtual 120, 3) := by decide +kernel
theorem dX6_age_28 : decode cX6_age 28 = .ok (.ifCond .eq 15, 3) := by decide +kernel
theorem dX6_age_31 : decode cX6_age 31 = .ok (.aload_n 0, 1) := by decide +kernel
theorem dX6_age_32 : decode cX6_age 32 = .ok (.getfield 12, 3) := by decide +kernel
theorem dX6_age_35 : decode cX6_age 35 = .ok (.aload_n 3, 1) := by decide +kernel
theorem dX6_age_36 : decode cX6_age 36 = .ok (.iload_n 2, 1) := by decide +kernel
theorem dX6_age_37 : decode cX6_age 37 = .ok (.invokevirtual 123, 3) := by decide +kernel
theorem dX6_age_40 : decode cX6_age 40 = .ok (.goto 5, 3) := by decide +kernel
theorem dX6_age_43 : decode cX6_age 43 = .ok (.bipush (-2), 2) := by decide +kernel
theorem dX6_age_45 : decode cX6_age 45 = .ok (.ireturn, 1) := by decide +kernel
theorem dX6_sit_0 : decode cX6_sit 0 = .ok (.aload_n 0, 1) := by decide +kernel
theorem dX6_sit_1 : decode cX6_sit 1 = .ok (.iconst 0, 1) := by decide +kernel
theorem dX6_sit_2 : decode cX6_sit 2 = .ok (.putfield 39, 3) := by decide +kernel
theorem dX6_sit_5 : decode cX6_sit 5 = .ok (.iload_n 1, 1) := by decide +kernel
theorem dX6_sit_6 : decode cX6_sit 6 = .ok (.invokestatic 43, 3) := by decide +kernel
theorem dX6_sit_9 : decode cX6_sit 9 = .ok (.ifCond .ne 5, 3) := by decide +kernel
theorem dX6_sit_12 : decode cX6_sit 12 = .ok (.iconst (-1), 1) := by decide +kernel
theorem dX6_sit_13 : decode cX6_sit 13 = .ok (.ireturn, 1) := by decide +kernel
theorem dX6_sit_14 : decode cX6_sit 14 = .ok (.iload_n 2, 1) := by decide +kernel
theorem dX6_sit_15 : decode cX6_sit 15 = .ok (.invokestatic 47, 3) := by decide +kernel
theorem dX6_sit_18 : decode cX6_sit 18 = .ok (.ifCond .eq 11, 3) := by decide +kernel
theorem dX6_sit_21 : decode cX6_sit 21 = .ok (.iload 5, 2) := by decide +kernel
theorem dX6_sit_23 : decode cX6_sit 23 = .ok (.invokestatic 127, 3) := by decide +kernel
theorem dX6_sit_26 : decode cX6_sit 26 = .ok (.ifCond .ne 6, 3) := by decide +kernel
theorem dX6_sit_29 : decode cX6_sit 29 = .ok (.bipush (-2), 2) := by decide +kernel
theorem dX6_sit_31 : decode cX6_sit 31 = .ok (.ireturn, 1) := by decide +kernel
theorem dX6_sit_32 : decode cX6_sit 32 = .ok (.aload_n 0, 1) := by decide +kernel
theorem dX6_sit_33 : decode cX6_sit 33 = .ok (.getfield 12, 3) := by decide +kernel
theorem dX6_sit_36 : decode cX6_sit 36 = .ok (.invokevirtual 110, 3) := by decide +kernel
theorem dX6_sit_39 : decode cX6_sit 39 = .ok (.ifCond .ne 6, 3) := by decide +kernel
theorem dX6_sit_42 : decode cX6_sit 42 = .ok (.bipush (-3), 2) := by decide +kernel
theorem dX6_sit_44 : decode cX6_sit 44 = .ok (.ireturn, 1) := by decide +kernel
theorem dX6_sit_45 : decode cX6_sit 45 = .ok (.aload_n 0, 1) := by decide +kernel
theorem dX6_sit_46 : decode cX6_sit 46 = .ok (.getfield 27, 3) := by decide +kernel
theorem dX6_sit_49 : decode cX6_sit 49 = .ok (.iload_n 1, 1) := by decide +kernel
theorem dX6_sit_50 : decode cX6_sit 50 = .ok (.aaload, 1) := by decide +kernel
theorem dX6_sit_51 : decode cX6_sit 51 = .ok (.astore 6, 2) := by decide +kernel
theorem dX6_sit_53 : decode cX6_sit 53 = .ok (.aload 6, 2) := by decide +kernel
theorem dX6_sit_55 : decode cX6_sit 55 = .ok (.iload_n 2, 1) := by decide +kernel
theorem dX6_sit_56 : decode cX6_sit 56 = .ok (.iload_n 3, 1) := by decide +kernel
theorem dX6_sit_57 : decode cX6_sit 57 = .ok (.iload 4, 2) := by decide +kernel
theorem dX6_sit_59 : decode cX6_sit 59 = .ok (.invokevirtual 50, 3) := by decide +kernel
theorem dX6_sit_62 : decode cX6_sit 62 = .ok (.istore 7, 2) := by decide +kernel
theorem dX6_sit_64 : decode cX6_sit 64 = .ok (.iload 7, 2) := by decide +kernel
theorem dX6_sit_66 : decode cX6_sit 66 = .ok (.ifCond .eq 10, 3) := by decide +kernel
theorem dX6_sit_69 : decode cX6_sit 69 = .ok (.aload_n 0, 1) := by decide +kernel
theorem dX6_sit_70 : decode cX6_sit 70 = .ok (.iload 7, 2) := by decide +kernel
theorem dX6_sit_72 : decode cX6_sit 72 = .ok (.invokevirtual 54, 3) := by decide +kernel
theorem dX6_sit_75 : decode cX6_sit 75 = .ok (.ireturn, 1) := by decide +kernel
theorem dX6_sit_76 : decode cX6_sit 76 = .ok (.iload 4, 2) := by decide +kernel
theorem dX6_sit_78 : decode cX6_sit 78 = .ok (.aload_n 0, 1) := by decide +kernel
theorem dX6_sit_79 : decode cX6_sit 79 = .ok (.getfield 12, 3) := by decide +kernel
theorem dX6_sit_82 : decode cX6_sit 82 = .ok (.getfield 71, 3) := by decide +kernel
theorem dX6_sit_85 : decode cX6_sit 85 = .ok (.if_icmp .ne 13, 3) := by decide +kernel
theorem dX6_sit_88 : decode cX6_sit 88 = .ok (.aload_n 0, 1) := by decide +kernel
theorem dX6_sit_89 : decode cX6_sit 89 = .ok (.aload 6, 2) := by decide +kernel
theorem dX6_sit_91 : decode cX6_sit 91 = .ok (.iload_n 3, 1) := by decide +kernel
theorem dX6_sit_92 : decode cX6_sit 92 = .ok (.invokevirtual 130, 3) := by decide +kernel
theorem dX6_sit_95 : decode cX6_sit 95 = .ok (.ifCond .ne 6, 3) := by decide +kernel
theorem dX6_sit_98 : decode cX6_sit 98 = .ok (.bipush (-2), 2) := by decide +kernel
theorem dX6_sit_100 : decode cX6_sit 100 = .ok (.ireturn, 1) := by decide +kernel
theorem dX6_sit_101 : decode cX6_sit 101 = .ok (.aload_n 0, 1) := by decide +kernel
theorem dX6_sit_102 : decode cX6_sit 102 = .ok (.iload 5, 2) := by decide +kernel
theorem dX6_sit_104 : decode cX6_sit 104 = .ok (.invokevirtual 134, 3) := by decide +kernel
theorem dX6_sit_107 : decode cX6_sit 107 = .ok (.ireturn, 1) := by decide +kernel
theorem dX6_isSittingQuestion_0 : decode cX6_isSittingQuestion 0 = .ok (.iload_n 0, 1) := by decide +kernel
theorem dX6_isSittingQuestion_1 : decode cX6_isSittingQuestion 1 = .ok (.ifCond .lt 8, 3) := by decide +kernel
theorem dX6_isSittingQuestion_4 : decode cX6_isSittingQuestion 4 = .ok (.iload_n 0, 1) := by decide +kernel
theorem dX6_isSittingQuestion_5 : decode cX6_isSittingQuestion 5 = .ok (.iconst 3, 1) := by decide +kernel
theorem dX6_isSittingQuestion_6 : decode cX6_isSittingQuestion 6 = .ok (.if_icmp .le 27, 3) := by decide +kernel
theorem dX6_isSittingQuestion_9 : decode cX6_isSittingQuestion 9 = .ok (.iload_n 0, 1) := by decide +kernel
theorem dX6_isSittingQuestion_10 : decode cX6_isSittingQuestion 10 = .ok (.bipush 10, 2) := by decide +kernel
theorem dX6_isSittingQuestion_12 : decode cX6_isSittingQuestion 12 = .ok (.if_icmp .lt 9, 3) := by decide +kernel
theorem dX6_isSittingQuestion_15 : decode cX6_isSittingQuestion 15 = .ok (.iload_n 0, 1) := by decide +kernel
theorem dX6_isSittingQuestion_16 : decode cX6_isSittingQuestion 16 = .ok (.bipush 15, 2) := by decide +kernel
theorem dX6_isSittingQuestion_18 : decode cX6_isSittingQuestion 18 = .ok (.if_icmp .lt 15, 3) := by decide +kernel
theorem dX6_isSittingQuestion_21 : decode cX6_isSittingQuestion 21 = .ok (.iload_n 0, 1) := by decide +kernel
theorem dX6_isSittingQuestion_22 : decode cX6_isSittingQuestion 22 = .ok (.bipush 20, 2) := by decide +kernel
theorem dX6_isSittingQuestion_24 : decode cX6_isSittingQuestion 24 = .ok (.if_icmp .lt 13, 3) := by decide +kernel
theorem dX6_isSittingQuestion_27 : decode cX6_isSittingQuestion 27 = .ok (.iload_n 0, 1) := by decide +kernel
theorem dX6_isSittingQuestion_28 : decode cX6_isSittingQuestion 28 = .ok (.bipush 24, 2) := by decide +kernel
theorem dX6_isSittingQuestion_30 : decode cX6_isSittingQuestion 30 = .ok (.if_icmp .ge 7, 3) := by decide +kernel
theorem dX6_isSittingQuestion_33 : decode cX6_isSittingQuestion 33 = .ok (.iconst 1, 1) := by decide +kernel
theorem dX6_isSittingQuestion_34 : decode cX6_isSittingQuestion 34 = .ok (.goto 4, 3) := by decide +kernel
theorem dX6_isSittingQuestion_37 : decode cX6_isSittingQuestion 37 = .ok (.iconst 0, 1) := by decide +kernel
theorem dX6_isSittingQuestion_38 : decode cX6_isSittingQuestion 38 = .ok (.ireturn, 1) := by decide +kernel
theorem dX6_takeSitting_0 : decode cX6_takeSitting 0 = .ok (.iconst 0, 1) := by decide +kernel
theorem dX6_takeSitting_1 : decode cX6_takeSitting 1 = .ok (.istore_n 3, 1) := by decide +kernel
theorem dX6_takeSitting_2 : decode cX6_takeSitting 2 = .ok (.iload_n 3, 1) := by decide +kernel
theorem dX6_takeSitting_3 : decode cX6_takeSitting 3 = .ok (.aload_n 0, 1) := by decide +kernel
theorem dX6_takeSitting_4 : decode cX6_takeSitting 4 = .ok (.getfield 12, 3) := by decide +kernel
theorem dX6_takeSitting_7 : decode cX6_takeSitting 7 = .ok (.getfield 71, 3) := by decide +kernel
theorem dX6_takeSitting_10 : decode cX6_takeSitting 10 = .ok (.if_icmp .ge 45, 3) := by decide +kernel
theorem dX6_takeSitting_13 : decode cX6_takeSitting 13 = .ok (.aload_n 1, 1) := by decide +kernel
theorem dX6_takeSitting_14 : decode cX6_takeSitting 14 = .ok (.iload_n 2, 1) := by decide +kernel
theorem dX6_takeSitting_15 : decode cX6_takeSitting 15 = .ok (.iload_n 3, 1) := by decide +kernel
theorem dX6_takeSitting_16 : decode cX6_takeSitting 16 = .ok (.iadd, 1) := by decide +kernel
theorem dX6_takeSitting_17 : decode cX6_takeSitting 17 = .ok (.invokevirtual 137, 3) := by decide +kernel
theorem dX6_takeSitting_20 : decode cX6_takeSitting 20 = .ok (.istore 4, 2) := by decide +kernel
theorem dX6_takeSitting_22 : decode cX6_takeSitting 22 = .ok (.aload_n 0, 1) := by decide +kernel
theorem dX6_takeSitting_23 : decode cX6_takeSitting 23 = .ok (.getfield 12, 3) := by decide +kernel
theorem dX6_takeSitting_26 : decode cX6_takeSitting 26 = .ok (.getfield 75, 3) := by decide +kernel
theorem dX6_takeSitting_29 : decode cX6_takeSitting 29 = .ok (.iload_n 3, 1) := by decide +kernel
theorem dX6_takeSitting_30 : decode cX6_takeSitting 30 = .ok (.aaload, 1) := by decide +kernel
theorem dX6_takeSitting_31 : decode cX6_takeSitting 31 = .ok (.iload 4, 2) := by decide +kernel
theorem dX6_takeSitting_33 : decode cX6_takeSitting 33 = .ok (.invokevirtual 120, 3) := by decide +kernel
theorem dX6_takeSitting_36 : decode cX6_takeSitting 36 = .ok (.ifCond .ne 5, 3) := by decide +kernel
theorem dX6_takeSitting_39 : decode cX6_takeSitting 39 = .ok (.iconst 0, 1) := by decide +kernel
theorem dX6_takeSitting_40 : decode cX6_takeSitting 40 = .ok (.ireturn, 1) := by decide +kernel
theorem dX6_takeSitting_41 : decode cX6_takeSitting 41 = .ok (.aload_n 0, 1) := by decide +kernel
theorem dX6_takeSitting_42 : decode cX6_takeSitting 42 = .ok (.getfield 31, 3) := by decide +kernel
theorem dX6_takeSitting_45 : decode cX6_takeSitting 45 = .ok (.iload_n 3, 1) := by decide +kernel
theorem dX6_takeSitting_46 : decode cX6_takeSitting 46 = .ok (.iload 4, 2) := by decide +kernel
theorem dX6_takeSitting_48 : decode cX6_takeSitting 48 = .ok (.iastore, 1) := by decide +kernel
theorem dX6_takeSitting_49 : decode cX6_takeSitting 49 = .ok (.iinc 3 1, 3) := by decide +kernel
theorem dX6_takeSitting_52 : decode cX6_takeSitting 52 = .ok (.goto (-50), 3) := by decide +kernel
theorem dX6_takeSitting_55 : decode cX6_takeSitting 55 = .ok (.iconst 1, 1) := by decide +kernel
theorem dX6_takeSitting_56 : decode cX6_takeSitting 56 = .ok (.ireturn, 1) := by decide +kernel
theorem dX6_ofSitting_0 : decode cX6_ofSitting 0 = .ok (.iconst 0, 1) := by decide +kernel
theorem dX6_ofSitting_1 : decode cX6_ofSitting 1 = .ok (.istore_n 2, 1) := by decide +kernel
theorem dX6_ofSitting_2 : decode cX6_ofSitting 2 = .ok (.iconst 0, 1) := by decide +kernel
theorem dX6_ofSitting_3 : decode cX6_ofSitting 3 = .ok (.istore_n 3, 1) := by decide +kernel
theorem dX6_ofSitting_4 : decode cX6_ofSitting 4 = .ok (.iload_n 3, 1) := by decide +kernel
theorem dX6_ofSitting_5 : decode cX6_ofSitting 5 = .ok (.aload_n 0, 1) := by decide +kernel
theorem dX6_ofSitting_6 : decode cX6_ofSitting 6 = .ok (.getfield 12, 3) := by decide +kernel
theorem dX6_ofSitting_9 : decode cX6_ofSitting 9 = .ok (.getfield 71, 3) := by decide +kernel
theorem dX6_ofSitting_12 : decode cX6_ofSitting 12 = .ok (.if_icmp .ge 21, 3) := by decide +kernel
theorem dX6_ofSitting_15 : decode cX6_ofSitting 15 = .ok (.iload_n 2, 1) := by decide +kernel
theorem dX6_ofSitting_16 : decode cX6_ofSitting 16 = .ok (.aload_n 0, 1) := by decide +kernel
theorem dX6_ofSitting_17 : decode cX6_ofSitting 17 = .ok (.getfield 31, 3) := by decide +kernel
theorem dX6_ofSitting_20 : decode cX6_ofSitting 20 = .ok (.iload_n 3, 1) := by decide +kernel
theorem dX6_ofSitting_21 : decode cX6_ofSitting 21 = .ok (.iaload, 1) := by decide +kernel
theorem dX6_ofSitting_22 : decode cX6_ofSitting 22 = .ok (.invokestatic 140, 3) := by decide +kernel
theorem dX6_ofSitting_25 : decode cX6_ofSitting 25 = .ok (.iadd, 1) := by decide +kernel
theorem dX6_ofSitting_26 : decode cX6_ofSitting 26 = .ok (.istore_n 2, 1) := by decide +kernel
theorem dX6_ofSitting_27 : decode cX6_ofSitting 27 = .ok (.iinc 3 1, 3) := by decide +kernel
theorem dX6_ofSitting_30 : decode cX6_ofSitting 30 = .ok (.goto (-26), 3) := by decide +kernel
theorem dX6_ofSitting_33 : decode cX6_ofSitting 33 = .ok (.aload_n 0, 1) := by decide +kernel
theorem dX6_ofSitting_34 : decode cX6_ofSitting 34 = .ok (.getfield 12, 3) := by decide +kernel
theorem dX6_ofSitting_37 : decode cX6_ofSitting 37 = .ok (.iload_n 2, 1) := by decide +kernel
theorem dX6_ofSitting_38 : decode cX6_ofSitting 38 = .ok (.invokevirtual 145, 3) := by decide +kernel
theorem dX6_ofSitting_41 : decode cX6_ofSitting 41 = .ok (.istore_n 3, 1) := by decide +kernel
theorem dX6_ofSitting_42 : decode cX6_ofSitting 42 = .ok (.iload_n 1, 1) := by decide +kernel
theorem dX6_ofSitting_43 : decode cX6_ofSitting 43 = .ok (.iconst 1, 1) := by decide +kernel
theorem dX6_ofSitting_44 : decode cX6_ofSitting 44 = .ok (.if_icmp .ne 5, 3) := by decide +kernel
theorem dX6_ofSitting_47 : decode cX6_ofSitting 47 = .ok (.iload_n 3, 1) := by decide +kernel
theorem dX6_ofSitting_48 : decode cX6_ofSitting 48 = .ok (.ireturn, 1) := by decide +kernel
theorem dX6_ofSitting_49 : decode cX6_ofSitting 49 = .ok (.iload_n 3, 1) := by decide +kernel
theorem dX6_ofSitting_50 : decode cX6_ofSitting 50 = .ok (.bipush (-9), 2) := by decide +kernel
theorem dX6_ofSitting_52 : decode cX6_ofSitting 52 = .ok (.if_icmp .eq 8, 3) := by decide +kernel
theorem dX6_ofSitting_55 : decode cX6_ofSitting 55 = .ok (.bipush (-100), 2) := by decide +kernel
theorem dX6_ofSitting_57 : decode cX6_ofSitting 57 = .ok (.iload_n 3, 1) := by decide +kernel
theorem dX6_ofSitting_58 : decode cX6_ofSitting 58 = .ok (.isub, 1) := by decide +kernel
theorem dX6_ofSitting_59 : decode cX6_ofSitting 59 = .ok (.ireturn, 1) := by decide +kernel
theorem dX6_ofSitting_60 : decode cX6_ofSitting 60 = .ok (.iload_n 1, 1) := by decide +kernel
theorem dX6_ofSitting_61 : decode cX6_ofSitting 61 = .ok (.bipush 20, 2) := by decide +kernel
theorem dX6_ofSitting_63 : decode cX6_ofSitting 63 = .ok (.if_icmp .lt 51, 3) := by decide +kernel
theorem dX6_ofSitting_66 : decode cX6_ofSitting 66 = .ok (.iload_n 1, 1) := by decide +kernel
theorem dX6_ofSitting_67 : decode cX6_ofSitting 67 = .ok (.bipush 20, 2) := by decide +kernel
theorem dX6_ofSitting_69 : decode cX6_ofSitting 69 = .ok (.isub, 1) := by decide +kernel
theorem dX6_ofSitting_70 : decode cX6_ofSitting 70 = .ok (.istore 4, 2) := by decide +kernel
theorem dX6_ofSitting_72 : decode cX6_ofSitting 72 = .ok (.aload_n 0, 1) := by decide +kernel
theorem dX6_ofSitting_73 : decode cX6_ofSitting 73 = .ok (.getfield 12, 3) := by decide +kernel
theorem dX6_ofSitting_76 : decode cX6_ofSitting 76 = .ok (.iload 4, 2) := by decide +kernel
theorem dX6_ofSitting_78 : decode cX6_ofSitting 78 = .ok (.invokevirtual 72, 3) := by decide +kernel
theorem dX6_ofSitting_81 : decode cX6_ofSitting 81 = .ok (.ifCond .eq 30, 3) := by decide +kernel
theorem dX6_ofSitting_84 : decode cX6_ofSitting 84 = .ok (.aload_n 0, 1) := by decide +kernel
theorem dX6_ofSitting_85 : decode cX6_ofSitting 85 = .ok (.getfield 12, 3) := by decide +kernel
theorem dX6_ofSitting_88 : decode cX6_ofSitting 88 = .ok (.aload_n 0, 1) := by decide +kernel
theorem dX6_ofSitting_89 : decode cX6_ofSitting 89 = .ok (.getfield 12, 3) := by decide +kernel
theorem dX6_ofSitting_92 : decode cX6_ofSitting 92 = .ok (.getfield 75, 3) := by decide +kernel
theorem dX6_ofSitting_95 : decode cX6_ofSitting 95 = .ok (.iload 4, 2) := by decide +kernel
theorem dX6_ofSitting_97 : decode cX6_ofSitting 97 = .ok (.aaload, 1) := by decide +kernel
theorem dX6_ofSitting_98 : decode cX6_ofSitting 98 = .ok (.aload_n 0, 1) := by decide +kernel
theorem dX6_ofSitting_99 : decode cX6_ofSitting 99 = .ok (.getfield 31, 3) := by decide +kernel
theorem dX6_ofSitting_102 : decode cX6_ofSitting 102 = .ok (.iload 4, 2) := by decide +kernel
theorem dX6_ofSitting_104 : decode cX6_ofSitting 104 = .ok (.iaload, 1) := by decide +kernel
theorem dX6_ofSitting_105 : decode cX6_ofSitting 105 = .ok (.invokevirtual 123, 3) := by decide +kernel
theorem dX6_ofSitting_108 : decode cX6_ofSitting 108 = .ok (.goto 5, 3) := by decide +kernel
theorem dX6_ofSitting_111 : decode cX6_ofSitting 111 = .ok (.bipush (-9), 2) := by decide +kernel
theorem dX6_ofSitting_113 : decode cX6_ofSitting 113 = .ok (.ireturn, 1) := by decide +kernel
theorem dX6_ofSitting_114 : decode cX6_ofSitting 114 = .ok (.iload_n 1, 1) := by decide +kernel
theorem dX6_ofSitting_115 : decode cX6_ofSitting 115 = .ok (.bipush 10, 2) := by decide +kernel
theorem dX6_ofSitting_117 : decode cX6_ofSitting 117 = .ok (.if_icmp .lt 33, 3) := by decide +kernel
theorem dX6_ofSitting_120 : decode cX6_ofSitting 120 = .ok (.iload_n 1, 1) := by decide +kernel
theorem dX6_ofSitting_121 : decode cX6_ofSitting 121 = .ok (.bipush 10, 2) := by decide +kernel
theorem dX6_ofSitting_123 : decode cX6_ofSitting 123 = .ok (.isub, 1) := by decide +kernel
theorem dX6_ofSitting_124 : decode cX6_ofSitting 124 = .ok (.istore 4, 2) := by decide +kernel
theorem dX6_ofSitting_126 : decode cX6_ofSitting 126 = .ok (.aload_n 0, 1) := by decide +kernel
theorem dX6_ofSitting_127 : decode cX6_ofSitting 127 = .ok (.getfield 12, 3) := by decide +kernel
theorem dX6_ofSitting_130 : decode cX6_ofSitting 130 = .ok (.iload 4, 2) := by decide +kernel
theorem dX6_ofSitting_132 : decode cX6_ofSitting 132 = .ok (.invokevirtual 100, 3) := by decide +kernel
theorem dX6_ofSitting_135 : decode cX6_ofSitting 135 = .ok (.ifCond .eq 12, 3) := by decide +kernel
theorem dX6_ofSitting_138 : decode cX6_ofSitting 138 = .ok (.iload_n 2, 1) := by decide +kernel
theorem dX6_ofSitting_139 : decode cX6_ofSitting 139 = .ok (.iload 4, 2) := by decide +kernel
theorem dX6_ofSitting_141 : decode cX6_ofSitting 141 = .ok (.invokestatic 148, 3) := by decide +kernel
theorem dX6_ofSitting_144 : decode cX6_ofSitting 144 = .ok (.goto 5, 3) := by decide +kernel
theorem dX6_ofSitting_147 : decode cX6_ofSitting 147 = .ok (.bipush (-9), 2) := by decide +kernel
theorem dX6_ofSitting_149 : decode cX6_ofSitting 149 = .ok (.ireturn, 1) := by decide +kernel
theorem dX6_ofSitting_150 : decode cX6_ofSitting 150 = .ok (.iload_n 1, 1) := by decide +kernel
theorem dX6_ofSitting_151 : decode cX6_ofSitting 151 = .ok (.iconst 3, 1) := by decide +kernel
theorem dX6_ofSitting_152 : decode cX6_ofSitting 152 = .ok (.if_icmp .ne 8, 3) := by decide +kernel
theorem dX6_ofSitting_155 : decode cX6_ofSitting 155 = .ok (.aload_n 0, 1) := by decide +kernel
theorem dX6_ofSitting_156 : decode cX6_ofSitting 156 = .ok (.invokevirtual 151, 3) := by decide +kernel
theorem dX6_ofSitting_159 : decode cX6_ofSitting 159 = .ok (.ireturn, 1) := by decide +kernel
theorem dX6_ofSitting_160 : decode cX6_ofSitting 160 = .ok (.iload_n 1, 1) := by decide +kernel
theorem dX6_ofSitting_161 : decode cX6_ofSitting 161 = .ok (.ifCond .ne 13, 3) := by decide +kernel
theorem dX6_ofSitting_164 : decode cX6_ofSitting 164 = .ok (.aload_n 0, 1) := by decide +kernel
theorem dX6_ofSitting_165 : decode cX6_ofSitting 165 = .ok (.invokevirtual 154, 3) := by decide +kernel
theorem dX6_ofSitting_168 : decode cX6_ofSitting 168 = .ok (.invokestatic 157, 3) := by decide +kernel
theorem dX6_ofSitting_171 : decode cX6_ofSitting 171 = .ok (.goto 7, 3) := by decide +kernel
theorem dX6_ofSitting_174 : decode cX6_ofSitting 174 = .ok (.aload_n 0, 1) := by decide +kernel
theorem dX6_ofSitting_175 : decode cX6_ofSitting 175 = .ok (.invokevirtual 154, 3) := by decide +kernel
theorem dX6_ofSitting_178 : decode cX6_ofSitting 178 = .ok (.ireturn, 1) := by decide +kernel
theorem dX6_rightOnes_0 : decode cX6_rightOnes 0 = .ok (.iconst 0, 1) := by decide +kernel
theorem dX6_rightOnes_1 : decode cX6_rightOnes 1 = .ok (.istore_n 1, 1) := by decide +kernel
theorem dX6_rightOnes_2 : decode cX6_rightOnes 2 = .ok (.iconst 0, 1) := by decide +kernel
theorem dX6_rightOnes_3 : decode cX6_rightOnes 3 = .ok (.istore_n 2, 1) := by decide +kernel
theorem dX6_rightOnes_4 : decode cX6_rightOnes 4 = .ok (.iload_n 2, 1) := by decide +kernel
theorem dX6_rightOnes_5 : decode cX6_rightOnes 5 = .ok (.aload_n 0, 1) := by decide +kernel
theorem dX6_rightOnes_6 : decode cX6_rightOnes 6 = .ok (.getfield 12, 3) := by decide +kernel
theorem dX6_rightOnes_9 : decode cX6_rightOnes 9 = .ok (.getfield 71, 3) := by decide +kernel
theorem dX6_rightOnes_12 : decode cX6_rightOnes 12 = .ok (.if_icmp .ge 40, 3) := by decide +kernel
theorem dX6_rightOnes_15 : decode cX6_rightOnes 15 = .ok (.aload_n 0, 1) := by decide +kernel
theorem dX6_rightOnes_16 : decode cX6_rightOnes 16 = .ok (.getfield 12, 3) := by decide +kernel
theorem dX6_rightOnes_19 : decode cX6_rightOnes 19 = .ok (.aload_n 0, 1) := by decide +kernel
theorem dX6_rightOnes_20 : decode cX6_rightOnes 20 = .ok (.getfield 12, 3) := by decide +kernel
theorem dX6_rightOnes_23 : decode cX6_rightOnes 23 = .ok (.getfield 75, 3) := by decide +kernel
theorem dX6_rightOnes_26 : decode cX6_rightOnes 26 = .ok (.iload_n 2, 1) := by decide +kernel
theorem dX6_rightOnes_27 : decode cX6_rightOnes 27 = .ok (.aaload, 1) := by decide +kernel
theorem dX6_rightOnes_28 : decode cX6_rightOnes 28 = .ok (.aload_n 0, 1) := by decide +kernel
theorem dX6_rightOnes_29 : decode cX6_rightOnes 29 = .ok (.getfield 31, 3) := by decide +kernel
theorem dX6_rightOnes_32 : decode cX6_rightOnes 32 = .ok (.iload_n 2, 1) := by decide +kernel
theorem dX6_rightOnes_33 : decode cX6_rightOnes 33 = .ok (.iaload, 1) := by decide +kernel
theorem dX6_rightOnes_34 : decode cX6_rightOnes 34 = .ok (.invokevirtual 162, 3) := by decide +kernel
theorem dX6_rightOnes_37 : decode cX6_rightOnes 37 = .ok (.ifCond .eq 9, 3) := by decide +kernel
theorem dX6_rightOnes_40 : decode cX6_rightOnes 40 = .ok (.iload_n 1, 1) := by decide +kernel
theorem dX6_rightOnes_41 : decode cX6_rightOnes 41 = .ok (.iconst 1, 1) := by decide +kernel
theorem dX6_rightOnes_42 : decode cX6_rightOnes 42 = .ok (.iload_n 2, 1) := by decide +kernel
theorem dX6_rightOnes_43 : decode cX6_rightOnes 43 = .ok (.ishl, 1) := by decide +kernel
theorem dX6_rightOnes_44 : decode cX6_rightOnes 44 = .ok (.ior, 1) := by decide +kernel
theorem dX6_rightOnes_45 : decode cX6_rightOnes 45 = .ok (.istore_n 1, 1) := by decide +kernel
theorem dX6_rightOnes_46 : decode cX6_rightOnes 46 = .ok (.iinc 2 1, 3) := by decide +kernel
theorem dX6_rightOnes_49 : decode cX6_rightOnes 49 = .ok (.goto (-45), 3) := by decide +kernel
theorem dX6_rightOnes_52 : decode cX6_rightOnes 52 = .ok (.iload_n 1, 1) := by decide +kernel
theorem dX6_rightOnes_53 : decode cX6_rightOnes 53 = .ok (.ireturn, 1) := by decide +kernel
theorem dX6_eldest_0 : decode cX6_eldest 0 = .ok (.iconst 0, 1) := by decide +kernel
theorem dX6_eldest_1 : decode cX6_eldest 1 = .ok (.istore_n 1, 1) := by decide +kernel
theorem dX6_eldest_2 : decode cX6_eldest 2 = .ok (.bipush (-9), 2) := by decide +kernel
theorem dX6_eldest_4 : decode cX6_eldest 4 = .ok (.istore_n 2, 1) := by decide +kernel
theorem dX6_eldest_5 : decode cX6_eldest 5 = .ok (.iconst 0, 1) := by decide +kernel
theorem dX6_eldest_6 : decode cX6_eldest 6 = .ok (.istore_n 3, 1) := by decide +kernel
theorem dX6_eldest_7 : decode cX6_eldest 7 = .ok (.iload_n 3, 1) := by decide +kernel
theorem dX6_eldest_8 : decode cX6_eldest 8 = .ok (.aload_n 0, 1) := by decide +kernel
theorem dX6_eldest_9 : decode cX6_eldest 9 = .ok (.getfield 12, 3) := by decide +kernel
theorem dX6_eldest_12 : decode cX6_eldest 12 = .ok (.getfield 71, 3) := by decide +kernel
theorem dX6_eldest_15 : decode cX6_eldest 15 = .ok (.if_icmp .ge 44, 3) := by decide +kernel
theorem dX6_eldest_18 : decode cX6_eldest 18 = .ok (.aload_n 0, 1) := by decide +kernel
theorem dX6_eldest_19 : decode cX6_eldest 19 = .ok (.getfield 12, 3) := by decide +kernel
theorem dX6_eldest_22 : decode cX6_eldest 22 = .ok (.aload_n 0, 1) := by decide +kernel
theorem dX6_eldest_23 : decode cX6_eldest 23 = .ok (.getfield 12, 3) := by decide +kernel
theorem dX6_eldest_26 : decode cX6_eldest 26 = .ok (.getfield 75, 3) := by decide +kernel
theorem dX6_eldest_29 : decode cX6_eldest 29 = .ok (.iload_n 3, 1) := by decide +kernel
theorem dX6_eldest_30 : decode cX6_eldest 30 = .ok (.aaload, 1) := by decide +kernel
theorem dX6_eldest_31 : decode cX6_eldest 31 = .ok (.aload_n 0, 1) := by decide +kernel
theorem dX6_eldest_32 : decode cX6_eldest 32 = .ok (.getfield 31, 3) := by decide +kernel
theorem dX6_eldest_35 : decode cX6_eldest 35 = .ok (.iload_n 3, 1) := by decide +kernel
theorem dX6_eldest_36 : decode cX6_eldest 36 = .ok (.iaload, 1) := by decide +kernel
theorem dX6_eldest_37 : decode cX6_eldest 37 = .ok (.invokevirtual 123, 3) := by decide +kernel
theorem dX6_eldest_40 : decode cX6_eldest 40 = .ok (.istore 4, 2) := by decide +kernel
theorem dX6_eldest_42 : decode cX6_eldest 42 = .ok (.iload 4, 2) := by decide +kernel
theorem dX6_eldest_44 : decode cX6_eldest 44 = .ok (.iload_n 2, 1) := by decide +kernel
theorem dX6_eldest_45 : decode cX6_eldest 45 = .ok (.if_icmp .le 8, 3) := by decide +kernel
theorem dX6_eldest_48 : decode cX6_eldest 48 = .ok (.iload_n 3, 1) := by decide +kernel
theorem dX6_eldest_49 : decode cX6_eldest 49 = .ok (.istore_n 1, 1) := by decide +kernel
theorem dX6_eldest_50 : decode cX6_eldest 50 = .ok (.iload 4, 2) := by decide +kernel
theorem dX6_eldest_52 : decode cX6_eldest 52 = .ok (.istore_n 2, 1) := by decide +kernel
theorem dX6_eldest_53 : decode cX6_eldest 53 = .ok (.iinc 3 1, 3) := by decide +kernel
theorem dX6_eldest_56 : decode cX6_eldest 56 = .ok (.goto (-49), 3) := by decide +kernel
theorem dX6_eldest_59 : decode cX6_eldest 59 = .ok (.iload_n 1, 1) := by decide +kernel
theorem dX6_eldest_60 : decode cX6_eldest 60 = .ok (.ireturn, 1) := by decide +kernel
theorem dX6_way_0 : decode cX6_way 0 = .ok (.aload_n 0, 1) := by decide +kernel
theorem dX6_way_1 : decode cX6_way 1 = .ok (.getfield 12, 3) := by decide +kernel
theorem dX6_way_4 : decode cX6_way 4 = .ok (.iload_n 1, 1) := by decide +kernel
theorem dX6_way_5 : decode cX6_way 5 = .ok (.invokevirtual 72, 3) := by decide +kernel
theorem dX6_way_8 : decode cX6_way 8 = .ok (.ifCond .ne 5, 3) := by decide +kernel
theorem dX6_way_11 : decode cX6_way 11 = .ok (.iconst (-1), 1) := by decide +kernel
theorem dX6_way_12 : decode cX6_way 12 = .ok (.ireturn, 1) := by decide +kernel
theorem dX6_way_13 : decode cX6_way 13 = .ok (.iload_n 2, 1) := by decide +kernel
theorem dX6_way_14 : decode cX6_way 14 = .ok (.sipush 199, 3) := by decide +kernel
theorem dX6_way_17 : decode cX6_way 17 = .ok (.invokestatic 106, 3) := by decide +kernel
theorem dX6_way_20 : decode cX6_way 20 = .ok (.ifCond .ne 6, 3) := by decide +kernel
theorem dX6_way_23 : decode cX6_way 23 = .ok (.bipush (-2), 2) := by decide +kernel
theorem dX6_way_25 : decode cX6_way 25 = .ok (.ireturn, 1) := by decide +kernel
theorem dX6_way_26 : decode cX6_way 26 = .ok (.aload_n 0, 1) := by decide +kernel
theorem dX6_way_27 : decode cX6_way 27 = .ok (.getfield 12, 3) := by decide +kernel
theorem dX6_way_30 : decode cX6_way 30 = .ok (.getfield 75, 3) := by decide +kernel
theorem dX6_way_33 : decode cX6_way 33 = .ok (.iload_n 1, 1) := by decide +kernel
theorem dX6_way_34 : decode cX6_way 34 = .ok (.aaload, 1) := by decide +kernel
theorem dX6_way_35 : decode cX6_way 35 = .ok (.astore_n 3, 1) := by decide +kernel
theorem dX6_way_36 : decode cX6_way 36 = .ok (.bipush (-9), 2) := by decide +kernel
theorem dX6_way_38 : decode cX6_way 38 = .ok (.istore 4, 2) := by decide +kernel
theorem dX6_way_40 : decode cX6_way 40 = .ok (.iconst 0, 1) := by decide +kernel
theorem dX6_way_41 : decode cX6_way 41 = .ok (.istore 5, 2) := by decide +kernel
theorem dX6_way_43 : decode cX6_way 43 = .ok (.iload 5, 2) := by decide +kernel
theorem dX6_way_45 : decode cX6_way 45 = .ok (.aload_n 3, 1) := by decide +kernel
theorem dX6_way_46 : decode cX6_way 46 = .ok (.invokevirtual 96, 3) := by decide +kernel
theorem dX6_way_49 : decode cX6_way 49 = .ok (.if_icmp .gt 60, 3) := by decide +kernel
theorem dX6_way_52 : decode cX6_way 52 = .ok (.aload_n 0, 1) := by decide +kernel
theorem dX6_way_53 : decode cX6_way 53 = .ok (.getfield 12, 3) := by decide +kernel
theorem dX6_way_56 : decode cX6_way 56 = .ok (.aload_n 3, 1) := by decide +kernel
theorem dX6_way_57 : decode cX6_way 57 = .ok (.iload 5, 2) := by decide +kernel
theorem dX6_way_59 : decode cX6_way 59 = .ok (.invokevirtual 166, 3) := by decide +kernel
theorem dX6_way_62 : decode cX6_way 62 = .ok (.ifCond .eq 41, 3) := by decide +kernel
theorem dX6_way_65 : decode cX6_way 65 = .ok (.aload_n 0, 1) := by decide +kernel
theorem dX6_way_66 : decode cX6_way 66 = .ok (.getfield 12, 3) := by decide +kernel
theorem dX6_way_69 : decode cX6_way 69 = .ok (.aload_n 3, 1) := by decide +kernel
theorem dX6_way_70 : decode cX6_way 70 = .ok (.iload 5, 2) := by decide +kernel
theorem dX6_way_72 : decode cX6_way 72 = .ok (.invokevirtual 123, 3) := by decide +kernel
theorem dX6_way_75 : decode cX6_way 75 = .ok (.iload_n 2, 1) := by decide +kernel
theorem dX6_way_76 : decode cX6_way 76 = .ok (.if_icmp .ne 27, 3) := by decide +kernel
theorem dX6_way_79 : decode cX6_way 79 = .ok (.iload 4, 2) := by decide +kernel
theorem dX6_way_81 : decode cX6_way 81 = .ok (.bipush (-9), 2) := by decide +kernel
theorem dX6_way_83 : decode cX6_way 83 = .ok (.if_icmp .eq 16, 3) := by decide +kernel
theorem dX6_way_86 : decode cX6_way 86 = .ok (.iload 5, 2) := by decide +kernel
theorem dX6_way_88 : decode cX6_way 88 = .ok (.invokestatic 157, 3) := by decide +kernel
theorem dX6_way_91 : decode cX6_way 91 = .ok (.iload 4, 2) := by decide +kernel
theorem dX6_way_93 : decode cX6_way 93 = .ok (.invokestatic 157, 3) := by decide +kernel
theorem dX6_way_96 : decode cX6_way 96 = .ok (.if_icmp .ge 7, 3) := by decide +kernel
theorem dX6_way_99 : decode cX6_way 99 = .ok (.iload 5, 2) := by decide +kernel
theorem dX6_way_101 : decode cX6_way 101 = .ok (.istore 4, 2) := by decide +kernel
theorem dX6_way_103 : decode cX6_way 103 = .ok (.iinc 5 1, 3) := by decide +kernel
theorem dX6_way_106 : decode cX6_way 106 = .ok (.goto (-63), 3) := by decide +kernel
theorem dX6_way_109 : decode cX6_way 109 = .ok (.iload 4, 2) := by decide +kernel
theorem dX6_way_111 : decode cX6_way 111 = .ok (.ireturn, 1) := by decide +kernel
theorem dX6_spread_0 : decode cX6_spread 0 = .ok (.aload_n 0, 1) := by decide +kernel
theorem dX6_spread_1 : decode cX6_spread 1 = .ok (.getfield 12, 3) := by decide +kernel
theorem dX6_spread_4 : decode cX6_spread 4 = .ok (.iload_n 1, 1) := by decide +kernel
theorem dX6_spread_5 : decode cX6_spread 5 = .ok (.invokevirtual 72, 3) := by decide +kernel
theorem dX6_spread_8 : decode cX6_spread 8 = .ok (.ifCond .ne 5, 3) := by decide +kernel
theorem dX6_spread_11 : decode cX6_spread 11 = .ok (.iconst (-1), 1) := by decide +kernel
theorem dX6_spread_12 : decode cX6_spread 12 = .ok (.ireturn, 1) := by decide +kernel
theorem dX6_spread_13 : decode cX6_spread 13 = .ok (.aload_n 0, 1) := by decide +kernel
theorem dX6_spread_14 : decode cX6_spread 14 = .ok (.getfield 12, 3) := by decide +kernel
theorem dX6_spread_17 : decode cX6_spread 17 = .ok (.getfield 75, 3) := by decide +kernel
theorem dX6_spread_20 : decode cX6_spread 20 = .ok (.iload_n 1, 1) := by decide +kernel
theorem dX6_spread_21 : decode cX6_spread 21 = .ok (.aaload, 1) := by decide +kernel
theorem dX6_spread_22 : decode cX6_spread 22 = .ok (.astore_n 2, 1) := by decide +kernel
theorem dX6_spread_23 : decode cX6_spread 23 = .ok (.iconst 0, 1) := by decide +kernel
theorem dX6_spread_24 : decode cX6_spread 24 = .ok (.istore_n 3, 1) := by decide +kernel
theorem dX6_spread_25 : decode cX6_spread 25 = .ok (.iconst 0, 1) := by decide +kernel
theorem dX6_spread_26 : decode cX6_spread 26 = .ok (.istore 4, 2) := by decide +kernel
theorem dX6_spread_28 : decode cX6_spread 28 = .ok (.iload 4, 2) := by decide +kernel
theorem dX6_spread_30 : decode cX6_spread 30 = .ok (.aload_n 2, 1) := by decide +kernel
theorem dX6_spread_31 : decode cX6_spread 31 = .ok (.invokevirtual 96, 3) := by decide +kernel
theorem dX6_spread_34 : decode cX6_spread 34 = .ok (.if_icmp .gt 42, 3) := by decide +kernel
theorem dX6_spread_37 : decode cX6_spread 37 = .ok (.aload_n 0, 1) := by decide +kernel
theorem dX6_spread_38 : decode cX6_spread 38 = .ok (.getfield 12, 3) := by decide +kernel
theorem dX6_spread_41 : decode cX6_spread 41 = .ok (.aload_n 2, 1) := by decide +kernel
theorem dX6_spread_42 : decode cX6_spread 42 = .ok (.iload 4, 2) := by decide +kernel
theorem dX6_spread_44 : decode cX6_spread 44 = .ok (.invokevirtual 166, 3) := by decide +kernel
theorem dX6_spread_47 : decode cX6_spread 47 = .ok (.ifCond .eq 23, 3) := by decide +kernel
theorem dX6_spread_50 : decode cX6_spread 50 = .ok (.iload_n 3, 1) := by decide +kernel
theorem dX6_spread_51 : decode cX6_spread 51 = .ok (.iconst 1, 1) := by decide +kernel
theorem dX6_spread_52 : decode cX6_spread 52 = .ok (.aload_n 0, 1) := by decide +kernel
theorem dX6_spread_53 : decode cX6_spread 53 = .ok (.getfield 12, 3) := by decide +kernel
theorem dX6_spread_56 : decode cX6_spread 56 = .ok (.aload_n 2, 1) := by decide +kernel
theorem dX6_spread_57 : decode cX6_spread 57 = .ok (.iload 4, 2) := by decide +kernel
theorem dX6_spread_59 : decode cX6_spread 59 = .ok (.invokevirtual 123, 3) := by decide +kernel
theorem dX6_spread_62 : decode cX6_spread 62 = .ok (.aload_n 2, 1) := by decide +kernel
theorem dX6_spread_63 : decode cX6_spread 63 = .ok (.getfield 90, 3) := by decide +kernel
theorem dX6_spread_66 : decode cX6_spread 66 = .ok (.isub, 1) := by decide +kernel
theorem dX6_spread_67 : decode cX6_spread 67 = .ok (.ishl, 1) := by decide +kernel
theorem dX6_spread_68 : decode cX6_spread 68 = .ok (.ior, 1) := by decide +kernel
theorem dX6_spread_69 : decode cX6_spread 69 = .ok (.istore_n 3, 1) := by decide +kernel
theorem dX6_spread_70 : decode cX6_spread 70 = .ok (.iinc 4 1, 3) := by decide +kernel
theorem dX6_spread_73 : decode cX6_spread 73 = .ok (.goto (-45), 3) := by decide +kernel
theorem dX6_spread_76 : decode cX6_spread 76 = .ok (.iload_n 3, 1) := by decide +kernel
theorem dX6_spread_77 : decode cX6_spread 77 = .ok (.invokestatic 157, 3) := by decide +kernel
theorem dX6_spread_80 : decode cX6_spread 80 = .ok (.ireturn, 1) := by decide +kernel
theorem dX6_agree_0 : decode cX6_agree 0 = .ok (.aload_n 0, 1) := by decide +kernel
theorem dX6_agree_1 : decode cX6_agree 1 = .ok (.getfield 12, 3) := by decide +kernel
theorem dX6_agree_4 : decode cX6_agree 4 = .ok (.iload_n 1, 1) := by decide +kernel
theorem dX6_agree_5 : decode cX6_agree 5 = .ok (.invokevirtual 72, 3) := by decide +kernel
theorem dX6_agree_8 : decode cX6_agree 8 = .ok (.ifCond .eq 19, 3) := by decide +kernel
theorem dX6_agree_11 : decode cX6_agree 11 = .ok (.aload_n 0, 1) := by decide +kernel
theorem dX6_agree_12 : decode cX6_agree 12 = .ok (.getfield 12, 3) := by decide +kernel
theorem dX6_agree_15 : decode cX6_agree 15 = .ok (.iload_n 2, 1) := by decide +kernel
theorem dX6_agree_16 : decode cX6_agree 16 = .ok (.invokevirtual 72, 3) := by decide +kernel
theorem dX6_agree_19 : decode cX6_agree 19 = .ok (.ifCond .eq 8, 3) := by decide +kernel
theorem dX6_agree_22 : decode cX6_agree 22 = .ok (.iload_n 1, 1) := by decide +kernel
theorem dX6_agree_23 : decode cX6_agree 23 = .ok (.iload_n 2, 1) := by decide +kernel
theorem dX6_agree_24 : decode cX6_agree 24 = .ok (.if_icmp .ne 5, 3) := by decide +kernel
theorem dX6_agree_27 : decode cX6_agree 27 = .ok (.iconst (-1), 1) := by decide +kernel
theorem dX6_agree_28 : decode cX6_agree 28 = .ok (.ireturn, 1) := by decide +kernel
theorem dX6_agree_29 : decode cX6_agree 29 = .ok (.iload_n 3, 1) := by decide +kernel
theorem dX6_agree_30 : decode cX6_agree 30 = .ok (.iconst 2, 1) := by decide +kernel
theorem dX6_agree_31 : decode cX6_agree 31 = .ok (.invokestatic 106, 3) := by decide +kernel
theorem dX6_agree_34 : decode cX6_agree 34 = .ok (.ifCond .ne 6, 3) := by decide +kernel
theorem dX6_agree_37 : decode cX6_agree 37 = .ok (.bipush (-2), 2) := by decide +kernel
theorem dX6_agree_39 : decode cX6_agree 39 = .ok (.ireturn, 1) := by decide +kernel
theorem dX6_agree_40 : decode cX6_agree 40 = .ok (.aload_n 0, 1) := by decide +kernel
theorem dX6_agree_41 : decode cX6_agree 41 = .ok (.getfield 12, 3) := by decide +kernel
theorem dX6_agree_44 : decode cX6_agree 44 = .ok (.aload_n 0, 1) := by decide +kernel
theorem dX6_agree_45 : decode cX6_agree 45 = .ok (.getfield 12, 3) := by decide +kernel
theorem dX6_agree_48 : decode cX6_agree 48 = .ok (.getfield 75, 3) := by decide +kernel
theorem dX6_agree_51 : decode cX6_agree 51 = .ok (.iload_n 1, 1) := by decide +kernel
theorem dX6_agree_52 : decode cX6_agree 52 = .ok (.aaload, 1) := by decide +kernel
theorem dX6_agree_53 : decode cX6_agree 53 = .ok (.aload_n 0, 1) := by decide +kernel
theorem dX6_agree_54 : decode cX6_agree 54 = .ok (.getfield 12, 3) := by decide +kernel
theorem dX6_agree_57 : decode cX6_agree 57 = .ok (.getfield 75, 3) := by decide +kernel
theorem dX6_agree_60 : decode cX6_agree 60 = .ok (.iload_n 2, 1) := by decide +kernel
theorem dX6_agree_61 : decode cX6_agree 61 = .ok (.aaload, 1) := by decide +kernel
theorem dX6_agree_62 : decode cX6_agree 62 = .ok (.invokevirtual 169, 3) := by decide +kernel
theorem dX6_agree_65 : decode cX6_agree 65 = .ok (.istore 4, 2) := by decide +kernel
theorem dX6_agree_67 : decode cX6_agree 67 = .ok (.iload 4, 2) := by decide +kernel
theorem dX6_agree_69 : decode cX6_agree 69 = .ok (.bipush (-9), 2) := by decide +kernel
theorem dX6_agree_71 : decode cX6_agree 71 = .ok (.if_icmp .ne 6, 3) := by decide +kernel
theorem dX6_agree_74 : decode cX6_agree 74 = .ok (.bipush (-9), 2) := by decide +kernel
theorem dX6_agree_76 : decode cX6_agree 76 = .ok (.ireturn, 1) := by decide +kernel
theorem dX6_agree_77 : decode cX6_agree 77 = .ok (.iload 4, 2) := by decide +kernel
theorem dX6_agree_79 : decode cX6_agree 79 = .ok (.invokestatic 173, 3) := by decide +kernel
theorem dX6_agree_82 : decode cX6_agree 82 = .ok (.istore 5, 2) := by decide +kernel
theorem dX6_agree_84 : decode cX6_agree 84 = .ok (.iload 4, 2) := by decide +kernel
theorem dX6_agree_86 : decode cX6_agree 86 = .ok (.invokestatic 176, 3) := by decide +kernel
theorem dX6_agree_89 : decode cX6_agree 89 = .ok (.istore 6, 2) := by decide +kernel
theorem dX6_agree_91 : decode cX6_agree 91 = .ok (.iload_n 3, 1) := by decide +kernel
theorem dX6_agree_92 : decode cX6_agree 92 = .ok (.ifCond .ne 15, 3) := by decide +kernel
theorem dX6_agree_95 : decode cX6_agree 95 = .ok (.iload 5, 2) := by decide +kernel
theorem dX6_agree_97 : decode cX6_agree 97 = .ok (.invokestatic 157, 3) := by decide +kernel
theorem dX6_agree_100 : decode cX6_agree 100 = .ok (.iload 6, 2) := by decide +kernel
theorem dX6_agree_102 : decode cX6_agree 102 = .ok (.invokestatic 157, 3) := by decide +kernel
theorem dX6_agree_105 : decode cX6_agree 105 = .ok (.iadd, 1) := by decide +kernel
theorem dX6_agree_106 : decode cX6_agree 106 = .ok (.ireturn, 1) := by decide +kernel
theorem dX6_agree_107 : decode cX6_agree 107 = .ok (.iload_n 3, 1) := by decide +kernel
theorem dX6_agree_108 : decode cX6_agree 108 = .ok (.iconst 1, 1) := by decide +kernel
theorem dX6_agree_109 : decode cX6_agree 109 = .ok (.if_icmp .ne 8, 3) := by decide +kernel
theorem dX6_agree_112 : decode cX6_agree 112 = .ok (.iload 5, 2) := by decide +kernel
theorem dX6_agree_114 : decode cX6_agree 114 = .ok (.goto 5, 3) := by decide +kernel
theorem dX6_agree_117 : decode cX6_agree 117 = .ok (.iload 6, 2) := by decide +kernel
theorem dX6_agree_119 : decode cX6_agree 119 = .ok (.ireturn, 1) := by decide +kernel
theorem dX6_most_0 : decode cX6_most 0 = .ok (.aload_n 0, 1) := by decide +kernel
theorem dX6_most_1 : decode cX6_most 1 = .ok (.getfield 12, 3) := by decide +kernel
theorem dX6_most_4 : decode cX6_most 4 = .ok (.invokevirtual 110, 3) := by decide +kernel
theorem dX6_most_7 : decode cX6_most 7 = .ok (.ifCond .eq 13, 3) := by decide +kernel
theorem dX6_most_10 : decode cX6_most 10 = .ok (.aload_n 0, 1) := by decide +kernel
theorem dX6_most_11 : decode cX6_most 11 = .ok (.getfield 12, 3) := by decide +kernel
theorem dX6_most_14 : decode cX6_most 14 = .ok (.invokevirtual 179, 3) := by decide +kernel
theorem dX6_most_17 : decode cX6_most 17 = .ok (.goto 5, 3) := by decide +kernel
theorem dX6_most_20 : decode cX6_most 20 = .ok (.bipush (-3), 2) := by decide +kernel
theorem dX6_most_22 : decode cX6_most 22 = .ok (.ireturn, 1) := by decide +kernel
theorem dX6_reading_0 : decode cX6_reading 0 = .ok (.aload_n 0, 1) := by decide +kernel
theorem dX6_reading_1 : decode cX6_reading 1 = .ok (.getfield 12, 3) := by decide +kernel
theorem dX6_reading_4 : decode cX6_reading 4 = .ok (.iload_n 1, 1) := by decide +kernel
theorem dX6_reading_5 : decode cX6_reading 5 = .ok (.invokevirtual 72, 3) := by decide +kernel
theorem dX6_reading_8 : decode cX6_reading 8 = .ok (.ifCond .ne 5, 3) := by decide +kernel
theorem dX6_reading_11 : decode cX6_reading 11 = .ok (.iconst (-1), 1) := by decide +kernel
theorem dX6_reading_12 : decode cX6_reading 12 = .ok (.ireturn, 1) := by decide +kernel
theorem dX6_reading_13 : decode cX6_reading 13 = .ok (.aload_n 0, 1) := by decide +kernel
theorem dX6_reading_14 : decode cX6_reading 14 = .ok (.getfield 12, 3) := by decide +kernel
theorem dX6_reading_17 : decode cX6_reading 17 = .ok (.getfield 75, 3) := by decide +kernel
theorem dX6_reading_20 : decode cX6_reading 20 = .ok (.iload_n 1, 1) := by decide +kernel
theorem dX6_reading_21 : decode cX6_reading 21 = .ok (.aaload, 1) := by decide +kernel
theorem dX6_reading_22 : decode cX6_reading 22 = .ok (.iload_n 2, 1) := by decide +kernel
theorem dX6_reading_23 : decode cX6_reading 23 = .ok (.invokevirtual 120, 3) := by decide +kernel
theorem dX6_reading_26 : decode cX6_reading 26 = .ok (.ifCond .eq 13, 3) := by decide +kernel
theorem dX6_reading_29 : decode cX6_reading 29 = .ok (.iload_n 3, 1) := by decide +kernel
theorem dX6_reading_30 : decode cX6_reading 30 = .ok (.sipush 199, 3) := by decide +kernel
theorem dX6_reading_33 : decode cX6_reading 33 = .ok (.invokestatic 106, 3) := by decide +kernel
theorem dX6_reading_36 : decode cX6_reading 36 = .ok (.ifCond .ne 6, 3) := by decide +kernel
theorem dX6_reading_39 : decode cX6_reading 39 = .ok (.bipush (-2), 2) := by decide +kernel
theorem dX6_reading_41 : decode cX6_reading 41 = .ok (.ireturn, 1) := by decide +kernel
theorem dX6_reading_42 : decode cX6_reading 42 = .ok (.aload_n 0, 1) := by decide +kernel
theorem dX6_reading_43 : decode cX6_reading 43 = .ok (.getfield 21, 3) := by decide +kernel
theorem dX6_reading_46 : decode cX6_reading 46 = .ok (.getfield 68, 3) := by decide +kernel
theorem dX6_reading_49 : decode cX6_reading 49 = .ok (.bipush 8, 2) := by decide +kernel
theorem dX6_reading_51 : decode cX6_reading 51 = .ok (.if_icmp .lt 6, 3) := by decide +kernel
theorem dX6_reading_54 : decode cX6_reading 54 = .ok (.bipush (-4), 2) := by decide +kernel
theorem dX6_reading_56 : decode cX6_reading 56 = .ok (.ireturn, 1) := by decide +kernel
theorem dX6_reading_57 : decode cX6_reading 57 = .ok (.aload_n 0, 1) := by decide +kernel
theorem dX6_reading_58 : decode cX6_reading 58 = .ok (.getfield 21, 3) := by decide +kernel
theorem dX6_reading_61 : decode cX6_reading 61 = .ok (.iload_n 1, 1) := by decide +kernel
theorem dX6_reading_62 : decode cX6_reading 62 = .ok (.iload_n 2, 1) := by decide +kernel
theorem dX6_reading_63 : decode cX6_reading 63 = .ok (.iload_n 3, 1) := by decide +kernel
theorem dX6_reading_64 : decode cX6_reading 64 = .ok (.invokevirtual 182, 3) := by decide +kernel
theorem dX6_reading_67 : decode cX6_reading 67 = .ok (.aload_n 0, 1) := by decide +kernel
theorem dX6_reading_68 : decode cX6_reading 68 = .ok (.getfield 21, 3) := by decide +kernel
theorem dX6_reading_71 : decode cX6_reading 71 = .ok (.getfield 68, 3) := by decide +kernel
theorem dX6_reading_74 : decode cX6_reading 74 = .ok (.iconst 1, 1) := by decide +kernel
theorem dX6_reading_75 : decode cX6_reading 75 = .ok (.isub, 1) := by decide +kernel
theorem dX6_reading_76 : decode cX6_reading 76 = .ok (.ireturn, 1) := by decide +kernel
theorem dX6_back_0 : decode cX6_back 0 = .ok (.iload_n 1, 1) := by decide +kernel
theorem dX6_back_1 : decode cX6_back 1 = .ok (.aload_n 0, 1) := by decide +kernel
theorem dX6_back_2 : decode cX6_back 2 = .ok (.getfield 21, 3) := by decide +kernel
theorem dX6_back_5 : decode cX6_back 5 = .ok (.getfield 68, 3) := by decide +kernel
theorem dX6_back_8 : decode cX6_back 8 = .ok (.invokestatic 106, 3) := by decide +kernel
theorem dX6_back_11 : decode cX6_back 11 = .ok (.ifCond .ne 6, 3) := by decide +kernel
theorem dX6_back_14 : decode cX6_back 14 = .ok (.bipush (-2), 2) := by decide +kernel
theorem dX6_back_16 : decode cX6_back 16 = .ok (.ireturn, 1) := by decide +kernel
theorem dX6_back_17 : decode cX6_back 17 = .ok (.aload_n 0, 1) := by decide +kernel
theorem dX6_back_18 : decode cX6_back 18 = .ok (.getfield 21, 3) := by decide +kernel
theorem dX6_back_21 : decode cX6_back 21 = .ok (.dup, 1) := by decide +kernel
theorem dX6_back_22 : decode cX6_back 22 = .ok (.getfield 68, 3) := by decide +kernel
theorem dX6_back_25 : decode cX6_back 25 = .ok (.iload_n 1, 1) := by decide +kernel
theorem dX6_back_26 : decode cX6_back 26 = .ok (.isub, 1) := by decide +kernel
theorem dX6_back_27 : decode cX6_back 27 = .ok (.putfield 68, 3) := by decide +kernel
theorem dX6_back_30 : decode cX6_back 30 = .ok (.aload_n 0, 1) := by decide +kernel
theorem dX6_back_31 : decode cX6_back 31 = .ok (.getfield 21, 3) := by decide +kernel
theorem dX6_back_34 : decode cX6_back 34 = .ok (.getfield 68, 3) := by decide +kernel
theorem dX6_back_37 : decode cX6_back 37 = .ok (.ireturn, 1) := by decide +kernel
theorem dX6_slopes_0 : decode cX6_slopes 0 = .ok (.aload_n 0, 1) := by decide +kernel
theorem dX6_slopes_1 : decode cX6_slopes 1 = .ok (.getfield 12, 3) := by decide +kernel
theorem dX6_slopes_4 : decode cX6_slopes 4 = .ok (.iload_n 1, 1) := by decide +kernel
theorem dX6_slopes_5 : decode cX6_slopes 5 = .ok (.invokevirtual 100, 3) := by decide +kernel
theorem dX6_slopes_8 : decode cX6_slopes 8 = .ok (.ifCond .ne 5, 3) := by decide +kernel
theorem dX6_slopes_11 : decode cX6_slopes 11 = .ok (.iconst (-1), 1) := by decide +kernel
theorem dX6_slopes_12 : decode cX6_slopes 12 = .ok (.ireturn, 1) := by decide +kernel
theorem dX6_slopes_13 : decode cX6_slopes 13 = .ok (.aload_n 0, 1) := by decide +kernel
theorem dX6_slopes_14 : decode cX6_slopes 14 = .ok (.getfield 12, 3) := by decide +kernel
theorem dX6_slopes_17 : decode cX6_slopes 17 = .ok (.getfield 103, 3) := by decide +kernel
theorem dX6_slopes_20 : decode cX6_slopes 20 = .ok (.iload_n 1, 1) := by decide +kernel
theorem dX6_slopes_21 : decode cX6_slopes 21 = .ok (.iaload, 1) := by decide +kernel
theorem dX6_slopes_22 : decode cX6_slopes 22 = .ok (.istore_n 2, 1) := by decide +kernel
theorem dX6_slopes_23 : decode cX6_slopes 23 = .ok (.iconst 0, 1) := by decide +kernel
theorem dX6_slopes_24 : decode cX6_slopes 24 = .ok (.istore_n 3, 1) := by decide +kernel
theorem dX6_slopes_25 : decode cX6_slopes 25 = .ok (.iconst 0, 1) := by decide +kernel
theorem dX6_slopes_26 : decode cX6_slopes 26 = .ok (.istore 4, 2) := by decide +kernel
theorem dX6_slopes_28 : decode cX6_slopes 28 = .ok (.iload 4, 2) := by decide +kernel
theorem dX6_slopes_30 : decode cX6_slopes 30 = .ok (.iconst 3, 1) := by decide +kernel
theorem dX6_slopes_31 : decode cX6_slopes 31 = .ok (.if_icmp .gt 41, 3) := by decide +kernel
theorem dX6_slopes_34 : decode cX6_slopes 34 = .ok (.aload_n 0, 1) := by decide +kernel
theorem dX6_slopes_35 : decode cX6_slopes 35 = .ok (.getfield 12, 3) := by decide +kernel
theorem dX6_slopes_38 : decode cX6_slopes 38 = .ok (.getfield 103, 3) := by decide +kernel
theorem dX6_slopes_41 : decode cX6_slopes 41 = .ok (.iload_n 1, 1) := by decide +kernel
theorem dX6_slopes_42 : decode cX6_slopes 42 = .ok (.iload 4, 2) := by decide +kernel
theorem dX6_slopes_44 : decode cX6_slopes 44 = .ok (.iastore, 1) := by decide +kernel
theorem dX6_slopes_45 : decode cX6_slopes 45 = .ok (.aload_n 0, 1) := by decide +kernel
theorem dX6_slopes_46 : decode cX6_slopes 46 = .ok (.getfield 21, 3) := by decide +kernel
theorem dX6_slopes_49 : decode cX6_slopes 49 = .ok (.aload_n 0, 1) := by decide +kernel
theorem dX6_slopes_50 : decode cX6_slopes 50 = .ok (.getfield 12, 3) := by decide +kernel
theorem dX6_slopes_53 : decode cX6_slopes 53 = .ok (.invokevirtual 186, 3) := by decide +kernel
theorem dX6_slopes_56 : decode cX6_slopes 56 = .ok (.ifCond .eq 10, 3) := by decide +kernel
theorem dX6_slopes_59 : decode cX6_slopes 59 = .ok (.iload_n 3, 1) := by decide +kernel
theorem dX6_slopes_60 : decode cX6_slopes 60 = .ok (.iconst 1, 1) := by decide +kernel
theorem dX6_slopes_61 : decode cX6_slopes 61 = .ok (.iload 4, 2) := by decide +kernel
theorem dX6_slopes_63 : decode cX6_slopes 63 = .ok (.ishl, 1) := by decide +kernel
theorem dX6_slopes_64 : decode cX6_slopes 64 = .ok (.ior, 1) := by decide +kernel
theorem dX6_slopes_65 : decode cX6_slopes 65 = .ok (.istore_n 3, 1) := by decide +kernel
theorem dX6_slopes_66 : decode cX6_slopes 66 = .ok (.iinc 4 1, 3) := by decide +kernel
theorem dX6_slopes_69 : decode cX6_slopes 69 = .ok (.goto (-41), 3) := by decide +kernel
theorem dX6_slopes_72 : decode cX6_slopes 72 = .ok (.aload_n 0, 1) := by decide +kernel
theorem dX6_slopes_73 : decode cX6_slopes 73 = .ok (.getfield 12, 3) := by decide +kernel
theorem dX6_slopes_76 : decode cX6_slopes 76 = .ok (.getfield 103, 3) := by decide +kernel
theorem dX6_slopes_79 : decode cX6_slopes 79 = .ok (.iload_n 1, 1) := by decide +kernel
theorem dX6_slopes_80 : decode cX6_slopes 80 = .ok (.iload_n 2, 1) := by decide +kernel
theorem dX6_slopes_81 : decode cX6_slopes 81 = .ok (.iastore, 1) := by decide +kernel
theorem dX6_slopes_82 : decode cX6_slopes 82 = .ok (.iload_n 3, 1) := by decide +kernel
theorem dX6_slopes_83 : decode cX6_slopes 83 = .ok (.ireturn, 1) := by decide +kernel
theorem dX6_kinds_0 : decode cX6_kinds 0 = .ok (.aload_n 0, 1) := by decide +kernel
theorem dX6_kinds_1 : decode cX6_kinds 1 = .ok (.getfield 12, 3) := by decide +kernel
theorem dX6_kinds_4 : decode cX6_kinds 4 = .ok (.iload_n 1, 1) := by decide +kernel
theorem dX6_kinds_5 : decode cX6_kinds 5 = .ok (.invokevirtual 72, 3) := by decide +kernel
theorem dX6_kinds_8 : decode cX6_kinds 8 = .ok (.ifCond .ne 5, 3) := by decide +kernel
theorem dX6_kinds_11 : decode cX6_kinds 11 = .ok (.iconst (-1), 1) := by decide +kernel
theorem dX6_kinds_12 : decode cX6_kinds 12 = .ok (.ireturn, 1) := by decide +kernel
theorem dX6_kinds_13 : decode cX6_kinds 13 = .ok (.aload_n 0, 1) := by decide +kernel
theorem dX6_kinds_14 : decode cX6_kinds 14 = .ok (.getfield 12, 3) := by decide +kernel
theorem dX6_kinds_17 : decode cX6_kinds 17 = .ok (.getfield 75, 3) := by decide +kernel
theorem dX6_kinds_20 : decode cX6_kinds 20 = .ok (.iload_n 1, 1) := by decide +kernel
theorem dX6_kinds_21 : decode cX6_kinds 21 = .ok (.aaload, 1) := by decide +kernel
theorem dX6_kinds_22 : decode cX6_kinds 22 = .ok (.astore_n 2, 1) := by decide +kernel
theorem dX6_kinds_23 : decode cX6_kinds 23 = .ok (.aload_n 2, 1) := by decide +kernel
theorem dX6_kinds_24 : decode cX6_kinds 24 = .ok (.getfield 79, 3) := by decide +kernel
theorem dX6_kinds_27 : decode cX6_kinds 27 = .ok (.istore_n 3, 1) := by decide +kernel
theorem dX6_kinds_28 : decode cX6_kinds 28 = .ok (.iconst 0, 1) := by decide +kernel
theorem dX6_kinds_29 : decode cX6_kinds 29 = .ok (.istore 4, 2) := by decide +kernel
theorem dX6_kinds_31 : decode cX6_kinds 31 = .ok (.iconst 0, 1) := by decide +kernel
theorem dX6_kinds_32 : decode cX6_kinds 32 = .ok (.istore 5, 2) := by decide +kernel
theorem dX6_kinds_34 : decode cX6_kinds 34 = .ok (.iload 5, 2) := by decide +kernel
theorem dX6_kinds_36 : decode cX6_kinds 36 = .ok (.iconst 2, 1) := by decide +kernel
theorem dX6_kinds_37 : decode cX6_kinds 37 = .ok (.if_icmp .gt 38, 3) := by decide +kernel
theorem dX6_kinds_40 : decode cX6_kinds 40 = .ok (.aload_n 2, 1) := by decide +kernel
theorem dX6_kinds_41 : decode cX6_kinds 41 = .ok (.iload 5, 2) := by decide +kernel
theorem dX6_kinds_43 : decode cX6_kinds 43 = .ok (.putfield 79, 3) := by decide +kernel
theorem dX6_kinds_46 : decode cX6_kinds 46 = .ok (.aload_n 0, 1) := by decide +kernel
theorem dX6_kinds_47 : decode cX6_kinds 47 = .ok (.getfield 21, 3) := by decide +kernel
theorem dX6_kinds_50 : decode cX6_kinds 50 = .ok (.aload_n 0, 1) := by decide +kernel
theorem dX6_kinds_51 : decode cX6_kinds 51 = .ok (.getfield 12, 3) := by decide +kernel
theorem dX6_kinds_54 : decode cX6_kinds 54 = .ok (.invokevirtual 186, 3) := by decide +kernel
theorem dX6_kinds_57 : decode cX6_kinds 57 = .ok (.ifCond .eq 12, 3) := by decide +kernel
theorem dX6_kinds_60 : decode cX6_kinds 60 = .ok (.iload 4, 2) := by decide +kernel
theorem dX6_kinds_62 : decode cX6_kinds 62 = .ok (.iconst 1, 1) := by decide +kernel
theorem dX6_kinds_63 : decode cX6_kinds 63 = .ok (.iload 5, 2) := by decide +kernel
theorem dX6_kinds_65 : decode cX6_kinds 65 = .ok (.ishl, 1) := by decide +kernel
theorem dX6_kinds_66 : decode cX6_kinds 66 = .ok (.ior, 1) := by decide +kernel
theorem dX6_kinds_67 : decode cX6_kinds 67 = .ok (.istore 4, 2) := by decide +kernel
theorem dX6_kinds_69 : decode cX6_kinds 69 = .ok (.iinc 5 1, 3) := by decide +kernel
theorem dX6_kinds_72 : decode cX6_kinds 72 = .ok (.goto (-38), 3) := by decide +kernel
theorem dX6_kinds_75 : decode cX6_kinds 75 = .ok (.aload_n 2, 1) := by decide +kernel
theorem dX6_kinds_76 : decode cX6_kinds 76 = .ok (.iload_n 3, 1) := by decide +kernel
theorem dX6_kinds_77 : decode cX6_kinds 77 = .ok (.putfield 79, 3) := by decide +kernel
theorem dX6_kinds_80 : decode cX6_kinds 80 = .ok (.iload 4, 2) := by decide +kernel
theorem dX6_kinds_82 : decode cX6_kinds 82 = .ok (.ireturn, 1) := by decide +kernel
theorem dX6_began_0 : decode cX6_began 0 = .ok (.aload_n 0, 1) := by decide +kernel
theorem dX6_began_1 : decode cX6_began 1 = .ok (.getfield 12, 3) := by decide +kernel
theorem dX6_began_4 : decode cX6_began 4 = .ok (.iload_n 1, 1) := by decide +kernel
theorem dX6_began_5 : decode cX6_began 5 = .ok (.invokevirtual 72, 3) := by decide +kernel
theorem dX6_began_8 : decode cX6_began 8 = .ok (.ifCond .ne 5, 3) := by decide +kernel
theorem dX6_began_11 : decode cX6_began 11 = .ok (.iconst (-1), 1) := by decide +kernel
theorem dX6_began_12 : decode cX6_began 12 = .ok (.ireturn, 1) := by decide +kernel
theorem dX6_began_13 : decode cX6_began 13 = .ok (.iload_n 2, 1) := by decide +kernel
theorem dX6_began_14 : decode cX6_began 14 = .ok (.iconst 1, 1) := by decide +kernel
theorem dX6_began_15 : decode cX6_began 15 = .ok (.invokestatic 106, 3) := by decide +kernel
theorem dX6_began_18 : decode cX6_began 18 = .ok (.ifCond .ne 6, 3) := by decide +kernel
theorem dX6_began_21 : decode cX6_began 21 = .ok (.bipush (-2), 2) := by decide +kernel
theorem dX6_began_23 : decode cX6_began 23 = .ok (.ireturn, 1) := by decide +kernel
theorem dX6_began_24 : decode cX6_began 24 = .ok (.aload_n 0, 1) := by decide +kernel
theorem dX6_began_25 : decode cX6_began 25 = .ok (.getfield 12, 3) := by decide +kernel
theorem dX6_began_28 : decode cX6_began 28 = .ok (.getfield 75, 3) := by decide +kernel
theorem dX6_began_31 : decode cX6_began 31 = .ok (.iload_n 1, 1) := by decide +kernel
theorem dX6_began_32 : decode cX6_began 32 = .ok (.aaload, 1) := by decide +kernel
theorem dX6_began_33 : decode cX6_began 33 = .ok (.astore_n 3, 1) := by decide +kernel
theorem dX6_began_34 : decode cX6_began 34 = .ok (.aload_n 3, 1) := by decide +kernel
theorem dX6_began_35 : decode cX6_began 35 = .ok (.getfield 90, 3) := by decide +kernel
theorem dX6_began_38 : decode cX6_began 38 = .ok (.istore 4, 2) := by decide +kernel
theorem dX6_began_40 : decode cX6_began 40 = .ok (.iconst 0, 1) := by decide +kernel
theorem dX6_began_41 : decode cX6_began 41 = .ok (.istore 5, 2) := by decide +kernel
theorem dX6_began_43 : decode cX6_began 43 = .ok (.bipush (-9), 2) := by decide +kernel
theorem dX6_began_45 : decode cX6_began 45 = .ok (.istore 6, 2) := by decide +kernel
theorem dX6_began_47 : decode cX6_began 47 = .ok (.bipush 79, 2) := by decide +kernel
theorem dX6_began_49 : decode cX6_began 49 = .ok (.istore 7, 2) := by decide +kernel
theorem dX6_began_51 : decode cX6_began 51 = .ok (.iload 7, 2) := by decide +kernel
theorem dX6_began_53 : decode cX6_began 53 = .ok (.ifCond .lt 36, 3) := by decide +kernel
theorem dX6_began_56 : decode cX6_began 56 = .ok (.aload_n 3, 1) := by decide +kernel
theorem dX6_began_57 : decode cX6_began 57 = .ok (.iload 7, 2) := by decide +kernel
theorem dX6_began_59 : decode cX6_began 59 = .ok (.putfield 90, 3) := by decide +kernel
theorem dX6_began_62 : decode cX6_began 62 = .ok (.aload_n 0, 1) := by decide +kernel
theorem dX6_began_63 : decode cX6_began 63 = .ok (.getfield 21, 3) := by decide +kernel
theorem dX6_began_66 : decode cX6_began 66 = .ok (.aload_n 0, 1) := by decide +kernel
theorem dX6_began_67 : decode cX6_began 67 = .ok (.getfield 12, 3) := by decide +kernel
theorem dX6_began_70 : decode cX6_began 70 = .ok (.invokevirtual 186, 3) := by decide +kernel
theorem dX6_began_73 : decode cX6_began 73 = .ok (.ifCond .eq 10, 3) := by decide +kernel
theorem dX6_began_76 : decode cX6_began 76 = .ok (.iinc 5 1, 3) := by decide +kernel
theorem dX6_began_79 : decode cX6_began 79 = .ok (.iload 7, 2) := by decide +kernel
theorem dX6_began_81 : decode cX6_began 81 = .ok (.istore 6, 2) := by decide +kernel
theorem dX6_began_83 : decode cX6_began 83 = .ok (.iinc 7 (-1), 3) := by decide +kernel
theorem dX6_began_86 : decode cX6_began 86 = .ok (.goto (-35), 3) := by decide +kernel
theorem dX6_began_89 : decode cX6_began 89 = .ok (.aload_n 3, 1) := by decide +kernel
theorem dX6_began_90 : decode cX6_began 90 = .ok (.iload 4, 2) := by decide +kernel
theorem dX6_began_92 : decode cX6_began 92 = .ok (.putfield 90, 3) := by decide +kernel
theorem dX6_began_95 : decode cX6_began 95 = .ok (.iload_n 2, 1) := by decide +kernel
theorem dX6_began_96 : decode cX6_began 96 = .ok (.ifCond .ne 8, 3) := by decide +kernel
theorem dX6_began_99 : decode cX6_began 99 = .ok (.iload 5, 2) := by decide +kernel
theorem dX6_began_101 : decode cX6_began 101 = .ok (.goto 5, 3) := by decide +kernel
theorem dX6_began_104 : decode cX6_began 104 = .ok (.iload 6, 2) := by decide +kernel
theorem dX6_began_106 : decode cX6_began 106 = .ok (.ireturn, 1) := by decide +kernel
theorem dX6_odds_0 : decode cX6_odds 0 = .ok (.aload_n 0, 1) := by decide +kernel
theorem dX6_odds_1 : decode cX6_odds 1 = .ok (.getfield 12, 3) := by decide +kernel
theorem dX6_odds_4 : decode cX6_odds 4 = .ok (.iload_n 1, 1) := by decide +kernel
theorem dX6_odds_5 : decode cX6_odds 5 = .ok (.invokevirtual 72, 3) := by decide +kernel
theorem dX6_odds_8 : decode cX6_odds 8 = .ok (.ifCond .eq 21, 3) := by decide +kernel
theorem dX6_odds_11 : decode cX6_odds 11 = .ok (.iload_n 2, 1) := by decide +kernel
theorem dX6_odds_12 : decode cX6_odds 12 = .ok (.sipush 199, 3) := by decide +kernel
theorem dX6_odds_15 : decode cX6_odds 15 = .ok (.invokestatic 106, 3) := by decide +kernel
theorem dX6_odds_18 : decode cX6_odds 18 = .ok (.ifCond .eq 11, 3) := by decide +kernel
theorem dX6_odds_21 : decode cX6_odds 21 = .ok (.iload_n 3, 1) := by decide +kernel
theorem dX6_odds_22 : decode cX6_odds 22 = .ok (.iconst 1, 1) := by decide +kernel
theorem dX6_odds_23 : decode cX6_odds 23 = .ok (.invokestatic 106, 3) := by decide +kernel
theorem dX6_odds_26 : decode cX6_odds 26 = .ok (.ifCond .ne 7, 3) := by decide +kernel
theorem dX6_odds_29 : decode cX6_odds 29 = .ok (.ldc2_w 190, 3) := by decide +kernel
theorem dX6_odds_32 : decode cX6_odds 32 = .ok (.lreturn, 1) := by decide +kernel
theorem dX6_odds_33 : decode cX6_odds 33 = .ok (.aload_n 0, 1) := by decide +kernel
theorem dX6_odds_34 : decode cX6_odds 34 = .ok (.getfield 12, 3) := by decide +kernel
theorem dX6_odds_37 : decode cX6_odds 37 = .ok (.getfield 75, 3) := by decide +kernel
theorem dX6_odds_40 : decode cX6_odds 40 = .ok (.iload_n 1, 1) := by decide +kernel
theorem dX6_odds_41 : decode cX6_odds 41 = .ok (.aaload, 1) := by decide +kernel
theorem dX6_odds_42 : decode cX6_odds 42 = .ok (.astore 4, 2) := by decide +kernel
theorem dX6_odds_44 : decode cX6_odds 44 = .ok (.iconst 0, 1) := by decide +kernel
theorem dX6_odds_45 : decode cX6_odds 45 = .ok (.istore 5, 2) := by decide +kernel
theorem dX6_odds_47 : decode cX6_odds 47 = .ok (.iconst 0, 1) := by decide +kernel
theorem dX6_odds_48 : decode cX6_odds 48 = .ok (.istore 6, 2) := by decide +kernel
theorem dX6_odds_50 : decode cX6_odds 50 = .ok (.iconst 0, 1) := by decide +kernel
theorem dX6_odds_51 : decode cX6_odds 51 = .ok (.istore 7, 2) := by decide +kernel
theorem dX6_odds_53 : decode cX6_odds 53 = .ok (.iload 7, 2) := by decide +kernel
theorem dX6_odds_55 : decode cX6_odds 55 = .ok (.aload 4, 2) := by decide +kernel
theorem dX6_odds_57 : decode cX6_odds 57 = .ok (.invokevirtual 96, 3) := by decide +kernel
theorem dX6_odds_60 : decode cX6_odds 60 = .ok (.if_icmp .gt 47, 3) := by decide +kernel
theorem dX6_odds_63 : decode cX6_odds 63 = .ok (.aload 4, 2) := by decide +kernel
theorem dX6_odds_65 : decode cX6_odds 65 = .ok (.iload 7, 2) := by decide +kernel
theorem dX6_odds_67 : decode cX6_odds 67 = .ok (.invokevirtual 120, 3) := by decide +kernel
theorem dX6_odds_70 : decode cX6_odds 70 = .ok (.ifCond .eq 31, 3) := by decide +kernel
theorem dX6_odds_73 : decode cX6_odds 73 = .ok (.iinc 6 1, 3) := by decide +kernel
theorem dX6_odds_76 : decode cX6_odds 76 = .ok (.iload 5, 2) := by decide +kernel
theorem dX6_odds_78 : decode cX6_odds 78 = .ok (.aload_n 0, 1) := by decide +kernel
theorem dX6_odds_79 : decode cX6_odds 79 = .ok (.getfield 12, 3) := by decide +kernel
theorem dX6_odds_82 : decode cX6_odds 82 = .ok (.aload 4, 2) := by decide +kernel
theorem dX6_odds_84 : decode cX6_odds 84 = .ok (.iload 7, 2) := by decide +kernel
theorem dX6_odds_86 : decode cX6_odds 86 = .ok (.invokevirtual 123, 3) := by decide +kernel
theorem dX6_odds_89 : decode cX6_odds 89 = .ok (.iload_n 2, 1) := by decide +kernel
theorem dX6_odds_90 : decode cX6_odds 90 = .ok (.if_icmp .lt 7, 3) := by decide +kernel
theorem dX6_odds_93 : decode cX6_odds 93 = .ok (.iconst 1, 1) := by decide +kernel
theorem dX6_odds_94 : decode cX6_odds 94 = .ok (.goto 4, 3) := by decide +kernel
theorem dX6_odds_97 : decode cX6_odds 97 = .ok (.iconst 0, 1) := by decide +kernel
theorem dX6_odds_98 : decode cX6_odds 98 = .ok (.iadd, 1) := by decide +kernel
theorem dX6_odds_99 : decode cX6_odds 99 = .ok (.istore 5, 2) := by decide +kernel
theorem dX6_odds_101 : decode cX6_odds 101 = .ok (.iinc 7 1, 3) := by decide +kernel
theorem dX6_odds_104 : decode cX6_odds 104 = .ok (.goto (-51), 3) := by decide +kernel
theorem dX6_odds_107 : decode cX6_odds 107 = .ok (.iconst 0, 1) := by decide +kernel
theorem dX6_odds_108 : decode cX6_odds 108 = .ok (.istore 7, 2) := by decide +kernel
theorem dX6_odds_110 : decode cX6_odds 110 = .ok (.iload 7, 2) := by decide +kernel
theorem dX6_odds_112 : decode cX6_odds 112 = .ok (.iconst 5, 1) := by decide +kernel
theorem dX6_odds_113 : decode cX6_odds 113 = .ok (.if_icmp .ge 34, 3) := by decide +kernel
theorem dX6_odds_116 : decode cX6_odds 116 = .ok (.iload 6, 2) := by decide +kernel
theorem dX6_odds_118 : decode cX6_odds 118 = .ok (.iconst 1, 1) := by decide +kernel
theorem dX6_odds_119 : decode cX6_odds 119 = .ok (.if_icmp .le 28, 3) := by decide +kernel
theorem dX6_odds_122 : decode cX6_odds 122 = .ok (.iload 5, 2) := by decide +kernel
theorem dX6_odds_124 : decode cX6_odds 124 = .ok (.iconst 2, 1) := by decide +kernel
theorem dX6_odds_125 : decode cX6_odds 125 = .ok (.irem, 1) := by decide +kernel
theorem dX6_odds_126 : decode cX6_odds 126 = .ok (.ifCond .ne 21, 3) := by decide +kernel
theorem dX6_odds_129 : decode cX6_odds 129 = .ok (.iload 6, 2) := by decide +kernel
theorem dX6_odds_131 : decode cX6_odds 131 = .ok (.iconst 2, 1) := by decide +kernel
theorem dX6_odds_132 : decode cX6_odds 132 = .ok (.idiv, 1) := by decide +kernel
theorem dX6_odds_133 : decode cX6_odds 133 = .ok (.istore 6, 2) := by decide +kernel
theorem dX6_odds_135 : decode cX6_odds 135 = .ok (.iload 5, 2) := by decide +kernel
theorem dX6_odds_137 : decode cX6_odds 137 = .ok (.iconst 2, 1) := by decide +kernel
theorem dX6_odds_138 : decode cX6_odds 138 = .ok (.idiv, 1) := by decide +kernel
theorem dX6_odds_139 : decode cX6_odds 139 = .ok (.istore 5, 2) := by decide +kernel
theorem dX6_odds_141 : decode cX6_odds 141 = .ok (.iinc 7 1, 3) := by decide +kernel
theorem dX6_odds_144 : decode cX6_odds 144 = .ok (.goto (-34), 3) := by decide +kernel
theorem dX6_odds_147 : decode cX6_odds 147 = .ok (.iload_n 3, 1) := by decide +kernel
theorem dX6_odds_148 : decode cX6_odds 148 = .ok (.ifCond .ne 9, 3) := by decide +kernel
theorem dX6_odds_151 : decode cX6_odds 151 = .ok (.iload 5, 2) := by decide +kernel
theorem dX6_odds_153 : decode cX6_odds 153 = .ok (.i2l, 1) := by decide +kernel
theorem dX6_odds_154 : decode cX6_odds 154 = .ok (.goto 6, 3) := by decide +kernel
theorem dX6_odds_157 : decode cX6_odds 157 = .ok (.iload 6, 2) := by decide +kernel
theorem dX6_odds_159 : decode cX6_odds 159 = .ok (.i2l, 1) := by decide +kernel
theorem dX6_odds_160 : decode cX6_odds 160 = .ok (.lreturn, 1) := by decide +kernel
theorem dX6_sheet_0 : decode cX6_sheet 0 = .ok (.aload_n 0, 1) := by decide +kernel
theorem dX6_sheet_1 : decode cX6_sheet 1 = .ok (.iconst 0, 1) := by decide +kernel
theorem dX6_sheet_2 : decode cX6_sheet 2 = .ok (.putfield 39, 3) := by decide +kernel
theorem dX6_sheet_5 : decode cX6_sheet 5 = .ok (.iload_n 1, 1) := by decide +kernel
theorem dX6_sheet_6 : decode cX6_sheet 6 = .ok (.invokestatic 43, 3) := by decide +kernel
theorem dX6_sheet_9 : decode cX6_sheet 9 = .ok (.ifCond .ne 5, 3) := by decide +kernel
theorem dX6_sheet_12 : decode cX6_sheet 12 = .ok (.iconst (-1), 1) := by decide +kernel
theorem dX6_sheet_13 : decode cX6_sheet 13 = .ok (.ireturn, 1) := by decide +kernel
theorem dX6_sheet_14 : decode cX6_sheet 14 = .ok (.iload_n 2, 1) := by decide +kernel
theorem dX6_sheet_15 : decode cX6_sheet 15 = .ok (.invokestatic 47, 3) := by decide +kernel
theorem dX6_sheet_18 : decode cX6_sheet 18 = .ok (.ifCond .eq 9, 3) := by decide +kernel
theorem dX6_sheet_21 : decode cX6_sheet 21 = .ok (.iload_n 3, 1) := by decide +kernel
theorem dX6_sheet_22 : decode cX6_sheet 22 = .ok (.bipush 60, 2) := by decide +kernel
theorem dX6_sheet_24 : decode cX6_sheet 24 = .ok (.if_icmp .le 6, 3) := by decide +kernel
theorem dX6_sheet_27 : decode cX6_sheet 27 = .ok (.bipush (-2), 2) := by decide +kernel
theorem dX6_sheet_29 : decode cX6_sheet 29 = .ok (.ireturn, 1) := by decide +kernel
theorem dX6_sheet_30 : decode cX6_sheet 30 = .ok (.iload_n 3, 1) := by decide +kernel
theorem dX6_sheet_31 : decode cX6_sheet 31 = .ok (.ifCond .ge 9, 3) := by decide +kernel
theorem dX6_sheet_34 : decode cX6_sheet 34 = .ok (.aload_n 0, 1) := by decide +kernel
theorem dX6_sheet_35 : decode cX6_sheet 35 = .ok (.iconst 4, 1) := by decide +kernel
theorem dX6_sheet_36 : decode cX6_sheet 36 = .ok (.invokevirtual 54, 3) := by decide +kernel
theorem dX6_sheet_39 : decode cX6_sheet 39 = .ok (.ireturn, 1) := by decide +kernel
theorem dX6_sheet_40 : decode cX6_sheet 40 = .ok (.aload_n 0, 1) := by decide +kernel
theorem dX6_sheet_41 : decode cX6_sheet 41 = .ok (.getfield 27, 3) := by decide +kernel
theorem dX6_sheet_44 : decode cX6_sheet 44 = .ok (.iload_n 1, 1) := by decide +kernel
theorem dX6_sheet_45 : decode cX6_sheet 45 = .ok (.aaload, 1) := by decide +kernel
theorem dX6_sheet_46 : decode cX6_sheet 46 = .ok (.iload_n 2, 1) := by decide +kernel
theorem dX6_sheet_47 : decode cX6_sheet 47 = .ok (.iload_n 3, 1) := by decide +kernel
theorem dX6_sheet_48 : decode cX6_sheet 48 = .ok (.invokevirtual 192, 3) := by decide +kernel
theorem dX6_sheet_51 : decode cX6_sheet 51 = .ok (.iconst 1, 1) := by decide +kernel
theorem dX6_sheet_52 : decode cX6_sheet 52 = .ok (.ireturn, 1) := by decide +kernel
theorem dX6_lose_0 : decode cX6_lose 0 = .ok (.iload_n 1, 1) := by decide +kernel
theorem dX6_lose_1 : decode cX6_lose 1 = .ok (.invokestatic 43, 3) := by decide +kernel
theorem dX6_lose_4 : decode cX6_lose 4 = .ok (.ifCond .ne 5, 3) := by decide +kernel
theorem dX6_lose_7 : decode cX6_lose 7 = .ok (.iconst (-1), 1) := by decide +kernel
theorem dX6_lose_8 : decode cX6_lose 8 = .ok (.ireturn, 1) := by decide +kernel
theorem dX6_lose_9 : decode cX6_lose 9 = .ok (.aload_n 0, 1) := by decide +kernel
theorem dX6_lose_10 : decode cX6_lose 10 = .ok (.getfield 27, 3) := by decide +kernel
theorem dX6_lose_13 : decode cX6_lose 13 = .ok (.iload_n 1, 1) := by decide +kernel
theorem dX6_lose_14 : decode cX6_lose 14 = .ok (.aaload, 1) := by decide +kernel
theorem dX6_lose_15 : decode cX6_lose 15 = .ok (.invokevirtual 196, 3) := by decide +kernel
theorem dX6_lose_18 : decode cX6_lose 18 = .ok (.ifCond .ne 5, 3) := by decide +kernel
theorem dX6_lose_21 : decode cX6_lose 21 = .ok (.iconst 0, 1) := by decide +kernel
theorem dX6_lose_22 : decode cX6_lose 22 = .ok (.ireturn, 1) := by decide +kernel
theorem dX6_lose_23 : decode cX6_lose 23 = .ok (.aload_n 0, 1) := by decide +kernel
theorem dX6_lose_24 : decode cX6_lose 24 = .ok (.getfield 27, 3) := by decide +kernel
theorem dX6_lose_27 : decode cX6_lose 27 = .ok (.iload_n 1, 1) := by decide +kernel
theorem dX6_lose_28 : decode cX6_lose 28 = .ok (.aaload, 1) := by decide +kernel
theorem dX6_lose_29 : decode cX6_lose 29 = .ok (.invokevirtual 199, 3) := by decide +kernel
theorem dX6_lose_32 : decode cX6_lose 32 = .ok (.iconst 1, 1) := by decide +kernel
theorem dX6_lose_33 : decode cX6_lose 33 = .ok (.ireturn, 1) := by decide +kernel
theorem dX6_put_0 : decode cX6_put 0 = .ok (.aload_n 0, 1) := by decide +kernel
theorem dX6_put_1 : decode cX6_put 1 = .ok (.iconst 0, 1) := by decide +kernel
theorem dX6_put_2 : decode cX6_put 2 = .ok (.putfield 39, 3) := by decide +kernel
theorem dX6_put_5 : decode cX6_put 5 = .ok (.iload_n 1, 1) := by decide +kernel
theorem dX6_put_6 : decode cX6_put 6 = .ok (.invokestatic 43, 3) := by decide +kernel
theorem dX6_put_9 : decode cX6_put 9 = .ok (.ifCond .ne 5, 3) := by decide +kernel
theorem dX6_put_12 : decode cX6_put 12 = .ok (.iconst (-1), 1) := by decide +kernel
theorem dX6_put_13 : decode cX6_put 13 = .ok (.ireturn, 1) := by decide +kernel
theorem dX6_put_14 : decode cX6_put 14 = .ok (.aload_n 0, 1) := by decide +kernel
theorem dX6_put_15 : decode cX6_put 15 = .ok (.getfield 27, 3) := by decide +kernel
theorem dX6_put_18 : decode cX6_put 18 = .ok (.iload_n 1, 1) := by decide +kernel
theorem dX6_put_19 : decode cX6_put 19 = .ok (.aaload, 1) := by decide +kernel
theorem dX6_put_20 : decode cX6_put 20 = .ok (.astore 4, 2) := by decide +kernel
theorem dX6_put_22 : decode cX6_put 22 = .ok (.aload 4, 2) := by decide +kernel
theorem dX6_put_24 : decode cX6_put 24 = .ok (.invokevirtual 196, 3) := by decide +kernel
theorem dX6_put_27 : decode cX6_put 27 = .ok (.ifCond .ne 9, 3) := by decide +kernel
theorem dX6_put_30 : decode cX6_put 30 = .ok (.aload_n 0, 1) := by decide +kernel
theorem dX6_put_31 : decode cX6_put 31 = .ok (.iconst 1, 1) := by decide +kernel
theorem dX6_put_32 : decode cX6_put 32 = .ok (.invokevirtual 54, 3) := by decide +kernel
theorem dX6_put_35 : decode cX6_put 35 = .ok (.ireturn, 1) := by decide +kernel
theorem dX6_put_36 : decode cX6_put 36 = .ok (.aload 4, 2) := by decide +kernel
theorem dX6_put_38 : decode cX6_put 38 = .ok (.iload_n 2, 1) := by decide +kernel
theorem dX6_put_39 : decode cX6_put 39 = .ok (.invokevirtual 202, 3) := by decide +kernel
theorem dX6_put_42 : decode cX6_put 42 = .ok (.ifCond .ne 9, 3) := by decide +kernel
theorem dX6_put_45 : decode cX6_put 45 = .ok (.aload_n 0, 1) := by decide +kernel
theorem dX6_put_46 : decode cX6_put 46 = .ok (.iconst 3, 1) := by decide +kernel
theorem dX6_put_47 : decode cX6_put 47 = .ok (.invokevirtual 54, 3) := by decide +kernel
theorem dX6_put_50 : decode cX6_put 50 = .ok (.ireturn, 1) := by decide +kernel
theorem dX6_put_51 : decode cX6_put 51 = .ok (.aload 4, 2) := by decide +kernel
theorem dX6_put_53 : decode cX6_put 53 = .ok (.iload_n 2, 1) := by decide +kernel
theorem dX6_put_54 : decode cX6_put 54 = .ok (.iload_n 3, 1) := by decide +kernel
theorem dX6_put_55 : decode cX6_put 55 = .ok (.invokevirtual 205, 3) := by decide +kernel
theorem dX6_put_58 : decode cX6_put 58 = .ok (.iconst 1, 1) := by decide +kernel
theorem dX6_put_59 : decode cX6_put 59 = .ok (.ireturn, 1) := by decide +kernel
theorem dX6_cell_0 : decode cX6_cell 0 = .ok (.aload_n 0, 1) := by decide +kernel
theorem dX6_cell_1 : decode cX6_cell 1 = .ok (.iconst 0, 1) := by decide +kernel
theorem dX6_cell_2 : decode cX6_cell 2 = .ok (.putfield 39, 3) := by decide +kernel
theorem dX6_cell_5 : decode cX6_cell 5 = .ok (.iload_n 1, 1) := by decide +kernel
theorem dX6_cell_6 : decode cX6_cell 6 = .ok (.invokestatic 43, 3) := by decide +kernel
theorem dX6_cell_9 : decode cX6_cell 9 = .ok (.ifCond .eq 10, 3) := by decide +kernel
theorem dX6_cell_12 : decode cX6_cell 12 = .ok (.iload_n 3, 1) := by decide +kernel
theorem dX6_cell_13 : decode cX6_cell 13 = .ok (.invokestatic 47, 3) := by decide +kernel
theorem dX6_cell_16 : decode cX6_cell 16 = .ok (.ifCond .ne 7, 3) := by decide +kernel
theorem dX6_cell_19 : decode cX6_cell 19 = .ok (.ldc2_w 190, 3) := by decide +kernel
theorem dX6_cell_22 : decode cX6_cell 22 = .ok (.lreturn, 1) := by decide +kernel
theorem dX6_cell_23 : decode cX6_cell 23 = .ok (.aload_n 0, 1) := by decide +kernel
theorem dX6_cell_24 : decode cX6_cell 24 = .ok (.getfield 27, 3) := by decide +kernel
theorem dX6_cell_27 : decode cX6_cell 27 = .ok (.iload_n 1, 1) := by decide +kernel
theorem dX6_cell_28 : decode cX6_cell 28 = .ok (.aaload, 1) := by decide +kernel
theorem dX6_cell_29 : decode cX6_cell 29 = .ok (.astore 4, 2) := by decide +kernel
theorem dX6_cell_31 : decode cX6_cell 31 = .ok (.aload_n 0, 1) := by decide +kernel
theorem dX6_cell_32 : decode cX6_cell 32 = .ok (.aload 4, 2) := by decide +kernel
theorem dX6_cell_34 : decode cX6_cell 34 = .ok (.iload_n 3, 1) := by decide +kernel
theorem dX6_cell_35 : decode cX6_cell 35 = .ok (.invokevirtual 208, 3) := by decide +kernel
theorem dX6_cell_38 : decode cX6_cell 38 = .ok (.putfield 39, 3) := by decide +kernel
theorem dX6_cell_41 : decode cX6_cell 41 = .ok (.aload_n 0, 1) := by decide +kernel
theorem dX6_cell_42 : decode cX6_cell 42 = .ok (.getfield 39, 3) := by decide +kernel
theorem dX6_cell_45 : decode cX6_cell 45 = .ok (.ifCond .ne 17, 3) := by decide +kernel
theorem dX6_cell_48 : decode cX6_cell 48 = .ok (.aload 4, 2) := by decide +kernel
theorem dX6_cell_50 : decode cX6_cell 50 = .ok (.iload_n 2, 1) := by decide +kernel
theorem dX6_cell_51 : decode cX6_cell 51 = .ok (.invokevirtual 202, 3) := by decide +kernel
theorem dX6_cell_54 : decode cX6_cell 54 = .ok (.ifCond .ne 8, 3) := by decide +kernel
theorem dX6_cell_57 : decode cX6_cell 57 = .ok (.aload_n 0, 1) := by decide +kernel
theorem dX6_cell_58 : decode cX6_cell 58 = .ok (.iconst 3, 1) := by decide +kernel
theorem dX6_cell_59 : decode cX6_cell 59 = .ok (.putfield 39, 3) := by decide +kernel
theorem dX6_cell_62 : decode cX6_cell 62 = .ok (.aload_n 0, 1) := by decide +kernel
theorem dX6_cell_63 : decode cX6_cell 63 = .ok (.getfield 39, 3) := by decide +kernel
theorem dX6_cell_66 : decode cX6_cell 66 = .ok (.ifCond .ne 13, 3) := by decide +kernel
theorem dX6_cell_69 : decode cX6_cell 69 = .ok (.aload 4, 2) := by decide +kernel
theorem dX6_cell_71 : decode cX6_cell 71 = .ok (.iload_n 2, 1) := by decide +kernel
theorem dX6_cell_72 : decode cX6_cell 72 = .ok (.invokevirtual 137, 3) := by decide +kernel
theorem dX6_cell_75 : decode cX6_cell 75 = .ok (.i2l, 1) := by decide +kernel
theorem dX6_cell_76 : decode cX6_cell 76 = .ok (.goto 6, 3) := by decide +kernel
theorem dX6_cell_79 : decode cX6_cell 79 = .ok (.ldc2_w 190, 3) := by decide +kernel
theorem dX6_cell_82 : decode cX6_cell 82 = .ok (.lreturn, 1) := by decide +kernel
theorem dX6_copy_0 : decode cX6_copy 0 = .ok (.aload_n 0, 1) := by decide +kernel
theorem dX6_copy_1 : decode cX6_copy 1 = .ok (.iconst 0, 1) := by decide +kernel
theorem dX6_copy_2 : decode cX6_copy 2 = .ok (.putfield 39, 3) := by decide +kernel
theorem dX6_copy_5 : decode cX6_copy 5 = .ok (.iload_n 1, 1) := by decide +kernel
theorem dX6_copy_6 : decode cX6_copy 6 = .ok (.invokestatic 43, 3) := by decide +kernel
theorem dX6_copy_9 : decode cX6_copy 9 = .ok (.ifCond .eq 10, 3) := by decide +kernel
theorem dX6_copy_12 : decode cX6_copy 12 = .ok (.iload_n 3, 1) := by decide +kernel
theorem dX6_copy_13 : decode cX6_copy 13 = .ok (.invokestatic 43, 3) := by decide +kernel
theorem dX6_copy_16 : decode cX6_copy 16 = .ok (.ifCond .ne 5, 3) := by decide +kernel
theorem dX6_copy_19 : decode cX6_copy 19 = .ok (.iconst (-1), 1) := by decide +kernel
theorem dX6_copy_20 : decode cX6_copy 20 = .ok (.ireturn, 1) := by decide +kernel
theorem dX6_copy_21 : decode cX6_copy 21 = .ok (.aload_n 0, 1) := by decide +kernel
theorem dX6_copy_22 : decode cX6_copy 22 = .ok (.getfield 27, 3) := by decide +kernel
theorem dX6_copy_25 : decode cX6_copy 25 = .ok (.iload_n 1, 1) := by decide +kernel
theorem dX6_copy_26 : decode cX6_copy 26 = .ok (.aaload, 1) := by decide +kernel
theorem dX6_copy_27 : decode cX6_copy 27 = .ok (.astore 6, 2) := by decide +kernel
theorem dX6_copy_29 : decode cX6_copy 29 = .ok (.aload_n 0, 1) := by decide +kernel
theorem dX6_copy_30 : decode cX6_copy 30 = .ok (.getfield 27, 3) := by decide +kernel
theorem dX6_copy_33 : decode cX6_copy 33 = .ok (.iload_n 3, 1) := by decide +kernel
theorem dX6_copy_34 : decode cX6_copy 34 = .ok (.aaload, 1) := by decide +kernel
theorem dX6_copy_35 : decode cX6_copy 35 = .ok (.astore 7, 2) := by decide +kernel
theorem dX6_copy_37 : decode cX6_copy 37 = .ok (.aload 6, 2) := by decide +kernel
theorem dX6_copy_39 : decode cX6_copy 39 = .ok (.invokevirtual 196, 3) := by decide +kernel
theorem dX6_copy_42 : decode cX6_copy 42 = .ok (.ifCond .eq 11, 3) := by decide +kernel
theorem dX6_copy_45 : decode cX6_copy 45 = .ok (.aload 7, 2) := by decide +kernel
theorem dX6_copy_47 : decode cX6_copy 47 = .ok (.invokevirtual 196, 3) := by decide +kernel
theorem dX6_copy_50 : decode cX6_copy 50 = .ok (.ifCond .ne 9, 3) := by decide +kernel
theorem dX6_copy_53 : decode cX6_copy 53 = .ok (.aload_n 0, 1) := by decide +kernel
theorem dX6_copy_54 : decode cX6_copy 54 = .ok (.iconst 1, 1) := by decide +kernel
theorem dX6_copy_55 : decode cX6_copy 55 = .ok (.invokevirtual 54, 3) := by decide +kernel
theorem dX6_copy_58 : decode cX6_copy 58 = .ok (.ireturn, 1) := by decide +kernel
theorem dX6_copy_59 : decode cX6_copy 59 = .ok (.aload 6, 2) := by decide +kernel
theorem dX6_copy_61 : decode cX6_copy 61 = .ok (.getfield 211, 3) := by decide +kernel
theorem dX6_copy_64 : decode cX6_copy 64 = .ok (.aload 7, 2) := by decide +kernel
theorem dX6_copy_66 : decode cX6_copy 66 = .ok (.getfield 211, 3) := by decide +kernel
theorem dX6_copy_69 : decode cX6_copy 69 = .ok (.if_icmp .eq 9, 3) := by decide +kernel
theorem dX6_copy_72 : decode cX6_copy 72 = .ok (.aload_n 0, 1) := by decide +kernel
theorem dX6_copy_73 : decode cX6_copy 73 = .ok (.iconst 2, 1) := by decide +kernel
theorem dX6_copy_74 : decode cX6_copy 74 = .ok (.invokevirtual 54, 3) := by decide +kernel
theorem dX6_copy_77 : decode cX6_copy 77 = .ok (.ireturn, 1) := by decide +kernel
theorem dX6_copy_78 : decode cX6_copy 78 = .ok (.aload 6, 2) := by decide +kernel
theorem dX6_copy_80 : decode cX6_copy 80 = .ok (.iload_n 2, 1) := by decide +kernel
theorem dX6_copy_81 : decode cX6_copy 81 = .ok (.iload 5, 2) := by decide +kernel
theorem dX6_copy_83 : decode cX6_copy 83 = .ok (.invokevirtual 214, 3) := by decide +kernel
theorem dX6_copy_86 : decode cX6_copy 86 = .ok (.ifCond .eq 15, 3) := by decide +kernel
theorem dX6_copy_89 : decode cX6_copy 89 = .ok (.aload 7, 2) := by decide +kernel
theorem dX6_copy_91 : decode cX6_copy 91 = .ok (.iload 4, 2) := by decide +kernel
theorem dX6_copy_93 : decode cX6_copy 93 = .ok (.iload 5, 2) := by decide +kernel
theorem dX6_copy_95 : decode cX6_copy 95 = .ok (.invokevirtual 214, 3) := by decide +kernel
theorem dX6_copy_98 : decode cX6_copy 98 = .ok (.ifCond .ne 9, 3) := by decide +kernel
theorem dX6_copy_101 : decode cX6_copy 101 = .ok (.aload_n 0, 1) := by decide +kernel
theorem dX6_copy_102 : decode cX6_copy 102 = .ok (.iconst 3, 1) := by decide +kernel
theorem dX6_copy_103 : decode cX6_copy 103 = .ok (.invokevirtual 54, 3) := by decide +kernel
theorem dX6_copy_106 : decode cX6_copy 106 = .ok (.ireturn, 1) := by decide +kernel
theorem dX6_copy_107 : decode cX6_copy 107 = .ok (.aload 6, 2) := by decide +kernel
theorem dX6_copy_109 : decode cX6_copy 109 = .ok (.getfield 217, 3) := by decide +kernel
theorem dX6_copy_112 : decode cX6_copy 112 = .ok (.iload_n 2, 1) := by decide +kernel
theorem dX6_copy_113 : decode cX6_copy 113 = .ok (.aload 7, 2) := by decide +kernel
theorem dX6_copy_115 : decode cX6_copy 115 = .ok (.getfield 217, 3) := by decide +kernel
theorem dX6_copy_118 : decode cX6_copy 118 = .ok (.iload 4, 2) := by decide +kernel
theorem dX6_copy_120 : decode cX6_copy 120 = .ok (.iload 5, 2) := by decide +kernel
theorem dX6_copy_122 : decode cX6_copy 122 = .ok (.invokestatic 220, 3) := by decide +kernel
theorem dX6_copy_125 : decode cX6_copy 125 = .ok (.iload 5, 2) := by decide +kernel
theorem dX6_copy_127 : decode cX6_copy 127 = .ok (.ireturn, 1) := by decide +kernel
theorem dX6_tell_0 : decode cX6_tell 0 = .ok (.aload_n 0, 1) := by decide +kernel
theorem dX6_tell_1 : decode cX6_tell 1 = .ok (.getfield 12, 3) := by decide +kernel
theorem dX6_tell_4 : decode cX6_tell 4 = .ok (.iload_n 1, 1) := by decide +kernel
theorem dX6_tell_5 : decode cX6_tell 5 = .ok (.invokevirtual 72, 3) := by decide +kernel
theorem dX6_tell_8 : decode cX6_tell 8 = .ok (.ifCond .ne 5, 3) := by decide +kernel
theorem dX6_tell_11 : decode cX6_tell 11 = .ok (.iconst (-1), 1) := by decide +kernel
theorem dX6_tell_12 : decode cX6_tell 12 = .ok (.ireturn, 1) := by decide +kernel
theorem dX6_tell_13 : decode cX6_tell 13 = .ok (.aload_n 0, 1) := by decide +kernel
theorem dX6_tell_14 : decode cX6_tell 14 = .ok (.getfield 12, 3) := by decide +kernel
theorem dX6_tell_17 : decode cX6_tell 17 = .ok (.getfield 75, 3) := by decide +kernel
theorem dX6_tell_20 : decode cX6_tell 20 = .ok (.iload_n 1, 1) := by decide +kernel
theorem dX6_tell_21 : decode cX6_tell 21 = .ok (.aaload, 1) := by decide +kernel
theorem dX6_tell_22 : decode cX6_tell 22 = .ok (.astore_n 2, 1) := by decide +kernel
theorem dX6_tell_23 : decode cX6_tell 23 = .ok (.aload_n 2, 1) := by decide +kernel
theorem dX6_tell_24 : decode cX6_tell 24 = .ok (.getfield 79, 3) := by decide +kernel
theorem dX6_tell_27 : decode cX6_tell 27 = .ok (.lookupswitch 37 #[(0, 25), (1, 31)], 25) := by decide +kernel
theorem dX6_tell_52 : decode cX6_tell 52 = .ok (.aload_n 0, 1) := by decide +kernel
theorem dX6_tell_53 : decode cX6_tell 53 = .ok (.aload_n 2, 1) := by decide +kernel
theorem dX6_tell_54 : decode cX6_tell 54 = .ok (.invokevirtual 226, 3) := by decide +kernel
theorem dX6_tell_57 : decode cX6_tell 57 = .ok (.ireturn, 1) := by decide +kernel
theorem dX6_tell_58 : decode cX6_tell 58 = .ok (.aload_n 0, 1) := by decide +kernel
theorem dX6_tell_59 : decode cX6_tell 59 = .ok (.aload_n 2, 1) := by decide +kernel
theorem dX6_tell_60 : decode cX6_tell 60 = .ok (.invokevirtual 230, 3) := by decide +kernel
theorem dX6_tell_63 : decode cX6_tell 63 = .ok (.ireturn, 1) := by decide +kernel
theorem dX6_tell_64 : decode cX6_tell 64 = .ok (.aload_n 0, 1) := by decide +kernel
theorem dX6_tell_65 : decode cX6_tell 65 = .ok (.aload_n 2, 1) := by decide +kernel
theorem dX6_tell_66 : decode cX6_tell 66 = .ok (.invokevirtual 233, 3) := by decide +kernel
theorem dX6_tell_69 : decode cX6_tell 69 = .ok (.ireturn, 1) := by decide +kernel
theorem dX6_ring_0 : decode cX6_ring 0 = .ok (.aload_n 0, 1) := by decide +kernel
theorem dX6_ring_1 : decode cX6_ring 1 = .ok (.getfield 12, 3) := by decide +kernel
theorem dX6_ring_4 : decode cX6_ring 4 = .ok (.iload_n 1, 1) := by decide +kernel
theorem dX6_ring_5 : decode cX6_ring 5 = .ok (.invokevirtual 72, 3) := by decide +kernel
theorem dX6_ring_8 : decode cX6_ring 8 = .ok (.ifCond .ne 5, 3) := by decide +kernel
theorem dX6_ring_11 : decode cX6_ring 11 = .ok (.iconst (-1), 1) := by decide +kernel
theorem dX6_ring_12 : decode cX6_ring 12 = .ok (.ireturn, 1) := by decide +kernel
theorem dX6_ring_13 : decode cX6_ring 13 = .ok (.aload_n 0, 1) := by decide +kernel
theorem dX6_ring_14 : decode cX6_ring 14 = .ok (.getfield 12, 3) := by decide +kernel
theorem dX6_ring_17 : decode cX6_ring 17 = .ok (.getfield 75, 3) := by decide +kernel
theorem dX6_ring_20 : decode cX6_ring 20 = .ok (.iload_n 1, 1) := by decide +kernel
theorem dX6_ring_21 : decode cX6_ring 21 = .ok (.aaload, 1) := by decide +kernel
theorem dX6_ring_22 : decode cX6_ring 22 = .ok (.getfield 79, 3) := by decide +kernel
theorem dX6_ring_25 : decode cX6_ring 25 = .ok (.iconst 2, 1) := by decide +kernel
theorem dX6_ring_26 : decode cX6_ring 26 = .ok (.if_icmp .ne 11, 3) := by decide +kernel
theorem dX6_ring_29 : decode cX6_ring 29 = .ok (.aload_n 0, 1) := by decide +kernel
theorem dX6_ring_30 : decode cX6_ring 30 = .ok (.iconst 5, 1) := by decide +kernel
theorem dX6_ring_31 : decode cX6_ring 31 = .ok (.invokevirtual 236, 3) := by decide +kernel
theorem dX6_ring_34 : decode cX6_ring 34 = .ok (.bipush 60, 2) := by decide +kernel
theorem dX6_ring_36 : decode cX6_ring 36 = .ok (.ireturn, 1) := by decide +kernel
theorem dX6_ring_37 : decode cX6_ring 37 = .ok (.aload_n 0, 1) := by decide +kernel
theorem dX6_ring_38 : decode cX6_ring 38 = .ok (.iconst 4, 1) := by decide +kernel
theorem dX6_ring_39 : decode cX6_ring 39 = .ok (.invokevirtual 236, 3) := by decide +kernel
theorem dX6_ring_42 : decode cX6_ring 42 = .ok (.iload_n 1, 1) := by decide +kernel
theorem dX6_ring_43 : decode cX6_ring 43 = .ok (.ireturn, 1) := by decide +kernel
theorem dX6_as_0 : decode cX6_as 0 = .ok (.aload_n 0, 1) := by decide +kernel
theorem dX6_as_1 : decode cX6_as 1 = .ok (.iconst 0, 1) := by decide +kernel
theorem dX6_as_2 : decode cX6_as 2 = .ok (.putfield 39, 3) := by decide +kernel
theorem dX6_as_5 : decode cX6_as 5 = .ok (.aload_n 0, 1) := by decide +kernel
theorem dX6_as_6 : decode cX6_as 6 = .ok (.getfield 12, 3) := by decide +kernel
theorem dX6_as_9 : decode cX6_as 9 = .ok (.iload_n 1, 1) := by decide +kernel
theorem dX6_as_10 : decode cX6_as 10 = .ok (.invokevirtual 72, 3) := by decide +kernel
theorem dX6_as_13 : decode cX6_as 13 = .ok (.ifCond .ne 5, 3) := by decide +kernel
theorem dX6_as_16 : decode cX6_as 16 = .ok (.iconst (-1), 1) := by decide +kernel
theorem dX6_as_17 : decode cX6_as 17 = .ok (.ireturn, 1) := by decide +kernel
theorem dX6_as_18 : decode cX6_as 18 = .ok (.iload_n 2, 1) := by decide +kernel
theorem dX6_as_19 : decode cX6_as 19 = .ok (.iconst 2, 1) := by decide +kernel
theorem dX6_as_20 : decode cX6_as 20 = .ok (.invokestatic 106, 3) := by decide +kernel
theorem dX6_as_23 : decode cX6_as 23 = .ok (.ifCond .ne 6, 3) := by decide +kernel
theorem dX6_as_26 : decode cX6_as 26 = .ok (.bipush (-2), 2) := by decide +kernel
theorem dX6_as_28 : decode cX6_as 28 = .ok (.ireturn, 1) := by decide +kernel
theorem dX6_as_29 : decode cX6_as 29 = .ok (.aload_n 0, 1) := by decide +kernel
theorem dX6_as_30 : decode cX6_as 30 = .ok (.getfield 12, 3) := by decide +kernel
theorem dX6_as_33 : decode cX6_as 33 = .ok (.getfield 75, 3) := by decide +kernel
theorem dX6_as_36 : decode cX6_as 36 = .ok (.iload_n 1, 1) := by decide +kernel
theorem dX6_as_37 : decode cX6_as 37 = .ok (.aaload, 1) := by decide +kernel
theorem dX6_as_38 : decode cX6_as 38 = .ok (.getfield 79, 3) := by decide +kernel
theorem dX6_as_41 : decode cX6_as 41 = .ok (.iload_n 2, 1) := by decide +kernel
theorem dX6_as_42 : decode cX6_as 42 = .ok (.if_icmp .lt 7, 3) := by decide +kernel
theorem dX6_as_45 : decode cX6_as 45 = .ok (.iconst 1, 1) := by decide +kernel
theorem dX6_as_46 : decode cX6_as 46 = .ok (.goto 8, 3) := by decide +kernel
theorem dX6_as_49 : decode cX6_as 49 = .ok (.aload_n 0, 1) := by decide +kernel
theorem dX6_as_50 : decode cX6_as 50 = .ok (.iconst 2, 1) := by decide +kernel
theorem dX6_as_51 : decode cX6_as 51 = .ok (.invokevirtual 54, 3) := by decide +kernel
theorem dX6_as_54 : decode cX6_as 54 = .ok (.ireturn, 1) := by decide +kernel
theorem dX6_trace_0 : decode cX6_trace 0 = .ok (.aload_n 0, 1) := by decide +kernel
theorem dX6_trace_1 : decode cX6_trace 1 = .ok (.getfield 35, 3) := by decide +kernel
theorem dX6_trace_4 : decode cX6_trace 4 = .ok (.ireturn, 1) := by decide +kernel
theorem dX6_fault_0 : decode cX6_fault 0 = .ok (.aload_n 0, 1) := by decide +kernel
theorem dX6_fault_1 : decode cX6_fault 1 = .ok (.getfield 39, 3) := by decide +kernel
theorem dX6_fault_4 : decode cX6_fault 4 = .ok (.ireturn, 1) := by decide +kernel
theorem dX6_many_0 : decode cX6_many 0 = .ok (.iload_n 1, 1) := by decide +kernel
theorem dX6_many_1 : decode cX6_many 1 = .ok (.tableswitch 63 0 3 #[31, 39, 47, 55], 31) := by decide +kernel
theorem dX6_many_32 : decode cX6_many 32 = .ok (.aload_n 0, 1) := by decide +kernel
theorem dX6_many_33 : decode cX6_many 33 = .ok (.getfield 12, 3) := by decide +kernel
theorem dX6_many_36 : decode cX6_many 36 = .ok (.getfield 71, 3) := by decide +kernel
theorem dX6_many_39 : decode cX6_many 39 = .ok (.ireturn, 1) := by decide +kernel
theorem dX6_many_40 : decode cX6_many 40 = .ok (.aload_n 0, 1) := by decide +kernel
theorem dX6_many_41 : decode cX6_many 41 = .ok (.getfield 12, 3) := by decide +kernel
theorem dX6_many_44 : decode cX6_many 44 = .ok (.getfield 240, 3) := by decide +kernel
theorem dX6_many_47 : decode cX6_many 47 = .ok (.ireturn, 1) := by decide +kernel
theorem dX6_many_48 : decode cX6_many 48 = .ok (.aload_n 0, 1) := by decide +kernel
theorem dX6_many_49 : decode cX6_many 49 = .ok (.getfield 12, 3) := by decide +kernel
theorem dX6_many_52 : decode cX6_many 52 = .ok (.getfield 114, 3) := by decide +kernel
theorem dX6_many_55 : decode cX6_many 55 = .ok (.ireturn, 1) := by decide +kernel
theorem dX6_many_56 : decode cX6_many 56 = .ok (.aload_n 0, 1) := by decide +kernel
theorem dX6_many_57 : decode cX6_many 57 = .ok (.getfield 21, 3) := by decide +kernel
theorem dX6_many_60 : decode cX6_many 60 = .ok (.getfield 68, 3) := by decide +kernel
theorem dX6_many_63 : decode cX6_many 63 = .ok (.ireturn, 1) := by decide +kernel
theorem dX6_many_64 : decode cX6_many 64 = .ok (.bipush (-2), 2) := by decide +kernel
theorem dX6_many_66 : decode cX6_many 66 = .ok (.ireturn, 1) := by decide +kernel
theorem dX6_toldAsRider_0 : decode cX6_toldAsRider 0 = .ok (.aload_n 0, 1) := by decide +kernel
theorem dX6_toldAsRider_1 : decode cX6_toldAsRider 1 = .ok (.iconst 1, 1) := by decide +kernel
theorem dX6_toldAsRider_2 : decode cX6_toldAsRider 2 = .ok (.invokevirtual 236, 3) := by decide +kernel
theorem dX6_toldAsRider_5 : decode cX6_toldAsRider 5 = .ok (.aload_n 1, 1) := by decide +kernel
theorem dX6_toldAsRider_6 : decode cX6_toldAsRider 6 = .ok (.getfield 90, 3) := by decide +kernel
theorem dX6_toldAsRider_9 : decode cX6_toldAsRider 9 = .ok (.ireturn, 1) := by decide +kernel
theorem dX6_toldAsLad_0 : decode cX6_toldAsLad 0 = .ok (.aload_n 0, 1) := by decide +kernel
theorem dX6_toldAsLad_1 : decode cX6_toldAsLad 1 = .ok (.iconst 2, 1) := by decide +kernel
theorem dX6_toldAsLad_2 : decode cX6_toldAsLad 2 = .ok (.invokevirtual 236, 3) := by decide +kernel
theorem dX6_toldAsLad_5 : decode cX6_toldAsLad 5 = .ok (.aload_n 0, 1) := by decide +kernel
theorem dX6_toldAsLad_6 : decode cX6_toldAsLad 6 = .ok (.aload_n 1, 1) := by decide +kernel
theorem dX6_toldAsLad_7 : decode cX6_toldAsLad 7 = .ok (.invokevirtual 226, 3) := by decide +kernel
theorem dX6_toldAsLad_10 : decode cX6_toldAsLad 10 = .ok (.bipush 100, 2) := by decide +kernel
theorem dX6_toldAsLad_12 : decode cX6_toldAsLad 12 = .ok (.iadd, 1) := by decide +kernel
theorem dX6_toldAsLad_13 : decode cX6_toldAsLad 13 = .ok (.ireturn, 1) := by decide +kernel
theorem dX6_toldAsElder_0 : decode cX6_toldAsElder 0 = .ok (.aload_n 0, 1) := by decide +kernel
theorem dX6_toldAsElder_1 : decode cX6_toldAsElder 1 = .ok (.iconst 3, 1) := by decide +kernel
theorem dX6_toldAsElder_2 : decode cX6_toldAsElder 2 = .ok (.invokevirtual 236, 3) := by decide +kernel
theorem dX6_toldAsElder_5 : decode cX6_toldAsElder 5 = .ok (.aload_n 0, 1) := by decide +kernel
theorem dX6_toldAsElder_6 : decode cX6_toldAsElder 6 = .ok (.aload_n 1, 1) := by decide +kernel
theorem dX6_toldAsElder_7 : decode cX6_toldAsElder 7 = .ok (.invokevirtual 230, 3) := by decide +kernel
theorem dX6_toldAsElder_10 : decode cX6_toldAsElder 10 = .ok (.aload_n 0, 1) := by decide +kernel
theorem dX6_toldAsElder_11 : decode cX6_toldAsElder 11 = .ok (.aload_n 1, 1) := by decide +kernel
theorem dX6_toldAsElder_12 : decode cX6_toldAsElder 12 = .ok (.invokevirtual 226, 3) := by decide +kernel
theorem dX6_toldAsElder_15 : decode cX6_toldAsElder 15 = .ok (.iadd, 1) := by decide +kernel
theorem dX6_toldAsElder_16 : decode cX6_toldAsElder 16 = .ok (.ireturn, 1) := by decide +kernel
theorem dX6_beginBody_0 : decode cX6_beginBody 0 = .ok (.aload_n 0, 1) := by decide +kernel
theorem dX6_beginBody_1 : decode cX6_beginBody 1 = .ok (.bipush 31, 2) := by decide +kernel
theorem dX6_beginBody_3 : decode cX6_beginBody 3 = .ok (.aload_n 0, 1) := by decide +kernel
theorem dX6_beginBody_4 : decode cX6_beginBody 4 = .ok (.getfield 35, 3) := by decide +kernel
theorem dX6_beginBody_7 : decode cX6_beginBody 7 = .ok (.imul, 1) := by decide +kernel
theorem dX6_beginBody_8 : decode cX6_beginBody 8 = .ok (.iload_n 1, 1) := by decide +kernel
theorem dX6_beginBody_9 : decode cX6_beginBody 9 = .ok (.iadd, 1) := by decide +kernel
theorem dX6_beginBody_10 : decode cX6_beginBody 10 = .ok (.putfield 35, 3) := by decide +kernel
theorem dX6_beginBody_13 : decode cX6_beginBody 13 = .ok (.return_, 1) := by decide +kernel
theorem dX6_failed_0 : decode cX6_failed 0 = .ok (.aload_n 0, 1) := by decide +kernel
theorem dX6_failed_1 : decode cX6_failed 1 = .ok (.iload_n 1, 1) := by decide +kernel
theorem dX6_failed_2 : decode cX6_failed 2 = .ok (.putfield 39, 3) := by decide +kernel
theorem dX6_failed_5 : decode cX6_failed 5 = .ok (.bipush (-10), 2) := by decide +kernel
theorem dX6_failed_7 : decode cX6_failed 7 = .ok (.iload_n 1, 1) := by decide +kernel
theorem dX6_failed_8 : decode cX6_failed 8 = .ok (.isub, 1) := by decide +kernel
theorem dX6_failed_9 : decode cX6_failed 9 = .ok (.ireturn, 1) := by decide +kernel
theorem dX6_isSheet_0 : decode cX6_isSheet 0 = .ok (.iload_n 0, 1) := by decide +kernel
theorem dX6_isSheet_1 : decode cX6_isSheet 1 = .ok (.iconst 3, 1) := by decide +kernel
theorem dX6_isSheet_2 : decode cX6_isSheet 2 = .ok (.invokestatic 106, 3) := by decide +kernel
theorem dX6_isSheet_5 : decode cX6_isSheet 5 = .ok (.ireturn, 1) := by decide +kernel
theorem dX6_isLane_0 : decode cX6_isLane 0 = .ok (.iload_n 0, 1) := by decide +kernel
theorem dX6_isLane_1 : decode cX6_isLane 1 = .ok (.iconst 2, 1) := by decide +kernel
theorem dX6_isLane_2 : decode cX6_isLane 2 = .ok (.invokestatic 106, 3) := by decide +kernel
theorem dX6_isLane_5 : decode cX6_isLane 5 = .ok (.ireturn, 1) := by decide +kernel
theorem dX6_within_0 : decode cX6_within 0 = .ok (.iload_n 0, 1) := by decide +kernel
theorem dX6_within_1 : decode cX6_within 1 = .ok (.ifCond .lt 12, 3) := by decide +kernel
theorem dX6_within_4 : decode cX6_within 4 = .ok (.iload_n 0, 1) := by decide +kernel
theorem dX6_within_5 : decode cX6_within 5 = .ok (.iload_n 1, 1) := by decide +kernel
theorem dX6_within_6 : decode cX6_within 6 = .ok (.if_icmp .gt 7, 3) := by decide +kernel
theorem dX6_within_9 : decode cX6_within 9 = .ok (.iconst 1, 1) := by decide +kernel
theorem dX6_within_10 : decode cX6_within 10 = .ok (.goto 4, 3) := by decide +kernel
theorem dX6_within_13 : decode cX6_within 13 = .ok (.iconst 0, 1) := by decide +kernel
theorem dX6_within_14 : decode cX6_within 14 = .ok (.ireturn, 1) := by decide +kernel
