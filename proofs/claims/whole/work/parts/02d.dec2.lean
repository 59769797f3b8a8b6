theorem dX6_feed_31 : decode cX6_feed 31 = .ok (.getfield 14, 3) := by decide +kernel
theorem dX6_feed_34 : decode cX6_feed 34 = .ok (.iload_n 3, 1) := by decide +kernel
theorem dX6_feed_35 : decode cX6_feed 35 = .ok (.invokevirtual 76, 3) := by decide +kernel
theorem dX6_feed_38 : decode cX6_feed 38 = .ok (.aload_n 0, 1) := by decide +kernel
theorem dX6_feed_39 : decode cX6_feed 39 = .ok (.getfield 14, 3) := by decide +kernel
theorem dX6_feed_42 : decode cX6_feed 42 = .ok (.iload 4, 2) := by decide +kernel
theorem dX6_feed_44 : decode cX6_feed 44 = .ok (.invokevirtual 76, 3) := by decide +kernel
theorem dX6_feed_47 : decode cX6_feed 47 = .ok (.aload_n 0, 1) := by decide +kernel
theorem dX6_feed_48 : decode cX6_feed 48 = .ok (.getfield 14, 3) := by decide +kernel
theorem dX6_feed_51 : decode cX6_feed 51 = .ok (.iload 5, 2) := by decide +kernel
theorem dX6_feed_53 : decode cX6_feed 53 = .ok (.invokevirtual 76, 3) := by decide +kernel
theorem dX6_feed_56 : decode cX6_feed 56 = .ok (.aload_n 0, 1) := by decide +kernel
theorem dX6_feed_57 : decode cX6_feed 57 = .ok (.getfield 14, 3) := by decide +kernel
theorem dX6_feed_60 : decode cX6_feed 60 = .ok (.getfield 79, 3) := by decide +kernel
theorem dX6_feed_63 : decode cX6_feed 63 = .ok (.ireturn, 1) := by decide +kernel
theorem dX6_fill_0 : decode cX6_fill 0 = .ok (.iload_n 1, 1) := by decide +kernel
theorem dX6_fill_1 : decode cX6_fill 1 = .ok (.invokestatic 82, 3) := by decide +kernel
theorem dX6_fill_4 : decode cX6_fill 4 = .ok (.ifCond .eq 14, 3) := by decide +kernel
theorem dX6_fill_7 : decode cX6_fill 7 = .ok (.aload_n 0, 1) := by decide +kernel
theorem dX6_fill_8 : decode cX6_fill 8 = .ok (.getfield 14, 3) := by decide +kernel
theorem dX6_fill_11 : decode cX6_fill 11 = .ok (.iload_n 2, 1) := by decide +kernel
theorem dX6_fill_12 : decode cX6_fill 12 = .ok (.invokevirtual 72, 3) := by decide +kernel
theorem dX6_fill_15 : decode cX6_fill 15 = .ok (.ifCond .ne 5, 3) := by decide +kernel
theorem dX6_fill_18 : decode cX6_fill 18 = .ok (.iconst (-1), 1) := by decide +kernel
theorem dX6_fill_19 : decode cX6_fill 19 = .ok (.ireturn, 1) := by decide +kernel
theorem dX6_fill_20 : decode cX6_fill 20 = .ok (.iconst 0, 1) := by decide +kernel
theorem dX6_fill_21 : decode cX6_fill 21 = .ok (.istore_n 3, 1) := by decide +kernel
theorem dX6_fill_22 : decode cX6_fill 22 = .ok (.iload_n 3, 1) := by decide +kernel
theorem dX6_fill_23 : decode cX6_fill 23 = .ok (.iload_n 2, 1) := by decide +kernel
theorem dX6_fill_24 : decode cX6_fill 24 = .ok (.if_icmp .ge 17, 3) := by decide +kernel
theorem dX6_fill_27 : decode cX6_fill 27 = .ok (.aload_n 0, 1) := by decide +kernel
theorem dX6_fill_28 : decode cX6_fill 28 = .ok (.getfield 14, 3) := by decide +kernel
theorem dX6_fill_31 : decode cX6_fill 31 = .ok (.iload_n 1, 1) := by decide +kernel
theorem dX6_fill_32 : decode cX6_fill 32 = .ok (.invokevirtual 85, 3) := by decide +kernel
theorem dX6_fill_35 : decode cX6_fill 35 = .ok (.iinc 3 1, 3) := by decide +kernel
theorem dX6_fill_38 : decode cX6_fill 38 = .ok (.goto (-16), 3) := by decide +kernel
theorem dX6_fill_41 : decode cX6_fill 41 = .ok (.aload_n 0, 1) := by decide +kernel
theorem dX6_fill_42 : decode cX6_fill 42 = .ok (.getfield 14, 3) := by decide +kernel
theorem dX6_fill_45 : decode cX6_fill 45 = .ok (.getfield 79, 3) := by decide +kernel
theorem dX6_fill_48 : decode cX6_fill 48 = .ok (.ireturn, 1) := by decide +kernel
theorem dX6_again_0 : decode cX6_again 0 = .ok (.aload_n 0, 1) := by decide +kernel
theorem dX6_again_1 : decode cX6_again 1 = .ok (.getfield 14, 3) := by decide +kernel
theorem dX6_again_4 : decode cX6_again 4 = .ok (.iload_n 1, 1) := by decide +kernel
theorem dX6_again_5 : decode cX6_again 5 = .ok (.invokevirtual 88, 3) := by decide +kernel
theorem dX6_again_8 : decode cX6_again 8 = .ok (.ifCond .eq 14, 3) := by decide +kernel
theorem dX6_again_11 : decode cX6_again 11 = .ok (.aload_n 0, 1) := by decide +kernel
theorem dX6_again_12 : decode cX6_again 12 = .ok (.getfield 14, 3) := by decide +kernel
theorem dX6_again_15 : decode cX6_again 15 = .ok (.iload_n 2, 1) := by decide +kernel
theorem dX6_again_16 : decode cX6_again 16 = .ok (.invokevirtual 72, 3) := by decide +kernel
theorem dX6_again_19 : decode cX6_again 19 = .ok (.ifCond .ne 5, 3) := by decide +kernel
theorem dX6_again_22 : decode cX6_again 22 = .ok (.iconst (-1), 1) := by decide +kernel
theorem dX6_again_23 : decode cX6_again 23 = .ok (.ireturn, 1) := by decide +kernel
theorem dX6_again_24 : decode cX6_again 24 = .ok (.aload_n 0, 1) := by decide +kernel
theorem dX6_again_25 : decode cX6_again 25 = .ok (.getfield 14, 3) := by decide +kernel
theorem dX6_again_28 : decode cX6_again 28 = .ok (.iload_n 1, 1) := by decide +kernel
theorem dX6_again_29 : decode cX6_again 29 = .ok (.iload_n 2, 1) := by decide +kernel
theorem dX6_again_30 : decode cX6_again 30 = .ok (.invokevirtual 91, 3) := by decide +kernel
theorem dX6_again_33 : decode cX6_again 33 = .ok (.aload_n 0, 1) := by decide +kernel
theorem dX6_again_34 : decode cX6_again 34 = .ok (.getfield 14, 3) := by decide +kernel
theorem dX6_again_37 : decode cX6_again 37 = .ok (.getfield 79, 3) := by decide +kernel
theorem dX6_again_40 : decode cX6_again 40 = .ok (.ireturn, 1) := by decide +kernel
theorem dX6_cut_0 : decode cX6_cut 0 = .ok (.aload_n 0, 1) := by decide +kernel
theorem dX6_cut_1 : decode cX6_cut 1 = .ok (.getfield 14, 3) := by decide +kernel
theorem dX6_cut_4 : decode cX6_cut 4 = .ok (.iconst 0, 1) := by decide +kernel
theorem dX6_cut_5 : decode cX6_cut 5 = .ok (.iload_n 1, 1) := by decide +kernel
theorem dX6_cut_6 : decode cX6_cut 6 = .ok (.invokevirtual 95, 3) := by decide +kernel
theorem dX6_cut_9 : decode cX6_cut 9 = .ok (.ifCond .ne 5, 3) := by decide +kernel
theorem dX6_cut_12 : decode cX6_cut 12 = .ok (.iconst (-1), 1) := by decide +kernel
theorem dX6_cut_13 : decode cX6_cut 13 = .ok (.ireturn, 1) := by decide +kernel
theorem dX6_cut_14 : decode cX6_cut 14 = .ok (.aload_n 0, 1) := by decide +kernel
theorem dX6_cut_15 : decode cX6_cut 15 = .ok (.getfield 14, 3) := by decide +kernel
theorem dX6_cut_18 : decode cX6_cut 18 = .ok (.iload_n 1, 1) := by decide +kernel
theorem dX6_cut_19 : decode cX6_cut 19 = .ok (.invokevirtual 99, 3) := by decide +kernel
theorem dX6_cut_22 : decode cX6_cut 22 = .ok (.iload_n 1, 1) := by decide +kernel
theorem dX6_cut_23 : decode cX6_cut 23 = .ok (.ireturn, 1) := by decide +kernel
theorem dX6_set_0 : decode cX6_set 0 = .ok (.aload_n 0, 1) := by decide +kernel
theorem dX6_set_1 : decode cX6_set 1 = .ok (.getfield 14, 3) := by decide +kernel
theorem dX6_set_4 : decode cX6_set 4 = .ok (.iload_n 1, 1) := by decide +kernel
theorem dX6_set_5 : decode cX6_set 5 = .ok (.invokevirtual 88, 3) := by decide +kernel
theorem dX6_set_8 : decode cX6_set 8 = .ok (.ifCond .eq 10, 3) := by decide +kernel
theorem dX6_set_11 : decode cX6_set 11 = .ok (.iload_n 2, 1) := by decide +kernel
theorem dX6_set_12 : decode cX6_set 12 = .ok (.invokestatic 82, 3) := by decide +kernel
theorem dX6_set_15 : decode cX6_set 15 = .ok (.ifCond .ne 5, 3) := by decide +kernel
theorem dX6_set_18 : decode cX6_set 18 = .ok (.iconst (-1), 1) := by decide +kernel
theorem dX6_set_19 : decode cX6_set 19 = .ok (.ireturn, 1) := by decide +kernel
theorem dX6_set_20 : decode cX6_set 20 = .ok (.aload_n 0, 1) := by decide +kernel
theorem dX6_set_21 : decode cX6_set 21 = .ok (.getfield 14, 3) := by decide +kernel
theorem dX6_set_24 : decode cX6_set 24 = .ok (.iload_n 1, 1) := by decide +kernel
theorem dX6_set_25 : decode cX6_set 25 = .ok (.invokevirtual 102, 3) := by decide +kernel
theorem dX6_set_28 : decode cX6_set 28 = .ok (.istore_n 3, 1) := by decide +kernel
theorem dX6_set_29 : decode cX6_set 29 = .ok (.aload_n 0, 1) := by decide +kernel
theorem dX6_set_30 : decode cX6_set 30 = .ok (.getfield 14, 3) := by decide +kernel
theorem dX6_set_33 : decode cX6_set 33 = .ok (.iload_n 1, 1) := by decide +kernel
theorem dX6_set_34 : decode cX6_set 34 = .ok (.iload_n 2, 1) := by decide +kernel
theorem dX6_set_35 : decode cX6_set 35 = .ok (.invokevirtual 106, 3) := by decide +kernel
theorem dX6_set_38 : decode cX6_set 38 = .ok (.iload_n 3, 1) := by decide +kernel
theorem dX6_set_39 : decode cX6_set 39 = .ok (.ireturn, 1) := by decide +kernel
theorem dX6_take_0 : decode cX6_take 0 = .ok (.aload_n 0, 1) := by decide +kernel
theorem dX6_take_1 : decode cX6_take 1 = .ok (.getfield 18, 3) := by decide +kernel
theorem dX6_take_4 : decode cX6_take 4 = .ok (.getfield 79, 3) := by decide +kernel
theorem dX6_take_7 : decode cX6_take 7 = .ok (.sipush 20000, 3) := by decide +kernel
theorem dX6_take_10 : decode cX6_take 10 = .ok (.if_icmp .le 5, 3) := by decide +kernel
theorem dX6_take_13 : decode cX6_take 13 = .ok (.iconst (-1), 1) := by decide +kernel
theorem dX6_take_14 : decode cX6_take 14 = .ok (.ireturn, 1) := by decide +kernel
theorem dX6_take_15 : decode cX6_take 15 = .ok (.aload_n 0, 1) := by decide +kernel
theorem dX6_take_16 : decode cX6_take 16 = .ok (.getfield 14, 3) := by decide +kernel
theorem dX6_take_19 : decode cX6_take 19 = .ok (.aload_n 0, 1) := by decide +kernel
theorem dX6_take_20 : decode cX6_take 20 = .ok (.getfield 18, 3) := by decide +kernel
theorem dX6_take_23 : decode cX6_take 23 = .ok (.invokevirtual 109, 3) := by decide +kernel
theorem dX6_take_26 : decode cX6_take 26 = .ok (.aload_n 0, 1) := by decide +kernel
theorem dX6_take_27 : decode cX6_take 27 = .ok (.getfield 14, 3) := by decide +kernel
theorem dX6_take_30 : decode cX6_take 30 = .ok (.getfield 79, 3) := by decide +kernel
theorem dX6_take_33 : decode cX6_take 33 = .ok (.ireturn, 1) := by decide +kernel
theorem dX6_tape_0 : decode cX6_tape 0 = .ok (.aload_n 0, 1) := by decide +kernel
theorem dX6_tape_1 : decode cX6_tape 1 = .ok (.getfield 14, 3) := by decide +kernel
theorem dX6_tape_4 : decode cX6_tape 4 = .ok (.iload_n 1, 1) := by decide +kernel
theorem dX6_tape_5 : decode cX6_tape 5 = .ok (.invokevirtual 102, 3) := by decide +kernel
theorem dX6_tape_8 : decode cX6_tape 8 = .ok (.ireturn, 1) := by decide +kernel
theorem dX6_press_0 : decode cX6_press 0 = .ok (.aload_n 0, 1) := by decide +kernel
theorem dX6_press_1 : decode cX6_press 1 = .ok (.getfield 24, 3) := by decide +kernel
theorem dX6_press_4 : decode cX6_press 4 = .ok (.aload_n 0, 1) := by decide +kernel
theorem dX6_press_5 : decode cX6_press 5 = .ok (.getfield 14, 3) := by decide +kernel
theorem dX6_press_8 : decode cX6_press 8 = .ok (.iconst 0, 1) := by decide +kernel
theorem dX6_press_9 : decode cX6_press 9 = .ok (.aload_n 0, 1) := by decide +kernel
theorem dX6_press_10 : decode cX6_press 10 = .ok (.getfield 14, 3) := by decide +kernel
theorem dX6_press_13 : decode cX6_press 13 = .ok (.getfield 79, 3) := by decide +kernel
theorem dX6_press_16 : decode cX6_press 16 = .ok (.invokevirtual 113, 3) := by decide +kernel
theorem dX6_press_19 : decode cX6_press 19 = .ok (.aload_n 0, 1) := by decide +kernel
theorem dX6_press_20 : decode cX6_press 20 = .ok (.getfield 18, 3) := by decide +kernel
theorem dX6_press_23 : decode cX6_press 23 = .ok (.aload_n 0, 1) := by decide +kernel
theorem dX6_press_24 : decode cX6_press 24 = .ok (.getfield 24, 3) := by decide +kernel
theorem dX6_press_27 : decode cX6_press 27 = .ok (.getfield 117, 3) := by decide +kernel
theorem dX6_press_30 : decode cX6_press 30 = .ok (.invokevirtual 109, 3) := by decide +kernel
theorem dX6_press_33 : decode cX6_press 33 = .ok (.aload_n 0, 1) := by decide +kernel
theorem dX6_press_34 : decode cX6_press 34 = .ok (.getfield 18, 3) := by decide +kernel
theorem dX6_press_37 : decode cX6_press 37 = .ok (.getfield 79, 3) := by decide +kernel
theorem dX6_press_40 : decode cX6_press 40 = .ok (.ireturn, 1) := by decide +kernel
theorem dX6_open_0 : decode cX6_open 0 = .ok (.aload_n 0, 1) := by decide +kernel
theorem dX6_open_1 : decode cX6_open 1 = .ok (.getfield 38, 3) := by decide +kernel
theorem dX6_open_4 : decode cX6_open 4 = .ok (.aload_n 0, 1) := by decide +kernel
theorem dX6_open_5 : decode cX6_open 5 = .ok (.getfield 14, 3) := by decide +kernel
theorem dX6_open_8 : decode cX6_open 8 = .ok (.iconst 0, 1) := by decide +kernel
theorem dX6_open_9 : decode cX6_open 9 = .ok (.aload_n 0, 1) := by decide +kernel
theorem dX6_open_10 : decode cX6_open 10 = .ok (.getfield 14, 3) := by decide +kernel
theorem dX6_open_13 : decode cX6_open 13 = .ok (.getfield 79, 3) := by decide +kernel
theorem dX6_open_16 : decode cX6_open 16 = .ok (.invokevirtual 120, 3) := by decide +kernel
theorem dX6_open_19 : decode cX6_open 19 = .ok (.aload_n 0, 1) := by decide +kernel
theorem dX6_open_20 : decode cX6_open 20 = .ok (.aload_n 0, 1) := by decide +kernel
theorem dX6_open_21 : decode cX6_open 21 = .ok (.getfield 38, 3) := by decide +kernel
theorem dX6_open_24 : decode cX6_open 24 = .ok (.getfield 123, 3) := by decide +kernel
theorem dX6_open_27 : decode cX6_open 27 = .ok (.aload_n 0, 1) := by decide +kernel
theorem dX6_open_28 : decode cX6_open 28 = .ok (.getfield 38, 3) := by decide +kernel
theorem dX6_open_31 : decode cX6_open 31 = .ok (.getfield 126, 3) := by decide +kernel
theorem dX6_open_34 : decode cX6_open 34 = .ok (.iconst 0, 1) := by decide +kernel
theorem dX6_open_35 : decode cX6_open 35 = .ok (.iconst (-1), 1) := by decide +kernel
theorem dX6_open_36 : decode cX6_open 36 = .ok (.invokevirtual 129, 3) := by decide +kernel
theorem dX6_open_39 : decode cX6_open 39 = .ok (.aload_n 0, 1) := by decide +kernel
theorem dX6_open_40 : decode cX6_open 40 = .ok (.getfield 38, 3) := by decide +kernel
theorem dX6_open_43 : decode cX6_open 43 = .ok (.getfield 123, 3) := by decide +kernel
theorem dX6_open_46 : decode cX6_open 46 = .ok (.ifCond .eq 6, 3) := by decide +kernel
theorem dX6_open_49 : decode cX6_open 49 = .ok (.bipush (-2), 2) := by decide +kernel
theorem dX6_open_51 : decode cX6_open 51 = .ok (.ireturn, 1) := by decide +kernel
theorem dX6_open_52 : decode cX6_open 52 = .ok (.aload_n 0, 1) := by decide +kernel
theorem dX6_open_53 : decode cX6_open 53 = .ok (.getfield 18, 3) := by decide +kernel
theorem dX6_open_56 : decode cX6_open 56 = .ok (.aload_n 0, 1) := by decide +kernel
theorem dX6_open_57 : decode cX6_open 57 = .ok (.getfield 38, 3) := by decide +kernel
theorem dX6_open_60 : decode cX6_open 60 = .ok (.getfield 133, 3) := by decide +kernel
theorem dX6_open_63 : decode cX6_open 63 = .ok (.invokevirtual 109, 3) := by decide +kernel
theorem dX6_open_66 : decode cX6_open 66 = .ok (.aload_n 0, 1) := by decide +kernel
theorem dX6_open_67 : decode cX6_open 67 = .ok (.getfield 52, 3) := by decide +kernel
theorem dX6_open_70 : decode cX6_open 70 = .ok (.aload_n 0, 1) := by decide +kernel
theorem dX6_open_71 : decode cX6_open 71 = .ok (.getfield 38, 3) := by decide +kernel
theorem dX6_open_74 : decode cX6_open 74 = .ok (.getfield 136, 3) := by decide +kernel
theorem dX6_open_77 : decode cX6_open 77 = .ok (.invokevirtual 139, 3) := by decide +kernel
theorem dX6_open_80 : decode cX6_open 80 = .ok (.aload_n 0, 1) := by decide +kernel
theorem dX6_open_81 : decode cX6_open 81 = .ok (.getfield 18, 3) := by decide +kernel
theorem dX6_open_84 : decode cX6_open 84 = .ok (.getfield 79, 3) := by decide +kernel
theorem dX6_open_87 : decode cX6_open 87 = .ok (.ireturn, 1) := by decide +kernel
theorem dX6_stream_0 : decode cX6_stream 0 = .ok (.iload_n 1, 1) := by decide +kernel
theorem dX6_stream_1 : decode cX6_stream 1 = .ok (.iconst 1, 1) := by decide +kernel
theorem dX6_stream_2 : decode cX6_stream 2 = .ok (.if_icmp .lt 10, 3) := by decide +kernel
theorem dX6_stream_5 : decode cX6_stream 5 = .ok (.iload_n 1, 1) := by decide +kernel
theorem dX6_stream_6 : decode cX6_stream 6 = .ok (.sipush 20000, 3) := by decide +kernel
theorem dX6_stream_9 : decode cX6_stream 9 = .ok (.if_icmp .le 5, 3) := by decide +kernel
theorem dX6_stream_12 : decode cX6_stream 12 = .ok (.iconst (-1), 1) := by decide +kernel
theorem dX6_stream_13 : decode cX6_stream 13 = .ok (.ireturn, 1) := by decide +kernel
theorem dX6_stream_14 : decode cX6_stream 14 = .ok (.aload_n 0, 1) := by decide +kernel
theorem dX6_stream_15 : decode cX6_stream 15 = .ok (.getfield 31, 3) := by decide +kernel
theorem dX6_stream_18 : decode cX6_stream 18 = .ok (.aload_n 0, 1) := by decide +kernel
theorem dX6_stream_19 : decode cX6_stream 19 = .ok (.getfield 14, 3) := by decide +kernel
theorem dX6_stream_22 : decode cX6_stream 22 = .ok (.iload_n 1, 1) := by decide +kernel
theorem dX6_stream_23 : decode cX6_stream 23 = .ok (.aload_n 0, 1) := by decide +kernel
theorem dX6_stream_24 : decode cX6_stream 24 = .ok (.getfield 24, 3) := by decide +kernel
theorem dX6_stream_27 : decode cX6_stream 27 = .ok (.invokevirtual 142, 3) := by decide +kernel
theorem dX6_stream_30 : decode cX6_stream 30 = .ok (.ifCond .ne 5, 3) := by decide +kernel
theorem dX6_stream_33 : decode cX6_stream 33 = .ok (.iconst (-1), 1) := by decide +kernel
theorem dX6_stream_34 : decode cX6_stream 34 = .ok (.ireturn, 1) := by decide +kernel
theorem dX6_stream_35 : decode cX6_stream 35 = .ok (.aload_n 0, 1) := by decide +kernel
theorem dX6_stream_36 : decode cX6_stream 36 = .ok (.getfield 18, 3) := by decide +kernel
theorem dX6_stream_39 : decode cX6_stream 39 = .ok (.aload_n 0, 1) := by decide +kernel
theorem dX6_stream_40 : decode cX6_stream 40 = .ok (.getfield 31, 3) := by decide +kernel
theorem dX6_stream_43 : decode cX6_stream 43 = .ok (.getfield 146, 3) := by decide +kernel
theorem dX6_stream_46 : decode cX6_stream 46 = .ok (.invokevirtual 109, 3) := by decide +kernel
theorem dX6_stream_49 : decode cX6_stream 49 = .ok (.aload_n 0, 1) := by decide +kernel
theorem dX6_stream_50 : decode cX6_stream 50 = .ok (.getfield 18, 3) := by decide +kernel
theorem dX6_stream_53 : decode cX6_stream 53 = .ok (.getfield 79, 3) := by decide +kernel
theorem dX6_stream_56 : decode cX6_stream 56 = .ok (.ireturn, 1) := by decide +kernel
theorem dX6_unstream_0 : decode cX6_unstream 0 = .ok (.aload_n 0, 1) := by decide +kernel
theorem dX6_unstream_1 : decode cX6_unstream 1 = .ok (.getfield 45, 3) := by decide +kernel
theorem dX6_unstream_4 : decode cX6_unstream 4 = .ok (.aload_n 0, 1) := by decide +kernel
theorem dX6_unstream_5 : decode cX6_unstream 5 = .ok (.getfield 14, 3) := by decide +kernel
theorem dX6_unstream_8 : decode cX6_unstream 8 = .ok (.aload_n 0, 1) := by decide +kernel
theorem dX6_unstream_9 : decode cX6_unstream 9 = .ok (.getfield 38, 3) := by decide +kernel
theorem dX6_unstream_12 : decode cX6_unstream 12 = .ok (.invokevirtual 149, 3) := by decide +kernel
theorem dX6_unstream_15 : decode cX6_unstream 15 = .ok (.aload_n 0, 1) := by decide +kernel
theorem dX6_unstream_16 : decode cX6_unstream 16 = .ok (.getfield 45, 3) := by decide +kernel
theorem dX6_unstream_19 : decode cX6_unstream 19 = .ok (.getfield 153, 3) := by decide +kernel
theorem dX6_unstream_22 : decode cX6_unstream 22 = .ok (.bipush 16, 2) := by decide +kernel
theorem dX6_unstream_24 : decode cX6_unstream 24 = .ok (.if_icmp .ne 33, 3) := by decide +kernel
theorem dX6_unstream_27 : decode cX6_unstream 27 = .ok (.aload_n 0, 1) := by decide +kernel
theorem dX6_unstream_28 : decode cX6_unstream 28 = .ok (.bipush 16, 2) := by decide +kernel
theorem dX6_unstream_30 : decode cX6_unstream 30 = .ok (.aload_n 0, 1) := by decide +kernel
theorem dX6_unstream_31 : decode cX6_unstream 31 = .ok (.getfield 45, 3) := by decide +kernel
theorem dX6_unstream_34 : decode cX6_unstream 34 = .ok (.getfield 154, 3) := by decide +kernel
theorem dX6_unstream_37 : decode cX6_unstream 37 = .ok (.aload_n 0, 1) := by decide +kernel
theorem dX6_unstream_38 : decode cX6_unstream 38 = .ok (.getfield 38, 3) := by decide +kernel
theorem dX6_unstream_41 : decode cX6_unstream 41 = .ok (.getfield 123, 3) := by decide +kernel
theorem dX6_unstream_44 : decode cX6_unstream 44 = .ok (.aload_n 0, 1) := by decide +kernel
theorem dX6_unstream_45 : decode cX6_unstream 45 = .ok (.getfield 38, 3) := by decide +kernel
theorem dX6_unstream_48 : decode cX6_unstream 48 = .ok (.getfield 126, 3) := by decide +kernel
theorem dX6_unstream_51 : decode cX6_unstream 51 = .ok (.invokevirtual 129, 3) := by decide +kernel
theorem dX6_unstream_54 : decode cX6_unstream 54 = .ok (.goto 23, 3) := by decide +kernel
theorem dX6_unstream_57 : decode cX6_unstream 57 = .ok (.aload_n 0, 1) := by decide +kernel
theorem dX6_unstream_58 : decode cX6_unstream 58 = .ok (.aload_n 0, 1) := by decide +kernel
theorem dX6_unstream_59 : decode cX6_unstream 59 = .ok (.getfield 45, 3) := by decide +kernel
theorem dX6_unstream_62 : decode cX6_unstream 62 = .ok (.getfield 153, 3) := by decide +kernel
theorem dX6_unstream_65 : decode cX6_unstream 65 = .ok (.aload_n 0, 1) := by decide +kernel
theorem dX6_unstream_66 : decode cX6_unstream 66 = .ok (.getfield 45, 3) := by decide +kernel
theorem dX6_unstream_69 : decode cX6_unstream 69 = .ok (.getfield 154, 3) := by decide +kernel
theorem dX6_unstream_72 : decode cX6_unstream 72 = .ok (.iconst 0, 1) := by decide +kernel
theorem dX6_unstream_73 : decode cX6_unstream 73 = .ok (.iconst (-1), 1) := by decide +kernel
theorem dX6_unstream_74 : decode cX6_unstream 74 = .ok (.invokevirtual 129, 3) := by decide +kernel
theorem dX6_unstream_77 : decode cX6_unstream 77 = .ok (.aload_n 0, 1) := by decide +kernel
theorem dX6_unstream_78 : decode cX6_unstream 78 = .ok (.getfield 45, 3) := by decide +kernel
theorem dX6_unstream_81 : decode cX6_unstream 81 = .ok (.getfield 153, 3) := by decide +kernel
theorem dX6_unstream_84 : decode cX6_unstream 84 = .ok (.ifCond .eq 6, 3) := by decide +kernel
theorem dX6_unstream_87 : decode cX6_unstream 87 = .ok (.bipush (-2), 2) := by decide +kernel
theorem dX6_unstream_89 : decode cX6_unstream 89 = .ok (.ireturn, 1) := by decide +kernel
theorem dX6_unstream_90 : decode cX6_unstream 90 = .ok (.aload_n 0, 1) := by decide +kernel
theorem dX6_unstream_91 : decode cX6_unstream 91 = .ok (.getfield 18, 3) := by decide +kernel
theorem dX6_unstream_94 : decode cX6_unstream 94 = .ok (.aload_n 0, 1) := by decide +kernel
theorem dX6_unstream_95 : decode cX6_unstream 95 = .ok (.getfield 45, 3) := by decide +kernel
theorem dX6_unstream_98 : decode cX6_unstream 98 = .ok (.getfield 155, 3) := by decide +kernel
theorem dX6_unstream_101 : decode cX6_unstream 101 = .ok (.invokevirtual 109, 3) := by decide +kernel
theorem dX6_unstream_104 : decode cX6_unstream 104 = .ok (.aload_n 0, 1) := by decide +kernel
theorem dX6_unstream_105 : decode cX6_unstream 105 = .ok (.getfield 56, 3) := by decide +kernel
theorem dX6_unstream_108 : decode cX6_unstream 108 = .ok (.aload_n 0, 1) := by decide +kernel
theorem dX6_unstream_109 : decode cX6_unstream 109 = .ok (.getfield 45, 3) := by decide +kernel
theorem dX6_unstream_112 : decode cX6_unstream 112 = .ok (.getfield 156, 3) := by decide +kernel
theorem dX6_unstream_115 : decode cX6_unstream 115 = .ok (.invokevirtual 139, 3) := by decide +kernel
theorem dX6_unstream_118 : decode cX6_unstream 118 = .ok (.aload_n 0, 1) := by decide +kernel
theorem dX6_unstream_119 : decode cX6_unstream 119 = .ok (.getfield 18, 3) := by decide +kernel
theorem dX6_unstream_122 : decode cX6_unstream 122 = .ok (.getfield 79, 3) := by decide +kernel
theorem dX6_unstream_125 : decode cX6_unstream 125 = .ok (.ireturn, 1) := by decide +kernel
theorem dX6_fault_0 : decode cX6_fault 0 = .ok (.iload_n 1, 1) := by decide +kernel
theorem dX6_fault_1 : decode cX6_fault 1 = .ok (.tableswitch 51 0 3 #[31, 36, 41, 46], 31) := by decide +kernel
theorem dX6_fault_32 : decode cX6_fault 32 = .ok (.aload_n 0, 1) := by decide +kernel
theorem dX6_fault_33 : decode cX6_fault 33 = .ok (.getfield 59, 3) := by decide +kernel
theorem dX6_fault_36 : decode cX6_fault 36 = .ok (.ireturn, 1) := by decide +kernel
theorem dX6_fault_37 : decode cX6_fault 37 = .ok (.aload_n 0, 1) := by decide +kernel
theorem dX6_fault_38 : decode cX6_fault 38 = .ok (.getfield 63, 3) := by decide +kernel
theorem dX6_fault_41 : decode cX6_fault 41 = .ok (.ireturn, 1) := by decide +kernel
theorem dX6_fault_42 : decode cX6_fault 42 = .ok (.aload_n 0, 1) := by decide +kernel
theorem dX6_fault_43 : decode cX6_fault 43 = .ok (.getfield 66, 3) := by decide +kernel
theorem dX6_fault_46 : decode cX6_fault 46 = .ok (.ireturn, 1) := by decide +kernel
theorem dX6_fault_47 : decode cX6_fault 47 = .ok (.aload_n 0, 1) := by decide +kernel
theorem dX6_fault_48 : decode cX6_fault 48 = .ok (.getfield 69, 3) := by decide +kernel
theorem dX6_fault_51 : decode cX6_fault 51 = .ok (.ireturn, 1) := by decide +kernel
theorem dX6_fault_52 : decode cX6_fault 52 = .ok (.iconst (-1), 1) := by decide +kernel
theorem dX6_fault_53 : decode cX6_fault 53 = .ok (.ireturn, 1) := by decide +kernel
theorem dX6_element_0 : decode cX6_element 0 = .ok (.aload_n 0, 1) := by decide +kernel
theorem dX6_element_1 : decode cX6_element 1 = .ok (.getfield 52, 3) := by decide +kernel
theorem dX6_element_4 : decode cX6_element 4 = .ok (.iload_n 1, 1) := by decide +kernel
theorem dX6_element_5 : decode cX6_element 5 = .ok (.iload_n 2, 1) := by decide +kernel
theorem dX6_element_6 : decode cX6_element 6 = .ok (.invokevirtual 159, 3) := by decide +kernel
theorem dX6_element_9 : decode cX6_element 9 = .ok (.ireturn, 1) := by decide +kernel
theorem dX6_chunk_0 : decode cX6_chunk 0 = .ok (.aload_n 0, 1) := by decide +kernel
theorem dX6_chunk_1 : decode cX6_chunk 1 = .ok (.getfield 56, 3) := by decide +kernel
theorem dX6_chunk_4 : decode cX6_chunk 4 = .ok (.iload_n 1, 1) := by decide +kernel
theorem dX6_chunk_5 : decode cX6_chunk 5 = .ok (.iload_n 2, 1) := by decide +kernel
theorem dX6_chunk_6 : decode cX6_chunk 6 = .ok (.invokevirtual 159, 3) := by decide +kernel
theorem dX6_chunk_9 : decode cX6_chunk 9 = .ok (.ireturn, 1) := by decide +kernel
theorem dX6_sum_0 : decode cX6_sum 0 = .ok (.aload_n 0, 1) := by decide +kernel
theorem dX6_sum_1 : decode cX6_sum 1 = .ok (.getfield 14, 3) := by decide +kernel
theorem dX6_sum_4 : decode cX6_sum 4 = .ok (.iload_n 1, 1) := by decide +kernel
theorem dX6_sum_5 : decode cX6_sum 5 = .ok (.iload_n 2, 1) := by decide +kernel
theorem dX6_sum_6 : decode cX6_sum 6 = .ok (.invokevirtual 95, 3) := by decide +kernel
theorem dX6_sum_9 : decode cX6_sum 9 = .ok (.ifCond .ne 5, 3) := by decide +kernel
theorem dX6_sum_12 : decode cX6_sum 12 = .ok (.iconst 0, 1) := by decide +kernel
theorem dX6_sum_13 : decode cX6_sum 13 = .ok (.ireturn, 1) := by decide +kernel
theorem dX6_sum_14 : decode cX6_sum 14 = .ok (.iload_n 3, 1) := by decide +kernel
theorem dX6_sum_15 : decode cX6_sum 15 = .ok (.ifCond .eq 15, 3) := by decide +kernel
theorem dX6_sum_18 : decode cX6_sum 18 = .ok (.aload_n 0, 1) := by decide +kernel
theorem dX6_sum_19 : decode cX6_sum 19 = .ok (.getfield 14, 3) := by decide +kernel
theorem dX6_sum_22 : decode cX6_sum 22 = .ok (.iload_n 1, 1) := by decide +kernel
theorem dX6_sum_23 : decode cX6_sum 23 = .ok (.iload_n 2, 1) := by decide +kernel
theorem dX6_sum_24 : decode cX6_sum 24 = .ok (.invokevirtual 163, 3) := by decide +kernel
theorem dX6_sum_27 : decode cX6_sum 27 = .ok (.goto 12, 3) := by decide +kernel
theorem dX6_sum_30 : decode cX6_sum 30 = .ok (.aload_n 0, 1) := by decide +kernel
theorem dX6_sum_31 : decode cX6_sum 31 = .ok (.getfield 14, 3) := by decide +kernel
theorem dX6_sum_34 : decode cX6_sum 34 = .ok (.iload_n 1, 1) := by decide +kernel
theorem dX6_sum_35 : decode cX6_sum 35 = .ok (.iload_n 2, 1) := by decide +kernel
theorem dX6_sum_36 : decode cX6_sum 36 = .ok (.invokevirtual 166, 3) := by decide +kernel
theorem dX6_sum_39 : decode cX6_sum 39 = .ok (.ireturn, 1) := by decide +kernel
theorem dX6_about_0 : decode cX6_about 0 = .ok (.iload_n 1, 1) := by decide +kernel
theorem dX6_about_1 : decode cX6_about 1 = .ok (.tableswitch 87 0 5 #[39, 47, 55, 63, 71, 79], 39) := by decide +kernel
theorem dX6_about_40 : decode cX6_about 40 = .ok (.aload_n 0, 1) := by decide +kernel
theorem dX6_about_41 : decode cX6_about 41 = .ok (.getfield 14, 3) := by decide +kernel
theorem dX6_about_44 : decode cX6_about 44 = .ok (.getfield 79, 3) := by decide +kernel
theorem dX6_about_47 : decode cX6_about 47 = .ok (.ireturn, 1) := by decide +kernel
theorem dX6_about_48 : decode cX6_about 48 = .ok (.aload_n 0, 1) := by decide +kernel
theorem dX6_about_49 : decode cX6_about 49 = .ok (.getfield 18, 3) := by decide +kernel
theorem dX6_about_52 : decode cX6_about 52 = .ok (.getfield 79, 3) := by decide +kernel
theorem dX6_about_55 : decode cX6_about 55 = .ok (.ireturn, 1) := by decide +kernel
theorem dX6_about_56 : decode cX6_about 56 = .ok (.aload_n 0, 1) := by decide +kernel
theorem dX6_about_57 : decode cX6_about 57 = .ok (.getfield 52, 3) := by decide +kernel
theorem dX6_about_60 : decode cX6_about 60 = .ok (.getfield 176, 3) := by decide +kernel
theorem dX6_about_63 : decode cX6_about 63 = .ok (.ireturn, 1) := by decide +kernel
theorem dX6_about_64 : decode cX6_about 64 = .ok (.aload_n 0, 1) := by decide +kernel
theorem dX6_about_65 : decode cX6_about 65 = .ok (.getfield 52, 3) := by decide +kernel
theorem dX6_about_68 : decode cX6_about 68 = .ok (.getfield 177, 3) := by decide +kernel
theorem dX6_about_71 : decode cX6_about 71 = .ok (.ireturn, 1) := by decide +kernel
theorem dX6_about_72 : decode cX6_about 72 = .ok (.aload_n 0, 1) := by decide +kernel
theorem dX6_about_73 : decode cX6_about 73 = .ok (.getfield 56, 3) := by decide +kernel
theorem dX6_about_76 : decode cX6_about 76 = .ok (.getfield 176, 3) := by decide +kernel
theorem dX6_about_79 : decode cX6_about 79 = .ok (.ireturn, 1) := by decide +kernel
theorem dX6_about_80 : decode cX6_about 80 = .ok (.aload_n 0, 1) := by decide +kernel
theorem dX6_about_81 : decode cX6_about 81 = .ok (.getfield 56, 3) := by decide +kernel
theorem dX6_about_84 : decode cX6_about 84 = .ok (.getfield 177, 3) := by decide +kernel
theorem dX6_about_87 : decode cX6_about 87 = .ok (.ireturn, 1) := by decide +kernel
theorem dX6_about_88 : decode cX6_about 88 = .ok (.iconst (-1), 1) := by decide +kernel
theorem dX6_about_89 : decode cX6_about 89 = .ok (.ireturn, 1) := by decide +kernel
theorem dX6_isByte_0 : decode cX6_isByte 0 = .ok (.iload_n 0, 1) := by decide +kernel
theorem dX6_isByte_1 : decode cX6_isByte 1 = .ok (.ifCond .lt 14, 3) := by decide +kernel
theorem dX6_isByte_4 : decode cX6_isByte 4 = .ok (.iload_n 0, 1) := by decide +kernel
theorem dX6_isByte_5 : decode cX6_isByte 5 = .ok (.sipush 255, 3) := by decide +kernel
theorem dX6_isByte_8 : decode cX6_isByte 8 = .ok (.if_icmp .gt 7, 3) := by decide +kernel
theorem dX6_isByte_11 : decode cX6_isByte 11 = .ok (.iconst 1, 1) := by decide +kernel
theorem dX6_isByte_12 : decode cX6_isByte 12 = .ok (.goto 4, 3) := by decide +kernel
theorem dX6_isByte_15 : decode cX6_isByte 15 = .ok (.iconst 0, 1) := by decide +kernel
theorem dX6_isByte_16 : decode cX6_isByte 16 = .ok (.ireturn, 1) := by decide +kernel
theorem dX6_keepFault_0 : decode cX6_keepFault 0 = .ok (.aload_n 0, 1) := by decide +kernel
theorem dX6_keepFault_1 : decode cX6_keepFault 1 = .ok (.iload_n 1, 1) := by decide +kernel
theorem dX6_keepFault_2 : decode cX6_keepFault 2 = .ok (.putfield 59, 3) := by decide +kernel
theorem dX6_keepFault_5 : decode cX6_keepFault 5 = .ok (.aload_n 0, 1) := by decide +kernel
theorem dX6_keepFault_6 : decode cX6_keepFault 6 = .ok (.iload_n 2, 1) := by decide +kernel
theorem dX6_keepFault_7 : decode cX6_keepFault 7 = .ok (.putfield 63, 3) := by decide +kernel
theorem dX6_keepFault_10 : decode cX6_keepFault 10 = .ok (.aload_n 0, 1) := by decide +kernel
theorem dX6_keepFault_11 : decode cX6_keepFault 11 = .ok (.iload_n 3, 1) := by decide +kernel
theorem dX6_keepFault_12 : decode cX6_keepFault 12 = .ok (.putfield 66, 3) := by decide +kernel
theorem dX6_keepFault_15 : decode cX6_keepFault 15 = .ok (.aload_n 0, 1) := by decide +kernel
theorem dX6_keepFault_16 : decode cX6_keepFault 16 = .ok (.iload 4, 2) := by decide +kernel
theorem dX6_keepFault_18 : decode cX6_keepFault 18 = .ok (.putfield 69, 3) := by decide +kernel
theorem dX6_keepFault_21 : decode cX6_keepFault 21 = .ok (.return_, 1) := by decide +kernel
theorem dX7_init_0 : decode cX7_init 0 = .ok (.aload_n 0, 1) := by decide +kernel
theorem dX7_init_1 : decode cX7_init 1 = .ok (.invokespecial 1, 3) := by decide +kernel
theorem dX7_init_4 : decode cX7_init 4 = .ok (.aload_n 0, 1) := by decide +kernel
theorem dX7_init_5 : decode cX7_init 5 = .ok (.sipush 20000, 3) := by decide +kernel
theorem dX7_init_8 : decode cX7_init 8 = .ok (.newarray .byte, 2) := by decide +kernel
theorem dX7_init_10 : decode cX7_init 10 = .ok (.putfield 7, 3) := by decide +kernel
theorem dX7_init_13 : decode cX7_init 13 = .ok (.aload_n 0, 1) := by decide +kernel
theorem dX7_init_14 : decode cX7_init 14 = .ok (.sipush 24000, 3) := by decide +kernel
theorem dX7_init_17 : decode cX7_init 17 = .ok (.newarray .byte, 2) := by decide +kernel
theorem dX7_init_19 : decode cX7_init 19 = .ok (.putfield 13, 3) := by decide +kernel
theorem dX7_init_22 : decode cX7_init 22 = .ok (.aload_n 0, 1) := by decide +kernel
theorem dX7_init_23 : decode cX7_init 23 = .ok (.sipush 24000, 3) := by decide +kernel
theorem dX7_init_26 : decode cX7_init 26 = .ok (.newarray .byte, 2) := by decide +kernel
theorem dX7_init_28 : decode cX7_init 28 = .ok (.putfield 16, 3) := by decide +kernel
theorem dX7_init_31 : decode cX7_init 31 = .ok (.aload_n 0, 1) := by decide +kernel
theorem dX7_init_32 : decode cX7_init 32 = .ok (.sipush 24000, 3) := by decide +kernel
theorem dX7_init_35 : decode cX7_init 35 = .ok (.newarray .byte, 2) := by decide +kernel
theorem dX7_init_37 : decode cX7_init 37 = .ok (.putfield 19, 3) := by decide +kernel
theorem dX7_init_40 : decode cX7_init 40 = .ok (.aload_n 0, 1) := by decide +kernel
theorem dX7_init_41 : decode cX7_init 41 = .ok (.sipush 16384, 3) := by decide +kernel
theorem dX7_init_44 : decode cX7_init 44 = .ok (.newarray .int, 2) := by decide +kernel
theorem dX7_init_46 : decode cX7_init 46 = .ok (.putfield 22, 3) := by decide +kernel
theorem dX7_init_49 : decode cX7_init 49 = .ok (.aload_n 0, 1) := by decide +kernel
theorem dX7_init_50 : decode cX7_init 50 = .ok (.sipush 20000, 3) := by decide +kernel
theorem dX7_init_53 : decode cX7_init 53 = .ok (.newarray .int, 2) := by decide +kernel
theorem dX7_init_55 : decode cX7_init 55 = .ok (.putfield 26, 3) := by decide +kernel
theorem dX7_init_58 : decode cX7_init 58 = .ok (.aload_n 0, 1) := by decide +kernel
theorem dX7_init_59 : decode cX7_init 59 = .ok (.sipush 5000, 3) := by decide +kernel
theorem dX7_init_62 : decode cX7_init 62 = .ok (.newarray .int, 2) := by decide +kernel
theorem dX7_init_64 : decode cX7_init 64 = .ok (.putfield 29, 3) := by decide +kernel
theorem dX7_init_67 : decode cX7_init 67 = .ok (.aload_n 0, 1) := by decide +kernel
theorem dX7_init_68 : decode cX7_init 68 = .ok (.sipush 5000, 3) := by decide +kernel
theorem dX7_init_71 : decode cX7_init 71 = .ok (.newarray .int, 2) := by decide +kernel
theorem dX7_init_73 : decode cX7_init 73 = .ok (.putfield 32, 3) := by decide +kernel
theorem dX7_init_76 : decode cX7_init 76 = .ok (.aload_n 0, 1) := by decide +kernel
theorem dX7_init_77 : decode cX7_init 77 = .ok (.sipush 5000, 3) := by decide +kernel
theorem dX7_init_80 : decode cX7_init 80 = .ok (.newarray .int, 2) := by decide +kernel
theorem dX7_init_82 : decode cX7_init 82 = .ok (.putfield 35, 3) := by decide +kernel
theorem dX7_init_85 : decode cX7_init 85 = .ok (.aload_n 0, 1) := by decide +kernel
theorem dX7_init_86 : decode cX7_init 86 = .ok (.iconst (-1), 1) := by decide +kernel
theorem dX7_init_87 : decode cX7_init 87 = .ok (.putfield 38, 3) := by decide +kernel
theorem dX7_init_90 : decode cX7_init 90 = .ok (.aload_n 0, 1) := by decide +kernel
theorem dX7_init_91 : decode cX7_init 91 = .ok (.iconst (-1), 1) := by decide +kernel
theorem dX7_init_92 : decode cX7_init 92 = .ok (.putfield 42, 3) := by decide +kernel
theorem dX7_init_95 : decode cX7_init 95 = .ok (.aload_n 0, 1) := by decide +kernel
theorem dX7_init_96 : decode cX7_init 96 = .ok (.iconst (-1), 1) := by decide +kernel
theorem dX7_init_97 : decode cX7_init 97 = .ok (.putfield 45, 3) := by decide +kernel
theorem dX7_init_100 : decode cX7_init 100 = .ok (.aload_n 0, 1) := by decide +kernel
theorem dX7_init_101 : decode cX7_init 101 = .ok (.sipush 256, 3) := by decide +kernel
theorem dX7_init_104 : decode cX7_init 104 = .ok (.newarray .int, 2) := by decide +kernel
theorem dX7_init_106 : decode cX7_init 106 = .ok (.putfield 48, 3) := by decide +kernel
theorem dX7_init_109 : decode cX7_init 109 = .ok (.aload_n 0, 1) := by decide +kernel
theorem dX7_init_110 : decode cX7_init 110 = .ok (.sipush 5000, 3) := by decide +kernel
theorem dX7_init_113 : decode cX7_init 113 = .ok (.newarray .int, 2) := by decide +kernel
theorem dX7_init_115 : decode cX7_init 115 = .ok (.putfield 51, 3) := by decide +kernel
theorem dX7_init_118 : decode cX7_init 118 = .ok (.aload_n 0, 1) := by decide +kernel
theorem dX7_init_119 : decode cX7_init 119 = .ok (.sipush 20000, 3) := by decide +kernel
theorem dX7_init_122 : decode cX7_init 122 = .ok (.newarray .byte, 2) := by decide +kernel
theorem dX7_init_124 : decode cX7_init 124 = .ok (.putfield 54, 3) := by decide +kernel
theorem dX7_init_127 : decode cX7_init 127 = .ok (.iconst 0, 1) := by decide +kernel
theorem dX7_init_128 : decode cX7_init 128 = .ok (.istore_n 1, 1) := by decide +kernel
theorem dX7_init_129 : decode cX7_init 129 = .ok (.iload_n 1, 1) := by decide +kernel
theorem dX7_init_130 : decode cX7_init 130 = .ok (.sipush 256, 3) := by decide +kernel
theorem dX7_init_133 : decode cX7_init 133 = .ok (.if_icmp .ge 52, 3) := by decide +kernel
theorem dX7_init_136 : decode cX7_init 136 = .ok (.iload_n 1, 1) := by decide +kernel
theorem dX7_init_137 : decode cX7_init 137 = .ok (.istore_n 2, 1) := by decide +kernel
theorem dX7_init_138 : decode cX7_init 138 = .ok (.iconst 0, 1) := by decide +kernel
theorem dX7_init_139 : decode cX7_init 139 = .ok (.istore_n 3, 1) := by decide +kernel
theorem dX7_init_140 : decode cX7_init 140 = .ok (.iload_n 3, 1) := by decide +kernel
theorem dX7_init_141 : decode cX7_init 141 = .ok (.bipush 8, 2) := by decide +kernel
theorem dX7_init_143 : decode cX7_init 143 = .ok (.if_icmp .ge 29, 3) := by decide +kernel
theorem dX7_init_146 : decode cX7_init 146 = .ok (.iload_n 2, 1) := by decide +kernel
theorem dX7_init_147 : decode cX7_init 147 = .ok (.iconst 1, 1) := by decide +kernel
theorem dX7_init_148 : decode cX7_init 148 = .ok (.iand, 1) := by decide +kernel
theorem dX7_init_149 : decode cX7_init 149 = .ok (.iconst 1, 1) := by decide +kernel
theorem dX7_init_150 : decode cX7_init 150 = .ok (.if_icmp .ne 12, 3) := by decide +kernel
theorem dX7_init_153 : decode cX7_init 153 = .ok (.iload_n 2, 1) := by decide +kernel
theorem dX7_init_154 : decode cX7_init 154 = .ok (.iconst 1, 1) := by decide +kernel
theorem dX7_init_155 : decode cX7_init 155 = .ok (.iushr, 1) := by decide +kernel
theorem dX7_init_156 : decode cX7_init 156 = .ok (.ldc 57, 2) := by decide +kernel
theorem dX7_init_158 : decode cX7_init 158 = .ok (.ixor, 1) := by decide +kernel
theorem dX7_init_159 : decode cX7_init 159 = .ok (.goto 6, 3) := by decide +kernel
theorem dX7_init_162 : decode cX7_init 162 = .ok (.iload_n 2, 1) := by decide +kernel
theorem dX7_init_163 : decode cX7_init 163 = .ok (.iconst 1, 1) := by decide +kernel
theorem dX7_init_164 : decode cX7_init 164 = .ok (.iushr, 1) := by decide +kernel
theorem dX7_init_165 : decode cX7_init 165 = .ok (.istore_n 2, 1) := by decide +kernel
theorem dX7_init_166 : decode cX7_init 166 = .ok (.iinc 3 1, 3) := by decide +kernel
theorem dX7_init_169 : decode cX7_init 169 = .ok (.goto (-29), 3) := by decide +kernel
theorem dX7_init_172 : decode cX7_init 172 = .ok (.aload_n 0, 1) := by decide +kernel
theorem dX7_init_173 : decode cX7_init 173 = .ok (.getfield 48, 3) := by decide +kernel
theorem dX7_init_176 : decode cX7_init 176 = .ok (.iload_n 1, 1) := by decide +kernel
theorem dX7_init_177 : decode cX7_init 177 = .ok (.iload_n 2, 1) := by decide +kernel
theorem dX7_init_178 : decode cX7_init 178 = .ok (.iastore, 1) := by decide +kernel
theorem dX7_init_179 : decode cX7_init 179 = .ok (.iinc 1 1, 3) := by decide +kernel
theorem dX7_init_182 : decode cX7_init 182 = .ok (.goto (-53), 3) := by decide +kernel
theorem dX7_init_185 : decode cX7_init 185 = .ok (.return_, 1) := by decide +kernel
theorem dX7_thrown_0 : decode cX7_thrown 0 = .ok (.aload_n 0, 1) := by decide +kernel
theorem dX7_thrown_1 : decode cX7_thrown 1 = .ok (.getfield 58, 3) := by decide +kernel
theorem dX7_thrown_4 : decode cX7_thrown 4 = .ok (.ireturn, 1) := by decide +kernel
theorem dX7_feed_0 : decode cX7_feed 0 = .ok (.aload_n 0, 1) := by decide +kernel
theorem dX7_feed_1 : decode cX7_feed 1 = .ok (.iconst 0, 1) := by decide +kernel
theorem dX7_feed_2 : decode cX7_feed 2 = .ok (.putfield 58, 3) := by decide +kernel
theorem dX7_feed_5 : decode cX7_feed 5 = .ok (.aload_n 0, 1) := by decide +kernel
theorem dX7_feed_6 : decode cX7_feed 6 = .ok (.getfield 61, 3) := by decide +kernel
theorem dX7_feed_9 : decode cX7_feed 9 = .ok (.bipush 20, 2) := by decide +kernel
theorem dX7_feed_11 : decode cX7_feed 11 = .ok (.iadd, 1) := by decide +kernel
theorem dX7_feed_12 : decode cX7_feed 12 = .ok (.sipush 20000, 3) := by decide +kernel
theorem dX7_feed_15 : decode cX7_feed 15 = .ok (.if_icmp .le 5, 3) := by decide +kernel
theorem dX7_feed_18 : decode cX7_feed 18 = .ok (.iconst (-1), 1) := by decide +kernel
theorem dX7_feed_19 : decode cX7_feed 19 = .ok (.ireturn, 1) := by decide +kernel
theorem dX7_feed_20 : decode cX7_feed 20 = .ok (.aload_n 0, 1) := by decide +kernel
theorem dX7_feed_21 : decode cX7_feed 21 = .ok (.iload_n 1, 1) := by decide +kernel
theorem dX7_feed_22 : decode cX7_feed 22 = .ok (.invokevirtual 64, 3) := by decide +kernel
theorem dX7_feed_25 : decode cX7_feed 25 = .ok (.aload_n 0, 1) := by decide +kernel
theorem dX7_feed_26 : decode cX7_feed 26 = .ok (.iload_n 2, 1) := by decide +kernel
theorem dX7_feed_27 : decode cX7_feed 27 = .ok (.invokevirtual 64, 3) := by decide +kernel
theorem dX7_feed_30 : decode cX7_feed 30 = .ok (.aload_n 0, 1) := by decide +kernel
theorem dX7_feed_31 : decode cX7_feed 31 = .ok (.iload_n 3, 1) := by decide +kernel
theorem dX7_feed_32 : decode cX7_feed 32 = .ok (.invokevirtual 64, 3) := by decide +kernel
theorem dX7_feed_35 : decode cX7_feed 35 = .ok (.aload_n 0, 1) := by decide +kernel
theorem dX7_feed_36 : decode cX7_feed 36 = .ok (.iload 4, 2) := by decide +kernel
theorem dX7_feed_38 : decode cX7_feed 38 = .ok (.invokevirtual 64, 3) := by decide +kernel
theorem dX7_feed_41 : decode cX7_feed 41 = .ok (.aload_n 0, 1) := by decide +kernel
theorem dX7_feed_42 : decode cX7_feed 42 = .ok (.iload 5, 2) := by decide +kernel
theorem dX7_feed_44 : decode cX7_feed 44 = .ok (.invokevirtual 64, 3) := by decide +kernel
theorem dX7_feed_47 : decode cX7_feed 47 = .ok (.aload_n 0, 1) := by decide +kernel
theorem dX7_feed_48 : decode cX7_feed 48 = .ok (.getfield 61, 3) := by decide +kernel
theorem dX7_feed_51 : decode cX7_feed 51 = .ok (.ireturn, 1) := by decide +kernel
theorem dX7_word_0 : decode cX7_word 0 = .ok (.bipush 24, 2) := by decide +kernel
theorem dX7_word_2 : decode cX7_word 2 = .ok (.istore_n 2, 1) := by decide +kernel
theorem dX7_word_3 : decode cX7_word 3 = .ok (.iload_n 2, 1) := by decide +kernel
theorem dX7_word_4 : decode cX7_word 4 = .ok (.ifCond .lt 32, 3) := by decide +kernel
theorem dX7_word_7 : decode cX7_word 7 = .ok (.aload_n 0, 1) := by decide +kernel
theorem dX7_word_8 : decode cX7_word 8 = .ok (.getfield 7, 3) := by decide +kernel
theorem dX7_word_11 : decode cX7_word 11 = .ok (.aload_n 0, 1) := by decide +kernel
theorem dX7_word_12 : decode cX7_word 12 = .ok (.getfield 61, 3) := by decide +kernel
theorem dX7_word_15 : decode cX7_word 15 = .ok (.iload_n 1, 1) := by decide +kernel
theorem dX7_word_16 : decode cX7_word 16 = .ok (.iload_n 2, 1) := by decide +kernel
theorem dX7_word_17 : decode cX7_word 17 = .ok (.ishr, 1) := by decide +kernel
theorem dX7_word_18 : decode cX7_word 18 = .ok (.i2b, 1) := by decide +kernel
theorem dX7_word_19 : decode cX7_word 19 = .ok (.bastore, 1) := by decide +kernel
theorem dX7_word_20 : decode cX7_word 20 = .ok (.aload_n 0, 1) := by decide +kernel
theorem dX7_word_21 : decode cX7_word 21 = .ok (.dup, 1) := by decide +kernel
theorem dX7_word_22 : decode cX7_word 22 = .ok (.getfield 61, 3) := by decide +kernel
theorem dX7_word_25 : decode cX7_word 25 = .ok (.iconst 1, 1) := by decide +kernel
theorem dX7_word_26 : decode cX7_word 26 = .ok (.iadd, 1) := by decide +kernel
theorem dX7_word_27 : decode cX7_word 27 = .ok (.putfield 61, 3) := by decide +kernel
theorem dX7_word_30 : decode cX7_word 30 = .ok (.iinc 2 (-8), 3) := by decide +kernel
theorem dX7_word_33 : decode cX7_word 33 = .ok (.goto (-30), 3) := by decide +kernel
theorem dX7_word_36 : decode cX7_word 36 = .ok (.return_, 1) := by decide +kernel
theorem dX7_fill_0 : decode cX7_fill 0 = .ok (.aload_n 0, 1) := by decide +kernel
theorem dX7_fill_1 : decode cX7_fill 1 = .ok (.iconst 0, 1) := by decide +kernel
theorem dX7_fill_2 : decode cX7_fill 2 = .ok (.putfield 58, 3) := by decide +kernel
theorem dX7_fill_5 : decode cX7_fill 5 = .ok (.iload_n 1, 1) := by decide +kernel
theorem dX7_fill_6 : decode cX7_fill 6 = .ok (.ifCond .lt 26, 3) := by decide +kernel
theorem dX7_fill_9 : decode cX7_fill 9 = .ok (.iload_n 1, 1) := by decide +kernel
theorem dX7_fill_10 : decode cX7_fill 10 = .ok (.sipush 255, 3) := by decide +kernel
theorem dX7_fill_13 : decode cX7_fill 13 = .ok (.if_icmp .gt 19, 3) := by decide +kernel
theorem dX7_fill_16 : decode cX7_fill 16 = .ok (.iload_n 2, 1) := by decide +kernel
theorem dX7_fill_17 : decode cX7_fill 17 = .ok (.ifCond .lt 15, 3) := by decide +kernel
theorem dX7_fill_20 : decode cX7_fill 20 = .ok (.iload_n 2, 1) := by decide +kernel
theorem dX7_fill_21 : decode cX7_fill 21 = .ok (.sipush 20000, 3) := by decide +kernel
theorem dX7_fill_24 : decode cX7_fill 24 = .ok (.aload_n 0, 1) := by decide +kernel
theorem dX7_fill_25 : decode cX7_fill 25 = .ok (.getfield 61, 3) := by decide +kernel
theorem dX7_fill_28 : decode cX7_fill 28 = .ok (.isub, 1) := by decide +kernel
theorem dX7_fill_29 : decode cX7_fill 29 = .ok (.if_icmp .le 5, 3) := by decide +kernel
theorem dX7_fill_32 : decode cX7_fill 32 = .ok (.iconst (-1), 1) := by decide +kernel
theorem dX7_fill_33 : decode cX7_fill 33 = .ok (.ireturn, 1) := by decide +kernel
theorem dX7_fill_34 : decode cX7_fill 34 = .ok (.iconst 0, 1) := by decide +kernel
theorem dX7_fill_35 : decode cX7_fill 35 = .ok (.istore_n 3, 1) := by decide +kernel
theorem dX7_fill_36 : decode cX7_fill 36 = .ok (.iload_n 3, 1) := by decide +kernel
theorem dX7_fill_37 : decode cX7_fill 37 = .ok (.iload_n 2, 1) := by decide +kernel
theorem dX7_fill_38 : decode cX7_fill 38 = .ok (.if_icmp .ge 30, 3) := by decide +kernel
theorem dX7_fill_41 : decode cX7_fill 41 = .ok (.aload_n 0, 1) := by decide +kernel
theorem dX7_fill_42 : decode cX7_fill 42 = .ok (.getfield 7, 3) := by decide +kernel
theorem dX7_fill_45 : decode cX7_fill 45 = .ok (.aload_n 0, 1) := by decide +kernel
theorem dX7_fill_46 : decode cX7_fill 46 = .ok (.getfield 61, 3) := by decide +kernel
theorem dX7_fill_49 : decode cX7_fill 49 = .ok (.iload_n 1, 1) := by decide +kernel
theorem dX7_fill_50 : decode cX7_fill 50 = .ok (.i2b, 1) := by decide +kernel
theorem dX7_fill_51 : decode cX7_fill 51 = .ok (.bastore, 1) := by decide +kernel
theorem dX7_fill_52 : decode cX7_fill 52 = .ok (.aload_n 0, 1) := by decide +kernel
theorem dX7_fill_53 : decode cX7_fill 53 = .ok (.dup, 1) := by decide +kernel
theorem dX7_fill_54 : decode cX7_fill 54 = .ok (.getfield 61, 3) := by decide +kernel
theorem dX7_fill_57 : decode cX7_fill 57 = .ok (.iconst 1, 1) := by decide +kernel
theorem dX7_fill_58 : decode cX7_fill 58 = .ok (.iadd, 1) := by decide +kernel
theorem dX7_fill_59 : decode cX7_fill 59 = .ok (.putfield 61, 3) := by decide +kernel
theorem dX7_fill_62 : decode cX7_fill 62 = .ok (.iinc 3 1, 3) := by decide +kernel
theorem dX7_fill_65 : decode cX7_fill 65 = .ok (.goto (-29), 3) := by decide +kernel
theorem dX7_fill_68 : decode cX7_fill 68 = .ok (.aload_n 0, 1) := by decide +kernel
theorem dX7_fill_69 : decode cX7_fill 69 = .ok (.getfield 61, 3) := by decide +kernel
theorem dX7_fill_72 : decode cX7_fill 72 = .ok (.ireturn, 1) := by decide +kernel
theorem dX7_again_0 : decode cX7_again 0 = .ok (.aload_n 0, 1) := by decide +kernel
theorem dX7_again_1 : decode cX7_again 1 = .ok (.iconst 0, 1) := by decide +kernel
theorem dX7_again_2 : decode cX7_again 2 = .ok (.putfield 58, 3) := by decide +kernel
theorem dX7_again_5 : decode cX7_again 5 = .ok (.iload_n 1, 1) := by decide +kernel
theorem dX7_again_6 : decode cX7_again 6 = .ok (.ifCond .lt 27, 3) := by decide +kernel
theorem dX7_again_9 : decode cX7_again 9 = .ok (.iload_n 1, 1) := by decide +kernel
theorem dX7_again_10 : decode cX7_again 10 = .ok (.aload_n 0, 1) := by decide +kernel
theorem dX7_again_11 : decode cX7_again 11 = .ok (.getfield 61, 3) := by decide +kernel
theorem dX7_again_14 : decode cX7_again 14 = .ok (.if_icmp .ge 19, 3) := by decide +kernel
theorem dX7_again_17 : decode cX7_again 17 = .ok (.iload_n 2, 1) := by decide +kernel
theorem dX7_again_18 : decode cX7_again 18 = .ok (.ifCond .lt 15, 3) := by decide +kernel
theorem dX7_again_21 : decode cX7_again 21 = .ok (.iload_n 2, 1) := by decide +kernel
theorem dX7_again_22 : decode cX7_again 22 = .ok (.sipush 20000, 3) := by decide +kernel
theorem dX7_again_25 : decode cX7_again 25 = .ok (.aload_n 0, 1) := by decide +kernel
theorem dX7_again_26 : decode cX7_again 26 = .ok (.getfield 61, 3) := by decide +kernel
theorem dX7_again_29 : decode cX7_again 29 = .ok (.isub, 1) := by decide +kernel
theorem dX7_again_30 : decode cX7_again 30 = .ok (.if_icmp .le 5, 3) := by decide +kernel
theorem dX7_again_33 : decode cX7_again 33 = .ok (.iconst (-1), 1) := by decide +kernel
theorem dX7_again_34 : decode cX7_again 34 = .ok (.ireturn, 1) := by decide +kernel
theorem dX7_again_35 : decode cX7_again 35 = .ok (.iconst 0, 1) := by decide +kernel
theorem dX7_again_36 : decode cX7_again 36 = .ok (.istore_n 3, 1) := by decide +kernel
theorem dX7_again_37 : decode cX7_again 37 = .ok (.iload_n 3, 1) := by decide +kernel
theorem dX7_again_38 : decode cX7_again 38 = .ok (.iload_n 2, 1) := by decide +kernel
theorem dX7_again_39 : decode cX7_again 39 = .ok (.if_icmp .ge 36, 3) := by decide +kernel
theorem dX7_again_42 : decode cX7_again 42 = .ok (.aload_n 0, 1) := by decide +kernel
theorem dX7_again_43 : decode cX7_again 43 = .ok (.getfield 7, 3) := by decide +kernel
theorem dX7_again_46 : decode cX7_again 46 = .ok (.aload_n 0, 1) := by decide +kernel
theorem dX7_again_47 : decode cX7_again 47 = .ok (.getfield 61, 3) := by decide +kernel
theorem dX7_again_50 : decode cX7_again 50 = .ok (.aload_n 0, 1) := by decide +kernel
theorem dX7_again_51 : decode cX7_again 51 = .ok (.getfield 7, 3) := by decide +kernel
theorem dX7_again_54 : decode cX7_again 54 = .ok (.iload_n 1, 1) := by decide +kernel
theorem dX7_again_55 : decode cX7_again 55 = .ok (.iload_n 3, 1) := by decide +kernel
theorem dX7_again_56 : decode cX7_again 56 = .ok (.iadd, 1) := by decide +kernel
theorem dX7_again_57 : decode cX7_again 57 = .ok (.baload, 1) := by decide +kernel
theorem dX7_again_58 : decode cX7_again 58 = .ok (.bastore, 1) := by decide +kernel
theorem dX7_again_59 : decode cX7_again 59 = .ok (.aload_n 0, 1) := by decide +kernel
theorem dX7_again_60 : decode cX7_again 60 = .ok (.dup, 1) := by decide +kernel
theorem dX7_again_61 : decode cX7_again 61 = .ok (.getfield 61, 3) := by decide +kernel
theorem dX7_again_64 : decode cX7_again 64 = .ok (.iconst 1, 1) := by decide +kernel
theorem dX7_again_65 : decode cX7_again 65 = .ok (.iadd, 1) := by decide +kernel
theorem dX7_again_66 : decode cX7_again 66 = .ok (.putfield 61, 3) := by decide +kernel
theorem dX7_again_69 : decode cX7_again 69 = .ok (.iinc 3 1, 3) := by decide +kernel
theorem dX7_again_72 : decode cX7_again 72 = .ok (.goto (-35), 3) := by decide +kernel
theorem dX7_again_75 : decode cX7_again 75 = .ok (.aload_n 0, 1) := by decide +kernel
theorem dX7_again_76 : decode cX7_again 76 = .ok (.getfield 61, 3) := by decide +kernel
theorem dX7_again_79 : decode cX7_again 79 = .ok (.ireturn, 1) := by decide +kernel
theorem dX7_cut_0 : decode cX7_cut 0 = .ok (.aload_n 0, 1) := by decide +kernel
theorem dX7_cut_1 : decode cX7_cut 1 = .ok (.iconst 0, 1) := by decide +kernel
theorem dX7_cut_2 : decode cX7_cut 2 = .ok (.putfield 58, 3) := by decide +kernel
theorem dX7_cut_5 : decode cX7_cut 5 = .ok (.iload_n 1, 1) := by decide +kernel
theorem dX7_cut_6 : decode cX7_cut 6 = .ok (.ifCond .lt 11, 3) := by decide +kernel
theorem dX7_cut_9 : decode cX7_cut 9 = .ok (.iload_n 1, 1) := by decide +kernel
theorem dX7_cut_10 : decode cX7_cut 10 = .ok (.aload_n 0, 1) := by decide +kernel
theorem dX7_cut_11 : decode cX7_cut 11 = .ok (.getfield 61, 3) := by decide +kernel
theorem dX7_cut_14 : decode cX7_cut 14 = .ok (.if_icmp .le 5, 3) := by decide +kernel
theorem dX7_cut_17 : decode cX7_cut 17 = .ok (.iconst (-1), 1) := by decide +kernel
theorem dX7_cut_18 : decode cX7_cut 18 = .ok (.ireturn, 1) := by decide +kernel
theorem dX7_cut_19 : decode cX7_cut 19 = .ok (.aload_n 0, 1) := by decide +kernel
theorem dX7_cut_20 : decode cX7_cut 20 = .ok (.iload_n 1, 1) := by decide +kernel
theorem dX7_cut_21 : decode cX7_cut 21 = .ok (.putfield 61, 3) := by decide +kernel
theorem dX7_cut_24 : decode cX7_cut 24 = .ok (.iload_n 1, 1) := by decide +kernel
theorem dX7_cut_25 : decode cX7_cut 25 = .ok (.ireturn, 1) := by decide +kernel
theorem dX7_set_0 : decode cX7_set 0 = .ok (.aload_n 0, 1) := by decide +kernel
theorem dX7_set_1 : decode cX7_set 1 = .ok (.iconst 0, 1) := by decide +kernel
theorem dX7_set_2 : decode cX7_set 2 = .ok (.putfield 58, 3) := by decide +kernel
theorem dX7_set_5 : decode cX7_set 5 = .ok (.iload_n 1, 1) := by decide +kernel
theorem dX7_set_6 : decode cX7_set 6 = .ok (.ifCond .lt 22, 3) := by decide +kernel
theorem dX7_set_9 : decode cX7_set 9 = .ok (.iload_n 1, 1) := by decide +kernel
theorem dX7_set_10 : decode cX7_set 10 = .ok (.aload_n 0, 1) := by decide +kernel
theorem dX7_set_11 : decode cX7_set 11 = .ok (.getfield 61, 3) := by decide +kernel
theorem dX7_set_14 : decode cX7_set 14 = .ok (.if_icmp .ge 14, 3) := by decide +kernel
theorem dX7_set_17 : decode cX7_set 17 = .ok (.iload_n 2, 1) := by decide +kernel
theorem dX7_set_18 : decode cX7_set 18 = .ok (.ifCond .lt 10, 3) := by decide +kernel
theorem dX7_set_21 : decode cX7_set 21 = .ok (.iload_n 2, 1) := by decide +kernel
theorem dX7_set_22 : decode cX7_set 22 = .ok (.sipush 255, 3) := by decide +kernel
theorem dX7_set_25 : decode cX7_set 25 = .ok (.if_icmp .le 5, 3) := by decide +kernel
theorem dX7_set_28 : decode cX7_set 28 = .ok (.iconst (-1), 1) := by decide +kernel
theorem dX7_set_29 : decode cX7_set 29 = .ok (.ireturn, 1) := by decide +kernel
theorem dX7_set_30 : decode cX7_set 30 = .ok (.aload_n 0, 1) := by decide +kernel
theorem dX7_set_31 : decode cX7_set 31 = .ok (.getfield 7, 3) := by decide +kernel
theorem dX7_set_34 : decode cX7_set 34 = .ok (.iload_n 1, 1) := by decide +kernel
theorem dX7_set_35 : decode cX7_set 35 = .ok (.baload, 1) := by decide +kernel
theorem dX7_set_36 : decode cX7_set 36 = .ok (.sipush 255, 3) := by decide +kernel
theorem dX7_set_39 : decode cX7_set 39 = .ok (.iand, 1) := by decide +kernel
theorem dX7_set_40 : decode cX7_set 40 = .ok (.istore_n 3, 1) := by decide +kernel
theorem dX7_set_41 : decode cX7_set 41 = .ok (.aload_n 0, 1) := by decide +kernel
theorem dX7_set_42 : decode cX7_set 42 = .ok (.getfield 7, 3) := by decide +kernel
theorem dX7_set_45 : decode cX7_set 45 = .ok (.iload_n 1, 1) := by decide +kernel
theorem dX7_set_46 : decode cX7_set 46 = .ok (.iload_n 2, 1) := by decide +kernel
theorem dX7_set_47 : decode cX7_set 47 = .ok (.i2b, 1) := by decide +kernel
theorem dX7_set_48 : decode cX7_set 48 = .ok (.bastore, 1) := by decide +kernel
theorem dX7_set_49 : decode cX7_set 49 = .ok (.iload_n 3, 1) := by decide +kernel
theorem dX7_set_50 : decode cX7_set 50 = .ok (.ireturn, 1) := by decide +kernel
theorem dX7_take_0 : decode cX7_take 0 = .ok (.aload_n 0, 1) := by decide +kernel
theorem dX7_take_1 : decode cX7_take 1 = .ok (.iconst 0, 1) := by decide +kernel
theorem dX7_take_2 : decode cX7_take 2 = .ok (.putfield 58, 3) := by decide +kernel
theorem dX7_take_5 : decode cX7_take 5 = .ok (.aload_n 0, 1) := by decide +kernel
theorem dX7_take_6 : decode cX7_take 6 = .ok (.getfield 68, 3) := by decide +kernel
theorem dX7_take_9 : decode cX7_take 9 = .ok (.sipush 20000, 3) := by decide +kernel
theorem dX7_take_12 : decode cX7_take 12 = .ok (.if_icmp .le 5, 3) := by decide +kernel
theorem dX7_take_15 : decode cX7_take 15 = .ok (.iconst (-1), 1) := by decide +kernel
theorem dX7_take_16 : decode cX7_take 16 = .ok (.ireturn, 1) := by decide +kernel
theorem dX7_take_17 : decode cX7_take 17 = .ok (.iconst 0, 1) := by decide +kernel
theorem dX7_take_18 : decode cX7_take 18 = .ok (.istore_n 1, 1) := by decide +kernel
theorem dX7_take_19 : decode cX7_take 19 = .ok (.iload_n 1, 1) := by decide +kernel
theorem dX7_take_20 : decode cX7_take 20 = .ok (.aload_n 0, 1) := by decide +kernel
theorem dX7_take_21 : decode cX7_take 21 = .ok (.getfield 68, 3) := by decide +kernel
theorem dX7_take_24 : decode cX7_take 24 = .ok (.if_icmp .ge 21, 3) := by decide +kernel
theorem dX7_take_27 : decode cX7_take 27 = .ok (.aload_n 0, 1) := by decide +kernel
theorem dX7_take_28 : decode cX7_take 28 = .ok (.getfield 7, 3) := by decide +kernel
theorem dX7_take_31 : decode cX7_take 31 = .ok (.iload_n 1, 1) := by decide +kernel
theorem dX7_take_32 : decode cX7_take 32 = .ok (.aload_n 0, 1) := by decide +kernel
theorem dX7_take_33 : decode cX7_take 33 = .ok (.getfield 13, 3) := by decide +kernel
theorem dX7_take_36 : decode cX7_take 36 = .ok (.iload_n 1, 1) := by decide +kernel
theorem dX7_take_37 : decode cX7_take 37 = .ok (.baload, 1) := by decide +kernel
theorem dX7_take_38 : decode cX7_take 38 = .ok (.bastore, 1) := by decide +kernel
theorem dX7_take_39 : decode cX7_take 39 = .ok (.iinc 1 1, 3) := by decide +kernel
theorem dX7_take_42 : decode cX7_take 42 = .ok (.goto (-23), 3) := by decide +kernel
theorem dX7_take_45 : decode cX7_take 45 = .ok (.aload_n 0, 1) := by decide +kernel
theorem dX7_take_46 : decode cX7_take 46 = .ok (.aload_n 0, 1) := by decide +kernel
theorem dX7_take_47 : decode cX7_take 47 = .ok (.getfield 68, 3) := by decide +kernel
theorem dX7_take_50 : decode cX7_take 50 = .ok (.putfield 61, 3) := by decide +kernel
theorem dX7_take_53 : decode cX7_take 53 = .ok (.aload_n 0, 1) := by decide +kernel
theorem dX7_take_54 : decode cX7_take 54 = .ok (.getfield 61, 3) := by decide +kernel
theorem dX7_take_57 : decode cX7_take 57 = .ok (.ireturn, 1) := by decide +kernel
theorem dX7_tape_0 : decode cX7_tape 0 = .ok (.aload_n 0, 1) := by decide +kernel
theorem dX7_tape_1 : decode cX7_tape 1 = .ok (.iconst 0, 1) := by decide +kernel
theorem dX7_tape_2 : decode cX7_tape 2 = .ok (.putfield 58, 3) := by decide +kernel
theorem dX7_tape_5 : decode cX7_tape 5 = .ok (.iload_n 1, 1) := by decide +kernel
theorem dX7_tape_6 : decode cX7_tape 6 = .ok (.ifCond .lt 24, 3) := by decide +kernel
theorem dX7_tape_9 : decode cX7_tape 9 = .ok (.iload_n 1, 1) := by decide +kernel
theorem dX7_tape_10 : decode cX7_tape 10 = .ok (.aload_n 0, 1) := by decide +kernel
theorem dX7_tape_11 : decode cX7_tape 11 = .ok (.getfield 61, 3) := by decide +kernel
theorem dX7_tape_14 : decode cX7_tape 14 = .ok (.if_icmp .ge 16, 3) := by decide +kernel
theorem dX7_tape_17 : decode cX7_tape 17 = .ok (.aload_n 0, 1) := by decide +kernel
theorem dX7_tape_18 : decode cX7_tape 18 = .ok (.getfield 7, 3) := by decide +kernel
theorem dX7_tape_21 : decode cX7_tape 21 = .ok (.iload_n 1, 1) := by decide +kernel
theorem dX7_tape_22 : decode cX7_tape 22 = .ok (.baload, 1) := by decide +kernel
theorem dX7_tape_23 : decode cX7_tape 23 = .ok (.sipush 255, 3) := by decide +kernel
theorem dX7_tape_26 : decode cX7_tape 26 = .ok (.iand, 1) := by decide +kernel
theorem dX7_tape_27 : decode cX7_tape 27 = .ok (.goto 4, 3) := by decide +kernel
theorem dX7_tape_30 : decode cX7_tape 30 = .ok (.iconst (-1), 1) := by decide +kernel
theorem dX7_tape_31 : decode cX7_tape 31 = .ok (.ireturn, 1) := by decide +kernel
theorem dX7_out_0 : decode cX7_out 0 = .ok (.aload_n 0, 1) := by decide +kernel
theorem dX7_out_1 : decode cX7_out 1 = .ok (.iload_n 1, 1) := by decide +kernel
theorem dX7_out_2 : decode cX7_out 2 = .ok (.ifCond .lt 15, 3) := by decide +kernel
theorem dX7_out_5 : decode cX7_out 5 = .ok (.iload_n 1, 1) := by decide +kernel
theorem dX7_out_6 : decode cX7_out 6 = .ok (.aload_n 0, 1) := by decide +kernel
theorem dX7_out_7 : decode cX7_out 7 = .ok (.getfield 68, 3) := by decide +kernel
theorem dX7_out_10 : decode cX7_out 10 = .ok (.if_icmp .ge 7, 3) := by decide +kernel
theorem dX7_out_13 : decode cX7_out 13 = .ok (.iconst 0, 1) := by decide +kernel
theorem dX7_out_14 : decode cX7_out 14 = .ok (.goto 4, 3) := by decide +kernel
theorem dX7_out_17 : decode cX7_out 17 = .ok (.iconst 1, 1) := by decide +kernel
theorem dX7_out_18 : decode cX7_out 18 = .ok (.putfield 58, 3) := by decide +kernel
theorem dX7_out_21 : decode cX7_out 21 = .ok (.aload_n 0, 1) := by decide +kernel
theorem dX7_out_22 : decode cX7_out 22 = .ok (.getfield 58, 3) := by decide +kernel
theorem dX7_out_25 : decode cX7_out 25 = .ok (.ifCond .ne 16, 3) := by decide +kernel
theorem dX7_out_28 : decode cX7_out 28 = .ok (.aload_n 0, 1) := by decide +kernel
theorem dX7_out_29 : decode cX7_out 29 = .ok (.getfield 13, 3) := by decide +kernel
theorem dX7_out_32 : decode cX7_out 32 = .ok (.iload_n 1, 1) := by decide +kernel
theorem dX7_out_33 : decode cX7_out 33 = .ok (.baload, 1) := by decide +kernel
theorem dX7_out_34 : decode cX7_out 34 = .ok (.sipush 255, 3) := by decide +kernel
theorem dX7_out_37 : decode cX7_out 37 = .ok (.iand, 1) := by decide +kernel
theorem dX7_out_38 : decode cX7_out 38 = .ok (.goto 4, 3) := by decide +kernel
theorem dX7_out_41 : decode cX7_out 41 = .ok (.iconst 0, 1) := by decide +kernel
theorem dX7_out_42 : decode cX7_out 42 = .ok (.ireturn, 1) := by decide +kernel
theorem dX7_at_0 : decode cX7_at 0 = .ok (.aload_n 0, 1) := by decide +kernel
theorem dX7_at_1 : decode cX7_at 1 = .ok (.getfield 7, 3) := by decide +kernel
theorem dX7_at_4 : decode cX7_at 4 = .ok (.iload_n 1, 1) := by decide +kernel
theorem dX7_at_5 : decode cX7_at 5 = .ok (.baload, 1) := by decide +kernel
theorem dX7_at_6 : decode cX7_at 6 = .ok (.sipush 255, 3) := by decide +kernel
theorem dX7_at_9 : decode cX7_at 9 = .ok (.iand, 1) := by decide +kernel
theorem dX7_at_10 : decode cX7_at 10 = .ok (.ireturn, 1) := by decide +kernel
theorem dX7_keyOf_0 : decode cX7_keyOf 0 = .ok (.aload_n 0, 1) := by decide +kernel
theorem dX7_keyOf_1 : decode cX7_keyOf 1 = .ok (.iload_n 1, 1) := by decide +kernel
theorem dX7_keyOf_2 : decode cX7_keyOf 2 = .ok (.invokevirtual 71, 3) := by decide +kernel
theorem dX7_keyOf_5 : decode cX7_keyOf 5 = .ok (.aload_n 0, 1) := by decide +kernel
theorem dX7_keyOf_6 : decode cX7_keyOf 6 = .ok (.iload_n 1, 1) := by decide +kernel
theorem dX7_keyOf_7 : decode cX7_keyOf 7 = .ok (.iconst 1, 1) := by decide +kernel
theorem dX7_keyOf_8 : decode cX7_keyOf 8 = .ok (.iadd, 1) := by decide +kernel
theorem dX7_keyOf_9 : decode cX7_keyOf 9 = .ok (.invokevirtual 71, 3) := by decide +kernel
theorem dX7_keyOf_12 : decode cX7_keyOf 12 = .ok (.bipush 8, 2) := by decide +kernel
theorem dX7_keyOf_14 : decode cX7_keyOf 14 = .ok (.ishl, 1) := by decide +kernel
theorem dX7_keyOf_15 : decode cX7_keyOf 15 = .ok (.ior, 1) := by decide +kernel
theorem dX7_keyOf_16 : decode cX7_keyOf 16 = .ok (.aload_n 0, 1) := by decide +kernel
theorem dX7_keyOf_17 : decode cX7_keyOf 17 = .ok (.iload_n 1, 1) := by decide +kernel
theorem dX7_keyOf_18 : decode cX7_keyOf 18 = .ok (.iconst 2, 1) := by decide +kernel
theorem dX7_keyOf_19 : decode cX7_keyOf 19 = .ok (.iadd, 1) := by decide +kernel
theorem dX7_keyOf_20 : decode cX7_keyOf 20 = .ok (.invokevirtual 71, 3) := by decide +kernel
theorem dX7_keyOf_23 : decode cX7_keyOf 23 = .ok (.bipush 16, 2) := by decide +kernel
theorem dX7_keyOf_25 : decode cX7_keyOf 25 = .ok (.ishl, 1) := by decide +kernel
theorem dX7_keyOf_26 : decode cX7_keyOf 26 = .ok (.ior, 1) := by decide +kernel
theorem dX7_keyOf_27 : decode cX7_keyOf 27 = .ok (.aload_n 0, 1) := by decide +kernel
theorem dX7_keyOf_28 : decode cX7_keyOf 28 = .ok (.iload_n 1, 1) := by decide +kernel
theorem dX7_keyOf_29 : decode cX7_keyOf 29 = .ok (.iconst 3, 1) := by decide +kernel
theorem dX7_keyOf_30 : decode cX7_keyOf 30 = .ok (.iadd, 1) := by decide +kernel
theorem dX7_keyOf_31 : decode cX7_keyOf 31 = .ok (.invokevirtual 71, 3) := by decide +kernel
theorem dX7_keyOf_34 : decode cX7_keyOf 34 = .ok (.bipush 24, 2) := by decide +kernel
theorem dX7_keyOf_36 : decode cX7_keyOf 36 = .ok (.ishl, 1) := by decide +kernel
theorem dX7_keyOf_37 : decode cX7_keyOf 37 = .ok (.ior, 1) := by decide +kernel
theorem dX7_keyOf_38 : decode cX7_keyOf 38 = .ok (.istore_n 2, 1) := by decide +kernel
theorem dX7_keyOf_39 : decode cX7_keyOf 39 = .ok (.iload_n 2, 1) := by decide +kernel
theorem dX7_keyOf_40 : decode cX7_keyOf 40 = .ok (.ldc 75, 2) := by decide +kernel
theorem dX7_keyOf_42 : decode cX7_keyOf 42 = .ok (.imul, 1) := by decide +kernel
theorem dX7_keyOf_43 : decode cX7_keyOf 43 = .ok (.bipush 18, 2) := by decide +kernel
theorem dX7_keyOf_45 : decode cX7_keyOf 45 = .ok (.iushr, 1) := by decide +kernel
theorem dX7_keyOf_46 : decode cX7_keyOf 46 = .ok (.ireturn, 1) := by decide +kernel
theorem dX7_areFour_0 : decode cX7_areFour 0 = .ok (.aload_n 0, 1) := by decide +kernel
theorem dX7_areFour_1 : decode cX7_areFour 1 = .ok (.getfield 7, 3) := by decide +kernel
theorem dX7_areFour_4 : decode cX7_areFour 4 = .ok (.iload_n 1, 1) := by decide +kernel
theorem dX7_areFour_5 : decode cX7_areFour 5 = .ok (.baload, 1) := by decide +kernel
theorem dX7_areFour_6 : decode cX7_areFour 6 = .ok (.aload_n 0, 1) := by decide +kernel
theorem dX7_areFour_7 : decode cX7_areFour 7 = .ok (.getfield 7, 3) := by decide +kernel
theorem dX7_areFour_10 : decode cX7_areFour 10 = .ok (.iload_n 2, 1) := by decide +kernel
theorem dX7_areFour_11 : decode cX7_areFour 11 = .ok (.baload, 1) := by decide +kernel
theorem dX7_areFour_12 : decode cX7_areFour 12 = .ok (.if_icmp .ne 64, 3) := by decide +kernel
theorem dX7_areFour_15 : decode cX7_areFour 15 = .ok (.aload_n 0, 1) := by decide +kernel
theorem dX7_areFour_16 : decode cX7_areFour 16 = .ok (.getfield 7, 3) := by decide +kernel
theorem dX7_areFour_19 : decode cX7_areFour 19 = .ok (.iload_n 1, 1) := by decide +kernel
theorem dX7_areFour_20 : decode cX7_areFour 20 = .ok (.iconst 1, 1) := by decide +kernel
theorem dX7_areFour_21 : decode cX7_areFour 21 = .ok (.iadd, 1) := by decide +kernel
theorem dX7_areFour_22 : decode cX7_areFour 22 = .ok (.baload, 1) := by decide +kernel
theorem dX7_areFour_23 : decode cX7_areFour 23 = .ok (.aload_n 0, 1) := by decide +kernel
theorem dX7_areFour_24 : decode cX7_areFour 24 = .ok (.getfield 7, 3) := by decide +kernel
theorem dX7_areFour_27 : decode cX7_areFour 27 = .ok (.iload_n 2, 1) := by decide +kernel
theorem dX7_areFour_28 : decode cX7_areFour 28 = .ok (.iconst 1, 1) := by decide +kernel
theorem dX7_areFour_29 : decode cX7_areFour 29 = .ok (.iadd, 1) := by decide +kernel
theorem dX7_areFour_30 : decode cX7_areFour 30 = .ok (.baload, 1) := by decide +kernel
theorem dX7_areFour_31 : decode cX7_areFour 31 = .ok (.if_icmp .ne 45, 3) := by decide +kernel
theorem dX7_areFour_34 : decode cX7_areFour 34 = .ok (.aload_n 0, 1) := by decide +kernel
theorem dX7_areFour_35 : decode cX7_areFour 35 = .ok (.getfield 7, 3) := by decide +kernel
theorem dX7_areFour_38 : decode cX7_areFour 38 = .ok (.iload_n 1, 1) := by decide +kernel
theorem dX7_areFour_39 : decode cX7_areFour 39 = .ok (.iconst 2, 1) := by decide +kernel
theorem dX7_areFour_40 : decode cX7_areFour 40 = .ok (.iadd, 1) := by decide +kernel
theorem dX7_areFour_41 : decode cX7_areFour 41 = .ok (.baload, 1) := by decide +kernel
theorem dX7_areFour_42 : decode cX7_areFour 42 = .ok (.aload_n 0, 1) := by decide +kernel
theorem dX7_areFour_43 : decode cX7_areFour 43 = .ok (.getfield 7, 3) := by decide +kernel
theorem dX7_areFour_46 : decode cX7_areFour 46 = .ok (.iload_n 2, 1) := by decide +kernel
theorem dX7_areFour_47 : decode cX7_areFour 47 = .ok (.iconst 2, 1) := by decide +kernel
theorem dX7_areFour_48 : decode cX7_areFour 48 = .ok (.iadd, 1) := by decide +kernel
theorem dX7_areFour_49 : decode cX7_areFour 49 = .ok (.baload, 1) := by decide +kernel
theorem dX7_areFour_50 : decode cX7_areFour 50 = .ok (.if_icmp .ne 26, 3) := by decide +kernel
theorem dX7_areFour_53 : decode cX7_areFour 53 = .ok (.aload_n 0, 1) := by decide +kernel
theorem dX7_areFour_54 : decode cX7_areFour 54 = .ok (.getfield 7, 3) := by decide +kernel
theorem dX7_areFour_57 : decode cX7_areFour 57 = .ok (.iload_n 1, 1) := by decide +kernel
theorem dX7_areFour_58 : decode cX7_areFour 58 = .ok (.iconst 3, 1) := by decide +kernel
theorem dX7_areFour_59 : decode cX7_areFour 59 = .ok (.iadd, 1) := by decide +kernel
theorem dX7_areFour_60 : decode cX7_areFour 60 = .ok (.baload, 1) := by decide +kernel
theorem dX7_areFour_61 : decode cX7_areFour 61 = .ok (.aload_n 0, 1) := by decide +kernel
theorem dX7_areFour_62 : decode cX7_areFour 62 = .ok (.getfield 7, 3) := by decide +kernel
theorem dX7_areFour_65 : decode cX7_areFour 65 = .ok (.iload_n 2, 1) := by decide +kernel
theorem dX7_areFour_66 : decode cX7_areFour 66 = .ok (.iconst 3, 1) := by decide +kernel
theorem dX7_areFour_67 : decode cX7_areFour 67 = .ok (.iadd, 1) := by decide +kernel
theorem dX7_areFour_68 : decode cX7_areFour 68 = .ok (.baload, 1) := by decide +kernel
theorem dX7_areFour_69 : decode cX7_areFour 69 = .ok (.if_icmp .ne 7, 3) := by decide +kernel
theorem dX7_areFour_72 : decode cX7_areFour 72 = .ok (.iconst 1, 1) := by decide +kernel
theorem dX7_areFour_73 : decode cX7_areFour 73 = .ok (.goto 4, 3) := by decide +kernel
theorem dX7_areFour_76 : decode cX7_areFour 76 = .ok (.iconst 0, 1) := by decide +kernel
theorem dX7_areFour_77 : decode cX7_areFour 77 = .ok (.ireturn, 1) := by decide +kernel
theorem dX7_pack_0 : decode cX7_pack 0 = .ok (.aload_n 0, 1) := by decide +kernel
theorem dX7_pack_1 : decode cX7_pack 1 = .ok (.getfield 19, 3) := by decide +kernel
theorem dX7_pack_4 : decode cX7_pack 4 = .ok (.aload_n 0, 1) := by decide +kernel
theorem dX7_pack_5 : decode cX7_pack 5 = .ok (.getfield 76, 3) := by decide +kernel
theorem dX7_pack_8 : decode cX7_pack 8 = .ok (.iload_n 1, 1) := by decide +kernel
theorem dX7_pack_9 : decode cX7_pack 9 = .ok (.i2b, 1) := by decide +kernel
theorem dX7_pack_10 : decode cX7_pack 10 = .ok (.bastore, 1) := by decide +kernel
theorem dX7_pack_11 : decode cX7_pack 11 = .ok (.aload_n 0, 1) := by decide +kernel
theorem dX7_pack_12 : decode cX7_pack 12 = .ok (.dup, 1) := by decide +kernel
theorem dX7_pack_13 : decode cX7_pack 13 = .ok (.getfield 76, 3) := by decide +kernel
theorem dX7_pack_16 : decode cX7_pack 16 = .ok (.iconst 1, 1) := by decide +kernel
theorem dX7_pack_17 : decode cX7_pack 17 = .ok (.iadd, 1) := by decide +kernel
theorem dX7_pack_18 : decode cX7_pack 18 = .ok (.putfield 76, 3) := by decide +kernel
theorem dX7_pack_21 : decode cX7_pack 21 = .ok (.return_, 1) := by decide +kernel
theorem dX7_pressPart_0 : decode cX7_pressPart 0 = .ok (.iload_n 2, 1) := by decide +kernel
theorem dX7_pressPart_1 : decode cX7_pressPart 1 = .ok (.iload_n 1, 1) := by decide +kernel
theorem dX7_pressPart_2 : decode cX7_pressPart 2 = .ok (.isub, 1) := by decide +kernel
theorem dX7_pressPart_3 : decode cX7_pressPart 3 = .ok (.istore_n 3, 1) := by decide +kernel
theorem dX7_pressPart_4 : decode cX7_pressPart 4 = .ok (.iload_n 3, 1) := by decide +kernel
theorem dX7_pressPart_5 : decode cX7_pressPart 5 = .ok (.istore 4, 2) := by decide +kernel
theorem dX7_pressPart_7 : decode cX7_pressPart 7 = .ok (.iload 4, 2) := by decide +kernel
theorem dX7_pressPart_9 : decode cX7_pressPart 9 = .ok (.bipush 127, 2) := by decide +kernel
theorem dX7_pressPart_11 : decode cX7_pressPart 11 = .ok (.if_icmp .le 26, 3) := by decide +kernel
theorem dX7_pressPart_14 : decode cX7_pressPart 14 = .ok (.aload_n 0, 1) := by decide +kernel
theorem dX7_pressPart_15 : decode cX7_pressPart 15 = .ok (.sipush 128, 3) := by decide +kernel
theorem dX7_pressPart_18 : decode cX7_pressPart 18 = .ok (.iload 4, 2) := by decide +kernel
theorem dX7_pressPart_20 : decode cX7_pressPart 20 = .ok (.bipush 127, 2) := by decide +kernel
theorem dX7_pressPart_22 : decode cX7_pressPart 22 = .ok (.iand, 1) := by decide +kernel
theorem dX7_pressPart_23 : decode cX7_pressPart 23 = .ok (.ior, 1) := by decide +kernel
theorem dX7_pressPart_24 : decode cX7_pressPart 24 = .ok (.invokevirtual 79, 3) := by decide +kernel
theorem dX7_pressPart_27 : decode cX7_pressPart 27 = .ok (.iload 4, 2) := by decide +kernel
theorem dX7_pressPart_29 : decode cX7_pressPart 29 = .ok (.bipush 7, 2) := by decide +kernel
theorem dX7_pressPart_31 : decode cX7_pressPart 31 = .ok (.ishr, 1) := by decide +kernel
theorem dX7_pressPart_32 : decode cX7_pressPart 32 = .ok (.istore 4, 2) := by decide +kernel
theorem dX7_pressPart_34 : decode cX7_pressPart 34 = .ok (.goto (-27), 3) := by decide +kernel
theorem dX7_pressPart_37 : decode cX7_pressPart 37 = .ok (.aload_n 0, 1) := by decide +kernel
theorem dX7_pressPart_38 : decode cX7_pressPart 38 = .ok (.iload 4, 2) := by decide +kernel
theorem dX7_pressPart_40 : decode cX7_pressPart 40 = .ok (.invokevirtual 79, 3) := by decide +kernel
theorem dX7_pressPart_43 : decode cX7_pressPart 43 = .ok (.iconst 0, 1) := by decide +kernel
theorem dX7_pressPart_44 : decode cX7_pressPart 44 = .ok (.istore 5, 2) := by decide +kernel
theorem dX7_pressPart_46 : decode cX7_pressPart 46 = .ok (.iload 5, 2) := by decide +kernel
theorem dX7_pressPart_48 : decode cX7_pressPart 48 = .ok (.sipush 16384, 3) := by decide +kernel
theorem dX7_pressPart_51 : decode cX7_pressPart 51 = .ok (.if_icmp .ge 17, 3) := by decide +kernel
theorem dX7_pressPart_54 : decode cX7_pressPart 54 = .ok (.aload_n 0, 1) := by decide +kernel
theorem dX7_pressPart_55 : decode cX7_pressPart 55 = .ok (.getfield 22, 3) := by decide +kernel
theorem dX7_pressPart_58 : decode cX7_pressPart 58 = .ok (.iload 5, 2) := by decide +kernel
theorem dX7_pressPart_60 : decode cX7_pressPart 60 = .ok (.iconst (-1), 1) := by decide +kernel
theorem dX7_pressPart_61 : decode cX7_pressPart 61 = .ok (.iastore, 1) := by decide +kernel
theorem dX7_pressPart_62 : decode cX7_pressPart 62 = .ok (.iinc 5 1, 3) := by decide +kernel
theorem dX7_pressPart_65 : decode cX7_pressPart 65 = .ok (.goto (-19), 3) := by decide +kernel
theorem dX7_pressPart_68 : decode cX7_pressPart 68 = .ok (.iload_n 1, 1) := by decide +kernel
theorem dX7_pressPart_69 : decode cX7_pressPart 69 = .ok (.istore 5, 2) := by decide +kernel
theorem dX7_pressPart_71 : decode cX7_pressPart 71 = .ok (.iload_n 1, 1) := by decide +kernel
theorem dX7_pressPart_72 : decode cX7_pressPart 72 = .ok (.istore 6, 2) := by decide +kernel
theorem dX7_pressPart_74 : decode cX7_pressPart 74 = .ok (.iload_n 1, 1) := by decide +kernel
theorem dX7_pressPart_75 : decode cX7_pressPart 75 = .ok (.istore 7, 2) := by decide +kernel
theorem dX7_pressPart_77 : decode cX7_pressPart 77 = .ok (.iload 7, 2) := by decide +kernel
theorem dX7_pressPart_79 : decode cX7_pressPart 79 = .ok (.iconst 4, 1) := by decide +kernel
theorem dX7_pressPart_80 : decode cX7_pressPart 80 = .ok (.iadd, 1) := by decide +kernel
theorem dX7_pressPart_81 : decode cX7_pressPart 81 = .ok (.iload_n 2, 1) := by decide +kernel
theorem dX7_pressPart_82 : decode cX7_pressPart 82 = .ok (.if_icmp .gt 185, 3) := by decide +kernel
theorem dX7_pressPart_85 : decode cX7_pressPart 85 = .ok (.iload 5, 2) := by decide +kernel
theorem dX7_pressPart_87 : decode cX7_pressPart 87 = .ok (.iload 7, 2) := by decide +kernel
theorem dX7_pressPart_89 : decode cX7_pressPart 89 = .ok (.if_icmp .ge 48, 3) := by decide +kernel
theorem dX7_pressPart_92 : decode cX7_pressPart 92 = .ok (.iload 5, 2) := by decide +kernel
theorem dX7_pressPart_94 : decode cX7_pressPart 94 = .ok (.iconst 4, 1) := by decide +kernel
theorem dX7_pressPart_95 : decode cX7_pressPart 95 = .ok (.iadd, 1) := by decide +kernel
theorem dX7_pressPart_96 : decode cX7_pressPart 96 = .ok (.iload_n 2, 1) := by decide +kernel
theorem dX7_pressPart_97 : decode cX7_pressPart 97 = .ok (.if_icmp .gt 34, 3) := by decide +kernel
theorem dX7_pressPart_100 : decode cX7_pressPart 100 = .ok (.aload_n 0, 1) := by decide +kernel
theorem dX7_pressPart_101 : decode cX7_pressPart 101 = .ok (.iload 5, 2) := by decide +kernel
theorem dX7_pressPart_103 : decode cX7_pressPart 103 = .ok (.invokevirtual 82, 3) := by decide +kernel
theorem dX7_pressPart_106 : decode cX7_pressPart 106 = .ok (.istore 8, 2) := by decide +kernel
theorem dX7_pressPart_108 : decode cX7_pressPart 108 = .ok (.aload_n 0, 1) := by decide +kernel
theorem dX7_pressPart_109 : decode cX7_pressPart 109 = .ok (.getfield 26, 3) := by decide +kernel
theorem dX7_pressPart_112 : decode cX7_pressPart 112 = .ok (.iload 5, 2) := by decide +kernel
theorem dX7_pressPart_114 : decode cX7_pressPart 114 = .ok (.aload_n 0, 1) := by decide +kernel
theorem dX7_pressPart_115 : decode cX7_pressPart 115 = .ok (.getfield 22, 3) := by decide +kernel
theorem dX7_pressPart_118 : decode cX7_pressPart 118 = .ok (.iload 8, 2) := by decide +kernel
theorem dX7_pressPart_120 : decode cX7_pressPart 120 = .ok (.iaload, 1) := by decide +kernel
theorem dX7_pressPart_121 : decode cX7_pressPart 121 = .ok (.iastore, 1) := by decide +kernel
theorem dX7_pressPart_122 : decode cX7_pressPart 122 = .ok (.aload_n 0, 1) := by decide +kernel
theorem dX7_pressPart_123 : decode cX7_pressPart 123 = .ok (.getfield 22, 3) := by decide +kernel
theorem dX7_pressPart_126 : decode cX7_pressPart 126 = .ok (.iload 8, 2) := by decide +kernel
theorem dX7_pressPart_128 : decode cX7_pressPart 128 = .ok (.iload 5, 2) := by decide +kernel
theorem dX7_pressPart_130 : decode cX7_pressPart 130 = .ok (.iastore, 1) := by decide +kernel
