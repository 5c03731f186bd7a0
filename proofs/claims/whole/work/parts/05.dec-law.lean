theorem d_La_cell_0 : decode b_La_cell 0 = .ok (.iload_n 1, 1) := by decide +kernel
theorem d_La_cell_1 : decode b_La_cell 1 = .ok (.aload_n 0, 1) := by decide +kernel
theorem d_La_cell_2 : decode b_La_cell 2 = .ok (.arraylength, 1) := by decide +kernel
theorem d_La_cell_3 : decode b_La_cell 3 = .ok (.if_icmp .ge 9, 3) := by decide +kernel
theorem d_La_cell_6 : decode b_La_cell 6 = .ok (.aload_n 0, 1) := by decide +kernel
theorem d_La_cell_7 : decode b_La_cell 7 = .ok (.iload_n 1, 1) := by decide +kernel
theorem d_La_cell_8 : decode b_La_cell 8 = .ok (.iaload, 1) := by decide +kernel
theorem d_La_cell_9 : decode b_La_cell 9 = .ok (.goto 4, 3) := by decide +kernel
theorem d_La_cell_12 : decode b_La_cell 12 = .ok (.iconst 0, 1) := by decide +kernel
theorem d_La_cell_13 : decode b_La_cell 13 = .ok (.ireturn, 1) := by decide +kernel
theorem d_La_place_0 : decode b_La_place 0 = .ok (.aload 4, 2) := by decide +kernel
theorem d_La_place_2 : decode b_La_place 2 = .ok (.iconst 0, 1) := by decide +kernel
theorem d_La_place_3 : decode b_La_place 3 = .ok (.aload_n 0, 1) := by decide +kernel
theorem d_La_place_4 : decode b_La_place 4 = .ok (.iload_n 1, 1) := by decide +kernel
theorem d_La_place_5 : decode b_La_place 5 = .ok (.iload_n 2, 1) := by decide +kernel
theorem d_La_place_6 : decode b_La_place 6 = .ok (.iload_n 3, 1) := by decide +kernel
theorem d_La_place_7 : decode b_La_place 7 = .ok (.invokevirtual 7, 3) := by decide +kernel
theorem d_La_place_10 : decode b_La_place 10 = .ok (.i2l, 1) := by decide +kernel
theorem d_La_place_11 : decode b_La_place 11 = .ok (.lastore, 1) := by decide +kernel
theorem d_La_place_12 : decode b_La_place 12 = .ok (.goto 11, 3) := by decide +kernel
theorem d_La_place_15 : decode b_La_place 15 = .ok (.astore 5, 2) := by decide +kernel
theorem d_La_place_17 : decode b_La_place 17 = .ok (.iconst 1, 1) := by decide +kernel
theorem d_La_place_18 : decode b_La_place 18 = .ok (.ireturn, 1) := by decide +kernel
theorem d_La_place_19 : decode b_La_place 19 = .ok (.astore 5, 2) := by decide +kernel
theorem d_La_place_21 : decode b_La_place 21 = .ok (.iconst 2, 1) := by decide +kernel
theorem d_La_place_22 : decode b_La_place 22 = .ok (.ireturn, 1) := by decide +kernel
theorem d_La_place_23 : decode b_La_place 23 = .ok (.iconst 0, 1) := by decide +kernel
theorem d_La_place_24 : decode b_La_place 24 = .ok (.ireturn, 1) := by decide +kernel
theorem d_La_lift_0 : decode b_La_lift 0 = .ok (.aload 7, 2) := by decide +kernel
theorem d_La_lift_2 : decode b_La_lift 2 = .ok (.iconst 0, 1) := by decide +kernel
theorem d_La_lift_3 : decode b_La_lift 3 = .ok (.aload_n 0, 1) := by decide +kernel
theorem d_La_lift_4 : decode b_La_lift 4 = .ok (.iload_n 1, 1) := by decide +kernel
theorem d_La_lift_5 : decode b_La_lift 5 = .ok (.iload_n 2, 1) := by decide +kernel
theorem d_La_lift_6 : decode b_La_lift 6 = .ok (.iload_n 3, 1) := by decide +kernel
theorem d_La_lift_7 : decode b_La_lift 7 = .ok (.iload 4, 2) := by decide +kernel
theorem d_La_lift_9 : decode b_La_lift 9 = .ok (.iload 5, 2) := by decide +kernel
theorem d_La_lift_11 : decode b_La_lift 11 = .ok (.iload 6, 2) := by decide +kernel
theorem d_La_lift_13 : decode b_La_lift 13 = .ok (.invokevirtual 17, 3) := by decide +kernel
theorem d_La_lift_16 : decode b_La_lift 16 = .ok (.i2l, 1) := by decide +kernel
theorem d_La_lift_17 : decode b_La_lift 17 = .ok (.lastore, 1) := by decide +kernel
theorem d_La_lift_18 : decode b_La_lift 18 = .ok (.goto 11, 3) := by decide +kernel
theorem d_La_lift_21 : decode b_La_lift 21 = .ok (.astore 8, 2) := by decide +kernel
theorem d_La_lift_23 : decode b_La_lift 23 = .ok (.iconst 1, 1) := by decide +kernel
theorem d_La_lift_24 : decode b_La_lift 24 = .ok (.ireturn, 1) := by decide +kernel
theorem d_La_lift_25 : decode b_La_lift 25 = .ok (.astore 8, 2) := by decide +kernel
theorem d_La_lift_27 : decode b_La_lift 27 = .ok (.iconst 2, 1) := by decide +kernel
theorem d_La_lift_28 : decode b_La_lift 28 = .ok (.ireturn, 1) := by decide +kernel
theorem d_La_lift_29 : decode b_La_lift 29 = .ok (.iconst 0, 1) := by decide +kernel
theorem d_La_lift_30 : decode b_La_lift 30 = .ok (.ireturn, 1) := by decide +kernel
theorem d_La_part_0 : decode b_La_part 0 = .ok (.aload 7, 2) := by decide +kernel
theorem d_La_part_2 : decode b_La_part 2 = .ok (.iconst 0, 1) := by decide +kernel
theorem d_La_part_3 : decode b_La_part 3 = .ok (.aload_n 0, 1) := by decide +kernel
theorem d_La_part_4 : decode b_La_part 4 = .ok (.iload_n 1, 1) := by decide +kernel
theorem d_La_part_5 : decode b_La_part 5 = .ok (.iload_n 2, 1) := by decide +kernel
theorem d_La_part_6 : decode b_La_part 6 = .ok (.iload_n 3, 1) := by decide +kernel
theorem d_La_part_7 : decode b_La_part 7 = .ok (.iload 4, 2) := by decide +kernel
theorem d_La_part_9 : decode b_La_part 9 = .ok (.iload 5, 2) := by decide +kernel
theorem d_La_part_11 : decode b_La_part 11 = .ok (.iload 6, 2) := by decide +kernel
theorem d_La_part_13 : decode b_La_part 13 = .ok (.invokevirtual 21, 3) := by decide +kernel
theorem d_La_part_16 : decode b_La_part 16 = .ok (.i2l, 1) := by decide +kernel
theorem d_La_part_17 : decode b_La_part 17 = .ok (.lastore, 1) := by decide +kernel
theorem d_La_part_18 : decode b_La_part 18 = .ok (.goto 11, 3) := by decide +kernel
theorem d_La_part_21 : decode b_La_part 21 = .ok (.astore 8, 2) := by decide +kernel
theorem d_La_part_23 : decode b_La_part 23 = .ok (.iconst 1, 1) := by decide +kernel
theorem d_La_part_24 : decode b_La_part 24 = .ok (.ireturn, 1) := by decide +kernel
theorem d_La_part_25 : decode b_La_part 25 = .ok (.astore 8, 2) := by decide +kernel
theorem d_La_part_27 : decode b_La_part 27 = .ok (.iconst 2, 1) := by decide +kernel
theorem d_La_part_28 : decode b_La_part 28 = .ok (.ireturn, 1) := by decide +kernel
theorem d_La_part_29 : decode b_La_part 29 = .ok (.iconst 0, 1) := by decide +kernel
theorem d_La_part_30 : decode b_La_part 30 = .ok (.ireturn, 1) := by decide +kernel
theorem d_La_person_0 : decode b_La_person 0 = .ok (.aload 4, 2) := by decide +kernel
theorem d_La_person_2 : decode b_La_person 2 = .ok (.iconst 0, 1) := by decide +kernel
theorem d_La_person_3 : decode b_La_person 3 = .ok (.aload_n 0, 1) := by decide +kernel
theorem d_La_person_4 : decode b_La_person 4 = .ok (.iload_n 1, 1) := by decide +kernel
theorem d_La_person_5 : decode b_La_person 5 = .ok (.iload_n 2, 1) := by decide +kernel
theorem d_La_person_6 : decode b_La_person 6 = .ok (.iload_n 3, 1) := by decide +kernel
theorem d_La_person_7 : decode b_La_person 7 = .ok (.invokevirtual 24, 3) := by decide +kernel
theorem d_La_person_10 : decode b_La_person 10 = .ok (.i2l, 1) := by decide +kernel
theorem d_La_person_11 : decode b_La_person 11 = .ok (.lastore, 1) := by decide +kernel
theorem d_La_person_12 : decode b_La_person 12 = .ok (.goto 11, 3) := by decide +kernel
theorem d_La_person_15 : decode b_La_person 15 = .ok (.astore 5, 2) := by decide +kernel
theorem d_La_person_17 : decode b_La_person 17 = .ok (.iconst 1, 1) := by decide +kernel
theorem d_La_person_18 : decode b_La_person 18 = .ok (.ireturn, 1) := by decide +kernel
theorem d_La_person_19 : decode b_La_person 19 = .ok (.astore 5, 2) := by decide +kernel
theorem d_La_person_21 : decode b_La_person 21 = .ok (.iconst 2, 1) := by decide +kernel
theorem d_La_person_22 : decode b_La_person 22 = .ok (.ireturn, 1) := by decide +kernel
theorem d_La_person_23 : decode b_La_person 23 = .ok (.iconst 0, 1) := by decide +kernel
theorem d_La_person_24 : decode b_La_person 24 = .ok (.ireturn, 1) := by decide +kernel
theorem d_La_used_0 : decode b_La_used 0 = .ok (.aload 4, 2) := by decide +kernel
theorem d_La_used_2 : decode b_La_used 2 = .ok (.iconst 0, 1) := by decide +kernel
theorem d_La_used_3 : decode b_La_used 3 = .ok (.aload_n 0, 1) := by decide +kernel
theorem d_La_used_4 : decode b_La_used 4 = .ok (.iload_n 1, 1) := by decide +kernel
theorem d_La_used_5 : decode b_La_used 5 = .ok (.iload_n 2, 1) := by decide +kernel
theorem d_La_used_6 : decode b_La_used 6 = .ok (.iload_n 3, 1) := by decide +kernel
theorem d_La_used_7 : decode b_La_used 7 = .ok (.invokevirtual 27, 3) := by decide +kernel
theorem d_La_used_10 : decode b_La_used 10 = .ok (.i2l, 1) := by decide +kernel
theorem d_La_used_11 : decode b_La_used 11 = .ok (.lastore, 1) := by decide +kernel
theorem d_La_used_12 : decode b_La_used 12 = .ok (.goto 7, 3) := by decide +kernel
theorem d_La_used_15 : decode b_La_used 15 = .ok (.astore 5, 2) := by decide +kernel
theorem d_La_used_17 : decode b_La_used 17 = .ok (.iconst 1, 1) := by decide +kernel
theorem d_La_used_18 : decode b_La_used 18 = .ok (.ireturn, 1) := by decide +kernel
theorem d_La_used_19 : decode b_La_used 19 = .ok (.iconst 0, 1) := by decide +kernel
theorem d_La_used_20 : decode b_La_used 20 = .ok (.ireturn, 1) := by decide +kernel
theorem d_La_stock_0 : decode b_La_stock 0 = .ok (.aload_n 3, 1) := by decide +kernel
theorem d_La_stock_1 : decode b_La_stock 1 = .ok (.iconst 0, 1) := by decide +kernel
theorem d_La_stock_2 : decode b_La_stock 2 = .ok (.aload_n 0, 1) := by decide +kernel
theorem d_La_stock_3 : decode b_La_stock 3 = .ok (.iload_n 1, 1) := by decide +kernel
theorem d_La_stock_4 : decode b_La_stock 4 = .ok (.iload_n 2, 1) := by decide +kernel
theorem d_La_stock_5 : decode b_La_stock 5 = .ok (.invokevirtual 30, 3) := by decide +kernel
theorem d_La_stock_8 : decode b_La_stock 8 = .ok (.i2l, 1) := by decide +kernel
theorem d_La_stock_9 : decode b_La_stock 9 = .ok (.lastore, 1) := by decide +kernel
theorem d_La_stock_10 : decode b_La_stock 10 = .ok (.goto 7, 3) := by decide +kernel
theorem d_La_stock_13 : decode b_La_stock 13 = .ok (.astore 4, 2) := by decide +kernel
theorem d_La_stock_15 : decode b_La_stock 15 = .ok (.iconst 1, 1) := by decide +kernel
theorem d_La_stock_16 : decode b_La_stock 16 = .ok (.ireturn, 1) := by decide +kernel
theorem d_La_stock_17 : decode b_La_stock 17 = .ok (.iconst 0, 1) := by decide +kernel
theorem d_La_stock_18 : decode b_La_stock 18 = .ok (.ireturn, 1) := by decide +kernel
theorem d_La_walk_0 : decode b_La_walk 0 = .ok (.aload_n 3, 1) := by decide +kernel
theorem d_La_walk_1 : decode b_La_walk 1 = .ok (.iconst 0, 1) := by decide +kernel
theorem d_La_walk_2 : decode b_La_walk 2 = .ok (.aload_n 0, 1) := by decide +kernel
theorem d_La_walk_3 : decode b_La_walk 3 = .ok (.iload_n 1, 1) := by decide +kernel
theorem d_La_walk_4 : decode b_La_walk 4 = .ok (.iload_n 2, 1) := by decide +kernel
theorem d_La_walk_5 : decode b_La_walk 5 = .ok (.invokevirtual 34, 3) := by decide +kernel
theorem d_La_walk_8 : decode b_La_walk 8 = .ok (.i2l, 1) := by decide +kernel
theorem d_La_walk_9 : decode b_La_walk 9 = .ok (.lastore, 1) := by decide +kernel
theorem d_La_walk_10 : decode b_La_walk 10 = .ok (.goto 7, 3) := by decide +kernel
theorem d_La_walk_13 : decode b_La_walk 13 = .ok (.astore 4, 2) := by decide +kernel
theorem d_La_walk_15 : decode b_La_walk 15 = .ok (.iconst 1, 1) := by decide +kernel
theorem d_La_walk_16 : decode b_La_walk 16 = .ok (.ireturn, 1) := by decide +kernel
theorem d_La_walk_17 : decode b_La_walk 17 = .ok (.iconst 0, 1) := by decide +kernel
theorem d_La_walk_18 : decode b_La_walk 18 = .ok (.ireturn, 1) := by decide +kernel
theorem d_La_tour_0 : decode b_La_tour 0 = .ok (.aload_n 3, 1) := by decide +kernel
theorem d_La_tour_1 : decode b_La_tour 1 = .ok (.iconst 0, 1) := by decide +kernel
theorem d_La_tour_2 : decode b_La_tour 2 = .ok (.aload_n 0, 1) := by decide +kernel
theorem d_La_tour_3 : decode b_La_tour 3 = .ok (.iload_n 1, 1) := by decide +kernel
theorem d_La_tour_4 : decode b_La_tour 4 = .ok (.iload_n 2, 1) := by decide +kernel
theorem d_La_tour_5 : decode b_La_tour 5 = .ok (.invokevirtual 37, 3) := by decide +kernel
theorem d_La_tour_8 : decode b_La_tour 8 = .ok (.i2l, 1) := by decide +kernel
theorem d_La_tour_9 : decode b_La_tour 9 = .ok (.lastore, 1) := by decide +kernel
theorem d_La_tour_10 : decode b_La_tour 10 = .ok (.goto 7, 3) := by decide +kernel
theorem d_La_tour_13 : decode b_La_tour 13 = .ok (.astore 4, 2) := by decide +kernel
theorem d_La_tour_15 : decode b_La_tour 15 = .ok (.iconst 1, 1) := by decide +kernel
theorem d_La_tour_16 : decode b_La_tour 16 = .ok (.ireturn, 1) := by decide +kernel
theorem d_La_tour_17 : decode b_La_tour 17 = .ok (.iconst 0, 1) := by decide +kernel
theorem d_La_tour_18 : decode b_La_tour 18 = .ok (.ireturn, 1) := by decide +kernel
theorem d_La_stop_0 : decode b_La_stop 0 = .ok (.aload_n 2, 1) := by decide +kernel
theorem d_La_stop_1 : decode b_La_stop 1 = .ok (.iconst 0, 1) := by decide +kernel
theorem d_La_stop_2 : decode b_La_stop 2 = .ok (.aload_n 0, 1) := by decide +kernel
theorem d_La_stop_3 : decode b_La_stop 3 = .ok (.iload_n 1, 1) := by decide +kernel
theorem d_La_stop_4 : decode b_La_stop 4 = .ok (.invokevirtual 40, 3) := by decide +kernel
theorem d_La_stop_7 : decode b_La_stop 7 = .ok (.i2l, 1) := by decide +kernel
theorem d_La_stop_8 : decode b_La_stop 8 = .ok (.lastore, 1) := by decide +kernel
theorem d_La_stop_9 : decode b_La_stop 9 = .ok (.goto 6, 3) := by decide +kernel
theorem d_La_stop_12 : decode b_La_stop 12 = .ok (.astore_n 3, 1) := by decide +kernel
theorem d_La_stop_13 : decode b_La_stop 13 = .ok (.iconst 1, 1) := by decide +kernel
theorem d_La_stop_14 : decode b_La_stop 14 = .ok (.ireturn, 1) := by decide +kernel
theorem d_La_stop_15 : decode b_La_stop 15 = .ok (.iconst 0, 1) := by decide +kernel
theorem d_La_stop_16 : decode b_La_stop 16 = .ok (.ireturn, 1) := by decide +kernel
theorem d_La_told_0 : decode b_La_told 0 = .ok (.aload_n 2, 1) := by decide +kernel
theorem d_La_told_1 : decode b_La_told 1 = .ok (.iconst 0, 1) := by decide +kernel
theorem d_La_told_2 : decode b_La_told 2 = .ok (.aload_n 0, 1) := by decide +kernel
theorem d_La_told_3 : decode b_La_told 3 = .ok (.iload_n 1, 1) := by decide +kernel
theorem d_La_told_4 : decode b_La_told 4 = .ok (.invokevirtual 44, 3) := by decide +kernel
theorem d_La_told_7 : decode b_La_told 7 = .ok (.i2l, 1) := by decide +kernel
theorem d_La_told_8 : decode b_La_told 8 = .ok (.lastore, 1) := by decide +kernel
theorem d_La_told_9 : decode b_La_told 9 = .ok (.goto 6, 3) := by decide +kernel
theorem d_La_told_12 : decode b_La_told 12 = .ok (.astore_n 3, 1) := by decide +kernel
theorem d_La_told_13 : decode b_La_told 13 = .ok (.iconst 1, 1) := by decide +kernel
theorem d_La_told_14 : decode b_La_told 14 = .ok (.ireturn, 1) := by decide +kernel
theorem d_La_told_15 : decode b_La_told 15 = .ok (.iconst 0, 1) := by decide +kernel
theorem d_La_told_16 : decode b_La_told 16 = .ok (.ireturn, 1) := by decide +kernel
theorem d_La_put_0 : decode b_La_put 0 = .ok (.aload_n 2, 1) := by decide +kernel
theorem d_La_put_1 : decode b_La_put 1 = .ok (.iconst 0, 1) := by decide +kernel
theorem d_La_put_2 : decode b_La_put 2 = .ok (.aload_n 0, 1) := by decide +kernel
theorem d_La_put_3 : decode b_La_put 3 = .ok (.iload_n 1, 1) := by decide +kernel
theorem d_La_put_4 : decode b_La_put 4 = .ok (.invokevirtual 47, 3) := by decide +kernel
theorem d_La_put_7 : decode b_La_put 7 = .ok (.i2l, 1) := by decide +kernel
theorem d_La_put_8 : decode b_La_put 8 = .ok (.lastore, 1) := by decide +kernel
theorem d_La_put_9 : decode b_La_put 9 = .ok (.goto 9, 3) := by decide +kernel
theorem d_La_put_12 : decode b_La_put 12 = .ok (.astore_n 3, 1) := by decide +kernel
theorem d_La_put_13 : decode b_La_put 13 = .ok (.iconst 1, 1) := by decide +kernel
theorem d_La_put_14 : decode b_La_put 14 = .ok (.ireturn, 1) := by decide +kernel
theorem d_La_put_15 : decode b_La_put 15 = .ok (.astore_n 3, 1) := by decide +kernel
theorem d_La_put_16 : decode b_La_put 16 = .ok (.iconst 2, 1) := by decide +kernel
theorem d_La_put_17 : decode b_La_put 17 = .ok (.ireturn, 1) := by decide +kernel
theorem d_La_put_18 : decode b_La_put 18 = .ok (.iconst 0, 1) := by decide +kernel
theorem d_La_put_19 : decode b_La_put 19 = .ok (.ireturn, 1) := by decide +kernel
theorem d_La_done_0 : decode b_La_done 0 = .ok (.aload_n 1, 1) := by decide +kernel
theorem d_La_done_1 : decode b_La_done 1 = .ok (.iconst 0, 1) := by decide +kernel
theorem d_La_done_2 : decode b_La_done 2 = .ok (.aload_n 0, 1) := by decide +kernel
theorem d_La_done_3 : decode b_La_done 3 = .ok (.invokevirtual 50, 3) := by decide +kernel
theorem d_La_done_6 : decode b_La_done 6 = .ok (.i2l, 1) := by decide +kernel
theorem d_La_done_7 : decode b_La_done 7 = .ok (.lastore, 1) := by decide +kernel
theorem d_La_done_8 : decode b_La_done 8 = .ok (.goto 6, 3) := by decide +kernel
theorem d_La_done_11 : decode b_La_done 11 = .ok (.astore_n 2, 1) := by decide +kernel
theorem d_La_done_12 : decode b_La_done 12 = .ok (.iconst 1, 1) := by decide +kernel
theorem d_La_done_13 : decode b_La_done 13 = .ok (.ireturn, 1) := by decide +kernel
theorem d_La_done_14 : decode b_La_done 14 = .ok (.iconst 0, 1) := by decide +kernel
theorem d_La_done_15 : decode b_La_done 15 = .ok (.ireturn, 1) := by decide +kernel
theorem d_La_due_0 : decode b_La_due 0 = .ok (.aload_n 2, 1) := by decide +kernel
theorem d_La_due_1 : decode b_La_due 1 = .ok (.iconst 0, 1) := by decide +kernel
theorem d_La_due_2 : decode b_La_due 2 = .ok (.aload_n 0, 1) := by decide +kernel
theorem d_La_due_3 : decode b_La_due 3 = .ok (.iload_n 1, 1) := by decide +kernel
theorem d_La_due_4 : decode b_La_due 4 = .ok (.invokevirtual 54, 3) := by decide +kernel
theorem d_La_due_7 : decode b_La_due 7 = .ok (.i2l, 1) := by decide +kernel
theorem d_La_due_8 : decode b_La_due 8 = .ok (.lastore, 1) := by decide +kernel
theorem d_La_due_9 : decode b_La_due 9 = .ok (.goto 6, 3) := by decide +kernel
theorem d_La_due_12 : decode b_La_due 12 = .ok (.astore_n 3, 1) := by decide +kernel
theorem d_La_due_13 : decode b_La_due 13 = .ok (.iconst 1, 1) := by decide +kernel
theorem d_La_due_14 : decode b_La_due 14 = .ok (.ireturn, 1) := by decide +kernel
theorem d_La_due_15 : decode b_La_due 15 = .ok (.iconst 0, 1) := by decide +kernel
theorem d_La_due_16 : decode b_La_due 16 = .ok (.ireturn, 1) := by decide +kernel
theorem d_La_late_0 : decode b_La_late 0 = .ok (.aload_n 2, 1) := by decide +kernel
theorem d_La_late_1 : decode b_La_late 1 = .ok (.iconst 0, 1) := by decide +kernel
theorem d_La_late_2 : decode b_La_late 2 = .ok (.aload_n 0, 1) := by decide +kernel
theorem d_La_late_3 : decode b_La_late 3 = .ok (.iload_n 1, 1) := by decide +kernel
theorem d_La_late_4 : decode b_La_late 4 = .ok (.invokevirtual 57, 3) := by decide +kernel
theorem d_La_late_7 : decode b_La_late 7 = .ok (.i2l, 1) := by decide +kernel
theorem d_La_late_8 : decode b_La_late 8 = .ok (.lastore, 1) := by decide +kernel
theorem d_La_late_9 : decode b_La_late 9 = .ok (.goto 6, 3) := by decide +kernel
theorem d_La_late_12 : decode b_La_late 12 = .ok (.astore_n 3, 1) := by decide +kernel
theorem d_La_late_13 : decode b_La_late 13 = .ok (.iconst 1, 1) := by decide +kernel
theorem d_La_late_14 : decode b_La_late 14 = .ok (.ireturn, 1) := by decide +kernel
theorem d_La_late_15 : decode b_La_late 15 = .ok (.iconst 0, 1) := by decide +kernel
theorem d_La_late_16 : decode b_La_late 16 = .ok (.ireturn, 1) := by decide +kernel
theorem d_La_fine_0 : decode b_La_fine 0 = .ok (.aload_n 3, 1) := by decide +kernel
theorem d_La_fine_1 : decode b_La_fine 1 = .ok (.iconst 0, 1) := by decide +kernel
theorem d_La_fine_2 : decode b_La_fine 2 = .ok (.aload_n 0, 1) := by decide +kernel
theorem d_La_fine_3 : decode b_La_fine 3 = .ok (.iload_n 1, 1) := by decide +kernel
theorem d_La_fine_4 : decode b_La_fine 4 = .ok (.iload_n 2, 1) := by decide +kernel
theorem d_La_fine_5 : decode b_La_fine 5 = .ok (.invokevirtual 60, 3) := by decide +kernel
theorem d_La_fine_8 : decode b_La_fine 8 = .ok (.i2l, 1) := by decide +kernel
theorem d_La_fine_9 : decode b_La_fine 9 = .ok (.lastore, 1) := by decide +kernel
theorem d_La_fine_10 : decode b_La_fine 10 = .ok (.goto 7, 3) := by decide +kernel
theorem d_La_fine_13 : decode b_La_fine 13 = .ok (.astore 4, 2) := by decide +kernel
theorem d_La_fine_15 : decode b_La_fine 15 = .ok (.iconst 1, 1) := by decide +kernel
theorem d_La_fine_16 : decode b_La_fine 16 = .ok (.ireturn, 1) := by decide +kernel
theorem d_La_fine_17 : decode b_La_fine 17 = .ok (.iconst 0, 1) := by decide +kernel
theorem d_La_fine_18 : decode b_La_fine 18 = .ok (.ireturn, 1) := by decide +kernel
theorem d_La_wanted_0 : decode b_La_wanted 0 = .ok (.aload_n 3, 1) := by decide +kernel
theorem d_La_wanted_1 : decode b_La_wanted 1 = .ok (.iconst 0, 1) := by decide +kernel
theorem d_La_wanted_2 : decode b_La_wanted 2 = .ok (.aload_n 0, 1) := by decide +kernel
theorem d_La_wanted_3 : decode b_La_wanted 3 = .ok (.iload_n 1, 1) := by decide +kernel
theorem d_La_wanted_4 : decode b_La_wanted 4 = .ok (.iload_n 2, 1) := by decide +kernel
theorem d_La_wanted_5 : decode b_La_wanted 5 = .ok (.invokevirtual 63, 3) := by decide +kernel
theorem d_La_wanted_8 : decode b_La_wanted 8 = .ok (.i2l, 1) := by decide +kernel
theorem d_La_wanted_9 : decode b_La_wanted 9 = .ok (.lastore, 1) := by decide +kernel
theorem d_La_wanted_10 : decode b_La_wanted 10 = .ok (.goto 7, 3) := by decide +kernel
theorem d_La_wanted_13 : decode b_La_wanted 13 = .ok (.astore 4, 2) := by decide +kernel
theorem d_La_wanted_15 : decode b_La_wanted 15 = .ok (.iconst 1, 1) := by decide +kernel
theorem d_La_wanted_16 : decode b_La_wanted 16 = .ok (.ireturn, 1) := by decide +kernel
theorem d_La_wanted_17 : decode b_La_wanted 17 = .ok (.iconst 0, 1) := by decide +kernel
theorem d_La_wanted_18 : decode b_La_wanted 18 = .ok (.ireturn, 1) := by decide +kernel
theorem d_La_law_0 : decode b_La_law 0 = .ok (.new 8, 3) := by decide +kernel
theorem d_La_law_3 : decode b_La_law 3 = .ok (.dup, 1) := by decide +kernel
theorem d_La_law_4 : decode b_La_law 4 = .ok (.aload_n 0, 1) := by decide +kernel
theorem d_La_law_5 : decode b_La_law 5 = .ok (.iconst 0, 1) := by decide +kernel
theorem d_La_law_6 : decode b_La_law 6 = .ok (.invokestatic 66, 3) := by decide +kernel
theorem d_La_law_9 : decode b_La_law 9 = .ok (.invokespecial 72, 3) := by decide +kernel
theorem d_La_law_12 : decode b_La_law 12 = .ok (.astore_n 1, 1) := by decide +kernel
theorem d_La_law_13 : decode b_La_law 13 = .ok (.new 75, 3) := by decide +kernel
theorem d_La_law_16 : decode b_La_law 16 = .ok (.dup, 1) := by decide +kernel
theorem d_La_law_17 : decode b_La_law 17 = .ok (.aload_n 0, 1) := by decide +kernel
theorem d_La_law_18 : decode b_La_law 18 = .ok (.iconst 0, 1) := by decide +kernel
theorem d_La_law_19 : decode b_La_law 19 = .ok (.invokestatic 66, 3) := by decide +kernel
theorem d_La_law_22 : decode b_La_law 22 = .ok (.invokespecial 77, 3) := by decide +kernel
theorem d_La_law_25 : decode b_La_law 25 = .ok (.astore_n 2, 1) := by decide +kernel
theorem d_La_law_26 : decode b_La_law 26 = .ok (.iconst 1, 1) := by decide +kernel
theorem d_La_law_27 : decode b_La_law 27 = .ok (.newarray .long, 2) := by decide +kernel
theorem d_La_law_29 : decode b_La_law 29 = .ok (.astore_n 3, 1) := by decide +kernel
theorem d_La_law_30 : decode b_La_law 30 = .ok (.iconst 1, 1) := by decide +kernel
theorem d_La_law_31 : decode b_La_law 31 = .ok (.istore 4, 2) := by decide +kernel
theorem d_La_law_33 : decode b_La_law 33 = .ok (.iload 4, 2) := by decide +kernel
theorem d_La_law_35 : decode b_La_law 35 = .ok (.aload_n 0, 1) := by decide +kernel
theorem d_La_law_36 : decode b_La_law 36 = .ok (.arraylength, 1) := by decide +kernel
theorem d_La_law_37 : decode b_La_law 37 = .ok (.bipush 7, 2) := by decide +kernel
theorem d_La_law_39 : decode b_La_law 39 = .ok (.isub, 1) := by decide +kernel
theorem d_La_law_40 : decode b_La_law 40 = .ok (.if_icmp .gt 1234, 3) := by decide +kernel
theorem d_La_law_43 : decode b_La_law 43 = .ok (.aload_n 0, 1) := by decide +kernel
theorem d_La_law_44 : decode b_La_law 44 = .ok (.iload 4, 2) := by decide +kernel
theorem d_La_law_46 : decode b_La_law 46 = .ok (.iaload, 1) := by decide +kernel
theorem d_La_law_47 : decode b_La_law 47 = .ok (.bipush 15, 2) := by decide +kernel
theorem d_La_law_49 : decode b_La_law 49 = .ok (.iand, 1) := by decide +kernel
theorem d_La_law_50 : decode b_La_law 50 = .ok (.tableswitch 1218 0 15 #[78, 158, 276, 394, 474, 554, 622, 690, 758, 814, 870, 926, 970, 1026, 1082, 1150], 78) := by decide +kernel
theorem d_La_law_128 : decode b_La_law 128 = .ok (.aload_n 1, 1) := by decide +kernel
theorem d_La_law_129 : decode b_La_law 129 = .ok (.aload_n 0, 1) := by decide +kernel
theorem d_La_law_130 : decode b_La_law 130 = .ok (.iload 4, 2) := by decide +kernel
theorem d_La_law_132 : decode b_La_law 132 = .ok (.iconst 1, 1) := by decide +kernel
theorem d_La_law_133 : decode b_La_law 133 = .ok (.iadd, 1) := by decide +kernel
theorem d_La_law_134 : decode b_La_law 134 = .ok (.iaload, 1) := by decide +kernel
theorem d_La_law_135 : decode b_La_law 135 = .ok (.aload_n 0, 1) := by decide +kernel
theorem d_La_law_136 : decode b_La_law 136 = .ok (.iload 4, 2) := by decide +kernel
theorem d_La_law_138 : decode b_La_law 138 = .ok (.iconst 2, 1) := by decide +kernel
theorem d_La_law_139 : decode b_La_law 139 = .ok (.iadd, 1) := by decide +kernel
theorem d_La_law_140 : decode b_La_law 140 = .ok (.iaload, 1) := by decide +kernel
theorem d_La_law_141 : decode b_La_law 141 = .ok (.aload_n 0, 1) := by decide +kernel
theorem d_La_law_142 : decode b_La_law 142 = .ok (.iload 4, 2) := by decide +kernel
theorem d_La_law_144 : decode b_La_law 144 = .ok (.iconst 3, 1) := by decide +kernel
theorem d_La_law_145 : decode b_La_law 145 = .ok (.iadd, 1) := by decide +kernel
theorem d_La_law_146 : decode b_La_law 146 = .ok (.iaload, 1) := by decide +kernel
theorem d_La_law_147 : decode b_La_law 147 = .ok (.aload_n 3, 1) := by decide +kernel
theorem d_La_law_148 : decode b_La_law 148 = .ok (.invokestatic 78, 3) := by decide +kernel
theorem d_La_law_151 : decode b_La_law 151 = .ok (.istore 5, 2) := by decide +kernel
theorem d_La_law_153 : decode b_La_law 153 = .ok (.aload_n 2, 1) := by decide +kernel
theorem d_La_law_154 : decode b_La_law 154 = .ok (.aload_n 0, 1) := by decide +kernel
theorem d_La_law_155 : decode b_La_law 155 = .ok (.iload 4, 2) := by decide +kernel
theorem d_La_law_157 : decode b_La_law 157 = .ok (.iconst 1, 1) := by decide +kernel
theorem d_La_law_158 : decode b_La_law 158 = .ok (.iadd, 1) := by decide +kernel
theorem d_La_law_159 : decode b_La_law 159 = .ok (.iaload, 1) := by decide +kernel
theorem d_La_law_160 : decode b_La_law 160 = .ok (.aload_n 0, 1) := by decide +kernel
theorem d_La_law_161 : decode b_La_law 161 = .ok (.iload 4, 2) := by decide +kernel
theorem d_La_law_163 : decode b_La_law 163 = .ok (.iconst 2, 1) := by decide +kernel
theorem d_La_law_164 : decode b_La_law 164 = .ok (.iadd, 1) := by decide +kernel
theorem d_La_law_165 : decode b_La_law 165 = .ok (.iaload, 1) := by decide +kernel
theorem d_La_law_166 : decode b_La_law 166 = .ok (.aload_n 0, 1) := by decide +kernel
theorem d_La_law_167 : decode b_La_law 167 = .ok (.iload 4, 2) := by decide +kernel
theorem d_La_law_169 : decode b_La_law 169 = .ok (.iconst 3, 1) := by decide +kernel
theorem d_La_law_170 : decode b_La_law 170 = .ok (.iadd, 1) := by decide +kernel
theorem d_La_law_171 : decode b_La_law 171 = .ok (.iaload, 1) := by decide +kernel
theorem d_La_law_172 : decode b_La_law 172 = .ok (.invokevirtual 81, 3) := by decide +kernel
theorem d_La_law_175 : decode b_La_law 175 = .ok (.istore 6, 2) := by decide +kernel
theorem d_La_law_177 : decode b_La_law 177 = .ok (.aload_n 2, 1) := by decide +kernel
theorem d_La_law_178 : decode b_La_law 178 = .ok (.invokevirtual 82, 3) := by decide +kernel
theorem d_La_law_181 : decode b_La_law 181 = .ok (.iload 5, 2) := by decide +kernel
theorem d_La_law_183 : decode b_La_law 183 = .ok (.if_icmp .eq 5, 3) := by decide +kernel
theorem d_La_law_186 : decode b_La_law 186 = .ok (.iconst 0, 1) := by decide +kernel
theorem d_La_law_187 : decode b_La_law 187 = .ok (.ireturn, 1) := by decide +kernel
theorem d_La_law_188 : decode b_La_law 188 = .ok (.iload 5, 2) := by decide +kernel
theorem d_La_law_190 : decode b_La_law 190 = .ok (.ifCond .ne 15, 3) := by decide +kernel
theorem d_La_law_193 : decode b_La_law 193 = .ok (.aload_n 3, 1) := by decide +kernel
theorem d_La_law_194 : decode b_La_law 194 = .ok (.iconst 0, 1) := by decide +kernel
theorem d_La_law_195 : decode b_La_law 195 = .ok (.laload, 1) := by decide +kernel
theorem d_La_law_196 : decode b_La_law 196 = .ok (.iload 6, 2) := by decide +kernel
theorem d_La_law_198 : decode b_La_law 198 = .ok (.i2l, 1) := by decide +kernel
theorem d_La_law_199 : decode b_La_law 199 = .ok (.lcmp, 1) := by decide +kernel
theorem d_La_law_200 : decode b_La_law 200 = .ok (.ifCond .eq 5, 3) := by decide +kernel
theorem d_La_law_203 : decode b_La_law 203 = .ok (.iconst 0, 1) := by decide +kernel
theorem d_La_law_204 : decode b_La_law 204 = .ok (.ireturn, 1) := by decide +kernel
theorem d_La_law_205 : decode b_La_law 205 = .ok (.goto 1063, 3) := by decide +kernel
theorem d_La_law_208 : decode b_La_law 208 = .ok (.aload_n 1, 1) := by decide +kernel
theorem d_La_law_209 : decode b_La_law 209 = .ok (.aload_n 0, 1) := by decide +kernel
theorem d_La_law_210 : decode b_La_law 210 = .ok (.iload 4, 2) := by decide +kernel
theorem d_La_law_212 : decode b_La_law 212 = .ok (.iconst 1, 1) := by decide +kernel
theorem d_La_law_213 : decode b_La_law 213 = .ok (.iadd, 1) := by decide +kernel
theorem d_La_law_214 : decode b_La_law 214 = .ok (.iaload, 1) := by decide +kernel
theorem d_La_law_215 : decode b_La_law 215 = .ok (.aload_n 0, 1) := by decide +kernel
theorem d_La_law_216 : decode b_La_law 216 = .ok (.iload 4, 2) := by decide +kernel
theorem d_La_law_218 : decode b_La_law 218 = .ok (.iconst 2, 1) := by decide +kernel
theorem d_La_law_219 : decode b_La_law 219 = .ok (.iadd, 1) := by decide +kernel
theorem d_La_law_220 : decode b_La_law 220 = .ok (.iaload, 1) := by decide +kernel
theorem d_La_law_221 : decode b_La_law 221 = .ok (.aload_n 0, 1) := by decide +kernel
theorem d_La_law_222 : decode b_La_law 222 = .ok (.iload 4, 2) := by decide +kernel
theorem d_La_law_224 : decode b_La_law 224 = .ok (.iconst 3, 1) := by decide +kernel
theorem d_La_law_225 : decode b_La_law 225 = .ok (.iadd, 1) := by decide +kernel
theorem d_La_law_226 : decode b_La_law 226 = .ok (.iaload, 1) := by decide +kernel
theorem d_La_law_227 : decode b_La_law 227 = .ok (.aload_n 0, 1) := by decide +kernel
theorem d_La_law_228 : decode b_La_law 228 = .ok (.iload 4, 2) := by decide +kernel
theorem d_La_law_230 : decode b_La_law 230 = .ok (.iconst 4, 1) := by decide +kernel
theorem d_La_law_231 : decode b_La_law 231 = .ok (.iadd, 1) := by decide +kernel
theorem d_La_law_232 : decode b_La_law 232 = .ok (.iaload, 1) := by decide +kernel
theorem d_La_law_233 : decode b_La_law 233 = .ok (.aload_n 0, 1) := by decide +kernel
theorem d_La_law_234 : decode b_La_law 234 = .ok (.iload 4, 2) := by decide +kernel
theorem d_La_law_236 : decode b_La_law 236 = .ok (.iconst 5, 1) := by decide +kernel
theorem d_La_law_237 : decode b_La_law 237 = .ok (.iadd, 1) := by decide +kernel
theorem d_La_law_238 : decode b_La_law 238 = .ok (.iaload, 1) := by decide +kernel
theorem d_La_law_239 : decode b_La_law 239 = .ok (.aload_n 0, 1) := by decide +kernel
theorem d_La_law_240 : decode b_La_law 240 = .ok (.iload 4, 2) := by decide +kernel
theorem d_La_law_242 : decode b_La_law 242 = .ok (.bipush 6, 2) := by decide +kernel
theorem d_La_law_244 : decode b_La_law 244 = .ok (.iadd, 1) := by decide +kernel
theorem d_La_law_245 : decode b_La_law 245 = .ok (.iaload, 1) := by decide +kernel
theorem d_La_law_246 : decode b_La_law 246 = .ok (.aload_n 3, 1) := by decide +kernel
theorem d_La_law_247 : decode b_La_law 247 = .ok (.invokestatic 85, 3) := by decide +kernel
theorem d_La_law_250 : decode b_La_law 250 = .ok (.istore 5, 2) := by decide +kernel
theorem d_La_law_252 : decode b_La_law 252 = .ok (.aload_n 2, 1) := by decide +kernel
theorem d_La_law_253 : decode b_La_law 253 = .ok (.aload_n 0, 1) := by decide +kernel
theorem d_La_law_254 : decode b_La_law 254 = .ok (.iload 4, 2) := by decide +kernel
theorem d_La_law_256 : decode b_La_law 256 = .ok (.iconst 1, 1) := by decide +kernel
theorem d_La_law_257 : decode b_La_law 257 = .ok (.iadd, 1) := by decide +kernel
theorem d_La_law_258 : decode b_La_law 258 = .ok (.iaload, 1) := by decide +kernel
theorem d_La_law_259 : decode b_La_law 259 = .ok (.aload_n 0, 1) := by decide +kernel
theorem d_La_law_260 : decode b_La_law 260 = .ok (.iload 4, 2) := by decide +kernel
theorem d_La_law_262 : decode b_La_law 262 = .ok (.iconst 2, 1) := by decide +kernel
theorem d_La_law_263 : decode b_La_law 263 = .ok (.iadd, 1) := by decide +kernel
theorem d_La_law_264 : decode b_La_law 264 = .ok (.iaload, 1) := by decide +kernel
theorem d_La_law_265 : decode b_La_law 265 = .ok (.aload_n 0, 1) := by decide +kernel
theorem d_La_law_266 : decode b_La_law 266 = .ok (.iload 4, 2) := by decide +kernel
theorem d_La_law_268 : decode b_La_law 268 = .ok (.iconst 3, 1) := by decide +kernel
theorem d_La_law_269 : decode b_La_law 269 = .ok (.iadd, 1) := by decide +kernel
theorem d_La_law_270 : decode b_La_law 270 = .ok (.iaload, 1) := by decide +kernel
theorem d_La_law_271 : decode b_La_law 271 = .ok (.aload_n 0, 1) := by decide +kernel
theorem d_La_law_272 : decode b_La_law 272 = .ok (.iload 4, 2) := by decide +kernel
theorem d_La_law_274 : decode b_La_law 274 = .ok (.iconst 4, 1) := by decide +kernel
theorem d_La_law_275 : decode b_La_law 275 = .ok (.iadd, 1) := by decide +kernel
theorem d_La_law_276 : decode b_La_law 276 = .ok (.iaload, 1) := by decide +kernel
theorem d_La_law_277 : decode b_La_law 277 = .ok (.aload_n 0, 1) := by decide +kernel
theorem d_La_law_278 : decode b_La_law 278 = .ok (.iload 4, 2) := by decide +kernel
theorem d_La_law_280 : decode b_La_law 280 = .ok (.iconst 5, 1) := by decide +kernel
theorem d_La_law_281 : decode b_La_law 281 = .ok (.iadd, 1) := by decide +kernel
theorem d_La_law_282 : decode b_La_law 282 = .ok (.iaload, 1) := by decide +kernel
theorem d_La_law_283 : decode b_La_law 283 = .ok (.aload_n 0, 1) := by decide +kernel
theorem d_La_law_284 : decode b_La_law 284 = .ok (.iload 4, 2) := by decide +kernel
theorem d_La_law_286 : decode b_La_law 286 = .ok (.bipush 6, 2) := by decide +kernel
theorem d_La_law_288 : decode b_La_law 288 = .ok (.iadd, 1) := by decide +kernel
theorem d_La_law_289 : decode b_La_law 289 = .ok (.iaload, 1) := by decide +kernel
theorem d_La_law_290 : decode b_La_law 290 = .ok (.invokevirtual 88, 3) := by decide +kernel
theorem d_La_law_293 : decode b_La_law 293 = .ok (.istore 6, 2) := by decide +kernel
theorem d_La_law_295 : decode b_La_law 295 = .ok (.aload_n 2, 1) := by decide +kernel
theorem d_La_law_296 : decode b_La_law 296 = .ok (.invokevirtual 82, 3) := by decide +kernel
theorem d_La_law_299 : decode b_La_law 299 = .ok (.iload 5, 2) := by decide +kernel
theorem d_La_law_301 : decode b_La_law 301 = .ok (.if_icmp .eq 5, 3) := by decide +kernel
theorem d_La_law_304 : decode b_La_law 304 = .ok (.iconst 0, 1) := by decide +kernel
theorem d_La_law_305 : decode b_La_law 305 = .ok (.ireturn, 1) := by decide +kernel
theorem d_La_law_306 : decode b_La_law 306 = .ok (.iload 5, 2) := by decide +kernel
theorem d_La_law_308 : decode b_La_law 308 = .ok (.ifCond .ne 15, 3) := by decide +kernel
theorem d_La_law_311 : decode b_La_law 311 = .ok (.aload_n 3, 1) := by decide +kernel
theorem d_La_law_312 : decode b_La_law 312 = .ok (.iconst 0, 1) := by decide +kernel
theorem d_La_law_313 : decode b_La_law 313 = .ok (.laload, 1) := by decide +kernel
theorem d_La_law_314 : decode b_La_law 314 = .ok (.iload 6, 2) := by decide +kernel
theorem d_La_law_316 : decode b_La_law 316 = .ok (.i2l, 1) := by decide +kernel
theorem d_La_law_317 : decode b_La_law 317 = .ok (.lcmp, 1) := by decide +kernel
theorem d_La_law_318 : decode b_La_law 318 = .ok (.ifCond .eq 5, 3) := by decide +kernel
theorem d_La_law_321 : decode b_La_law 321 = .ok (.iconst 0, 1) := by decide +kernel
theorem d_La_law_322 : decode b_La_law 322 = .ok (.ireturn, 1) := by decide +kernel
theorem d_La_law_323 : decode b_La_law 323 = .ok (.goto 945, 3) := by decide +kernel
theorem d_La_law_326 : decode b_La_law 326 = .ok (.aload_n 1, 1) := by decide +kernel
theorem d_La_law_327 : decode b_La_law 327 = .ok (.aload_n 0, 1) := by decide +kernel
theorem d_La_law_328 : decode b_La_law 328 = .ok (.iload 4, 2) := by decide +kernel
theorem d_La_law_330 : decode b_La_law 330 = .ok (.iconst 1, 1) := by decide +kernel
theorem d_La_law_331 : decode b_La_law 331 = .ok (.iadd, 1) := by decide +kernel
theorem d_La_law_332 : decode b_La_law 332 = .ok (.iaload, 1) := by decide +kernel
theorem d_La_law_333 : decode b_La_law 333 = .ok (.aload_n 0, 1) := by decide +kernel
theorem d_La_law_334 : decode b_La_law 334 = .ok (.iload 4, 2) := by decide +kernel
theorem d_La_law_336 : decode b_La_law 336 = .ok (.iconst 2, 1) := by decide +kernel
theorem d_La_law_337 : decode b_La_law 337 = .ok (.iadd, 1) := by decide +kernel
theorem d_La_law_338 : decode b_La_law 338 = .ok (.iaload, 1) := by decide +kernel
theorem d_La_law_339 : decode b_La_law 339 = .ok (.aload_n 0, 1) := by decide +kernel
theorem d_La_law_340 : decode b_La_law 340 = .ok (.iload 4, 2) := by decide +kernel
theorem d_La_law_342 : decode b_La_law 342 = .ok (.iconst 3, 1) := by decide +kernel
theorem d_La_law_343 : decode b_La_law 343 = .ok (.iadd, 1) := by decide +kernel
theorem d_La_law_344 : decode b_La_law 344 = .ok (.iaload, 1) := by decide +kernel
theorem d_La_law_345 : decode b_La_law 345 = .ok (.aload_n 0, 1) := by decide +kernel
theorem d_La_law_346 : decode b_La_law 346 = .ok (.iload 4, 2) := by decide +kernel
theorem d_La_law_348 : decode b_La_law 348 = .ok (.iconst 4, 1) := by decide +kernel
theorem d_La_law_349 : decode b_La_law 349 = .ok (.iadd, 1) := by decide +kernel
theorem d_La_law_350 : decode b_La_law 350 = .ok (.iaload, 1) := by decide +kernel
theorem d_La_law_351 : decode b_La_law 351 = .ok (.aload_n 0, 1) := by decide +kernel
theorem d_La_law_352 : decode b_La_law 352 = .ok (.iload 4, 2) := by decide +kernel
theorem d_La_law_354 : decode b_La_law 354 = .ok (.iconst 5, 1) := by decide +kernel
theorem d_La_law_355 : decode b_La_law 355 = .ok (.iadd, 1) := by decide +kernel
theorem d_La_law_356 : decode b_La_law 356 = .ok (.iaload, 1) := by decide +kernel
theorem d_La_law_357 : decode b_La_law 357 = .ok (.aload_n 0, 1) := by decide +kernel
theorem d_La_law_358 : decode b_La_law 358 = .ok (.iload 4, 2) := by decide +kernel
theorem d_La_law_360 : decode b_La_law 360 = .ok (.bipush 6, 2) := by decide +kernel
theorem d_La_law_362 : decode b_La_law 362 = .ok (.iadd, 1) := by decide +kernel
theorem d_La_law_363 : decode b_La_law 363 = .ok (.iaload, 1) := by decide +kernel
theorem d_La_law_364 : decode b_La_law 364 = .ok (.aload_n 3, 1) := by decide +kernel
theorem d_La_law_365 : decode b_La_law 365 = .ok (.invokestatic 89, 3) := by decide +kernel
theorem d_La_law_368 : decode b_La_law 368 = .ok (.istore 5, 2) := by decide +kernel
theorem d_La_law_370 : decode b_La_law 370 = .ok (.aload_n 2, 1) := by decide +kernel
theorem d_La_law_371 : decode b_La_law 371 = .ok (.aload_n 0, 1) := by decide +kernel
theorem d_La_law_372 : decode b_La_law 372 = .ok (.iload 4, 2) := by decide +kernel
theorem d_La_law_374 : decode b_La_law 374 = .ok (.iconst 1, 1) := by decide +kernel
theorem d_La_law_375 : decode b_La_law 375 = .ok (.iadd, 1) := by decide +kernel
theorem d_La_law_376 : decode b_La_law 376 = .ok (.iaload, 1) := by decide +kernel
theorem d_La_law_377 : decode b_La_law 377 = .ok (.aload_n 0, 1) := by decide +kernel
theorem d_La_law_378 : decode b_La_law 378 = .ok (.iload 4, 2) := by decide +kernel
theorem d_La_law_380 : decode b_La_law 380 = .ok (.iconst 2, 1) := by decide +kernel
theorem d_La_law_381 : decode b_La_law 381 = .ok (.iadd, 1) := by decide +kernel
theorem d_La_law_382 : decode b_La_law 382 = .ok (.iaload, 1) := by decide +kernel
theorem d_La_law_383 : decode b_La_law 383 = .ok (.aload_n 0, 1) := by decide +kernel
theorem d_La_law_384 : decode b_La_law 384 = .ok (.iload 4, 2) := by decide +kernel
theorem d_La_law_386 : decode b_La_law 386 = .ok (.iconst 3, 1) := by decide +kernel
theorem d_La_law_387 : decode b_La_law 387 = .ok (.iadd, 1) := by decide +kernel
theorem d_La_law_388 : decode b_La_law 388 = .ok (.iaload, 1) := by decide +kernel
theorem d_La_law_389 : decode b_La_law 389 = .ok (.aload_n 0, 1) := by decide +kernel
theorem d_La_law_390 : decode b_La_law 390 = .ok (.iload 4, 2) := by decide +kernel
theorem d_La_law_392 : decode b_La_law 392 = .ok (.iconst 4, 1) := by decide +kernel
theorem d_La_law_393 : decode b_La_law 393 = .ok (.iadd, 1) := by decide +kernel
theorem d_La_law_394 : decode b_La_law 394 = .ok (.iaload, 1) := by decide +kernel
theorem d_La_law_395 : decode b_La_law 395 = .ok (.aload_n 0, 1) := by decide +kernel
theorem d_La_law_396 : decode b_La_law 396 = .ok (.iload 4, 2) := by decide +kernel
theorem d_La_law_398 : decode b_La_law 398 = .ok (.iconst 5, 1) := by decide +kernel
theorem d_La_law_399 : decode b_La_law 399 = .ok (.iadd, 1) := by decide +kernel
theorem d_La_law_400 : decode b_La_law 400 = .ok (.iaload, 1) := by decide +kernel
theorem d_La_law_401 : decode b_La_law 401 = .ok (.aload_n 0, 1) := by decide +kernel
theorem d_La_law_402 : decode b_La_law 402 = .ok (.iload 4, 2) := by decide +kernel
theorem d_La_law_404 : decode b_La_law 404 = .ok (.bipush 6, 2) := by decide +kernel
theorem d_La_law_406 : decode b_La_law 406 = .ok (.iadd, 1) := by decide +kernel
theorem d_La_law_407 : decode b_La_law 407 = .ok (.iaload, 1) := by decide +kernel
theorem d_La_law_408 : decode b_La_law 408 = .ok (.invokevirtual 91, 3) := by decide +kernel
theorem d_La_law_411 : decode b_La_law 411 = .ok (.istore 6, 2) := by decide +kernel
theorem d_La_law_413 : decode b_La_law 413 = .ok (.aload_n 2, 1) := by decide +kernel
theorem d_La_law_414 : decode b_La_law 414 = .ok (.invokevirtual 82, 3) := by decide +kernel
theorem d_La_law_417 : decode b_La_law 417 = .ok (.iload 5, 2) := by decide +kernel
theorem d_La_law_419 : decode b_La_law 419 = .ok (.if_icmp .eq 5, 3) := by decide +kernel
theorem d_La_law_422 : decode b_La_law 422 = .ok (.iconst 0, 1) := by decide +kernel
theorem d_La_law_423 : decode b_La_law 423 = .ok (.ireturn, 1) := by decide +kernel
theorem d_La_law_424 : decode b_La_law 424 = .ok (.iload 5, 2) := by decide +kernel
theorem d_La_law_426 : decode b_La_law 426 = .ok (.ifCond .ne 15, 3) := by decide +kernel
theorem d_La_law_429 : decode b_La_law 429 = .ok (.aload_n 3, 1) := by decide +kernel
theorem d_La_law_430 : decode b_La_law 430 = .ok (.iconst 0, 1) := by decide +kernel
theorem d_La_law_431 : decode b_La_law 431 = .ok (.laload, 1) := by decide +kernel
theorem d_La_law_432 : decode b_La_law 432 = .ok (.iload 6, 2) := by decide +kernel
theorem d_La_law_434 : decode b_La_law 434 = .ok (.i2l, 1) := by decide +kernel
theorem d_La_law_435 : decode b_La_law 435 = .ok (.lcmp, 1) := by decide +kernel
theorem d_La_law_436 : decode b_La_law 436 = .ok (.ifCond .eq 5, 3) := by decide +kernel
theorem d_La_law_439 : decode b_La_law 439 = .ok (.iconst 0, 1) := by decide +kernel
theorem d_La_law_440 : decode b_La_law 440 = .ok (.ireturn, 1) := by decide +kernel
theorem d_La_law_441 : decode b_La_law 441 = .ok (.goto 827, 3) := by decide +kernel
theorem d_La_law_444 : decode b_La_law 444 = .ok (.aload_n 1, 1) := by decide +kernel
theorem d_La_law_445 : decode b_La_law 445 = .ok (.aload_n 0, 1) := by decide +kernel
theorem d_La_law_446 : decode b_La_law 446 = .ok (.iload 4, 2) := by decide +kernel
theorem d_La_law_448 : decode b_La_law 448 = .ok (.iconst 1, 1) := by decide +kernel
theorem d_La_law_449 : decode b_La_law 449 = .ok (.iadd, 1) := by decide +kernel
theorem d_La_law_450 : decode b_La_law 450 = .ok (.iaload, 1) := by decide +kernel
theorem d_La_law_451 : decode b_La_law 451 = .ok (.aload_n 0, 1) := by decide +kernel
theorem d_La_law_452 : decode b_La_law 452 = .ok (.iload 4, 2) := by decide +kernel
theorem d_La_law_454 : decode b_La_law 454 = .ok (.iconst 2, 1) := by decide +kernel
theorem d_La_law_455 : decode b_La_law 455 = .ok (.iadd, 1) := by decide +kernel
theorem d_La_law_456 : decode b_La_law 456 = .ok (.iaload, 1) := by decide +kernel
theorem d_La_law_457 : decode b_La_law 457 = .ok (.aload_n 0, 1) := by decide +kernel
theorem d_La_law_458 : decode b_La_law 458 = .ok (.iload 4, 2) := by decide +kernel
theorem d_La_law_460 : decode b_La_law 460 = .ok (.iconst 3, 1) := by decide +kernel
theorem d_La_law_461 : decode b_La_law 461 = .ok (.iadd, 1) := by decide +kernel
theorem d_La_law_462 : decode b_La_law 462 = .ok (.iaload, 1) := by decide +kernel
theorem d_La_law_463 : decode b_La_law 463 = .ok (.aload_n 3, 1) := by decide +kernel
theorem d_La_law_464 : decode b_La_law 464 = .ok (.invokestatic 92, 3) := by decide +kernel
theorem d_La_law_467 : decode b_La_law 467 = .ok (.istore 5, 2) := by decide +kernel
theorem d_La_law_469 : decode b_La_law 469 = .ok (.aload_n 2, 1) := by decide +kernel
theorem d_La_law_470 : decode b_La_law 470 = .ok (.aload_n 0, 1) := by decide +kernel
theorem d_La_law_471 : decode b_La_law 471 = .ok (.iload 4, 2) := by decide +kernel
theorem d_La_law_473 : decode b_La_law 473 = .ok (.iconst 1, 1) := by decide +kernel
theorem d_La_law_474 : decode b_La_law 474 = .ok (.iadd, 1) := by decide +kernel
theorem d_La_law_475 : decode b_La_law 475 = .ok (.iaload, 1) := by decide +kernel
theorem d_La_law_476 : decode b_La_law 476 = .ok (.aload_n 0, 1) := by decide +kernel
theorem d_La_law_477 : decode b_La_law 477 = .ok (.iload 4, 2) := by decide +kernel
theorem d_La_law_479 : decode b_La_law 479 = .ok (.iconst 2, 1) := by decide +kernel
theorem d_La_law_480 : decode b_La_law 480 = .ok (.iadd, 1) := by decide +kernel
theorem d_La_law_481 : decode b_La_law 481 = .ok (.iaload, 1) := by decide +kernel
theorem d_La_law_482 : decode b_La_law 482 = .ok (.aload_n 0, 1) := by decide +kernel
theorem d_La_law_483 : decode b_La_law 483 = .ok (.iload 4, 2) := by decide +kernel
theorem d_La_law_485 : decode b_La_law 485 = .ok (.iconst 3, 1) := by decide +kernel
theorem d_La_law_486 : decode b_La_law 486 = .ok (.iadd, 1) := by decide +kernel
theorem d_La_law_487 : decode b_La_law 487 = .ok (.iaload, 1) := by decide +kernel
theorem d_La_law_488 : decode b_La_law 488 = .ok (.invokevirtual 94, 3) := by decide +kernel
theorem d_La_law_491 : decode b_La_law 491 = .ok (.istore 6, 2) := by decide +kernel
theorem d_La_law_493 : decode b_La_law 493 = .ok (.aload_n 2, 1) := by decide +kernel
theorem d_La_law_494 : decode b_La_law 494 = .ok (.invokevirtual 82, 3) := by decide +kernel
theorem d_La_law_497 : decode b_La_law 497 = .ok (.iload 5, 2) := by decide +kernel
theorem d_La_law_499 : decode b_La_law 499 = .ok (.if_icmp .eq 5, 3) := by decide +kernel
theorem d_La_law_502 : decode b_La_law 502 = .ok (.iconst 0, 1) := by decide +kernel
theorem d_La_law_503 : decode b_La_law 503 = .ok (.ireturn, 1) := by decide +kernel
theorem d_La_law_504 : decode b_La_law 504 = .ok (.iload 5, 2) := by decide +kernel
theorem d_La_law_506 : decode b_La_law 506 = .ok (.ifCond .ne 15, 3) := by decide +kernel
theorem d_La_law_509 : decode b_La_law 509 = .ok (.aload_n 3, 1) := by decide +kernel
theorem d_La_law_510 : decode b_La_law 510 = .ok (.iconst 0, 1) := by decide +kernel
theorem d_La_law_511 : decode b_La_law 511 = .ok (.laload, 1) := by decide +kernel
theorem d_La_law_512 : decode b_La_law 512 = .ok (.iload 6, 2) := by decide +kernel
theorem d_La_law_514 : decode b_La_law 514 = .ok (.i2l, 1) := by decide +kernel
theorem d_La_law_515 : decode b_La_law 515 = .ok (.lcmp, 1) := by decide +kernel
theorem d_La_law_516 : decode b_La_law 516 = .ok (.ifCond .eq 5, 3) := by decide +kernel
theorem d_La_law_519 : decode b_La_law 519 = .ok (.iconst 0, 1) := by decide +kernel
theorem d_La_law_520 : decode b_La_law 520 = .ok (.ireturn, 1) := by decide +kernel
theorem d_La_law_521 : decode b_La_law 521 = .ok (.goto 747, 3) := by decide +kernel
theorem d_La_law_524 : decode b_La_law 524 = .ok (.aload_n 1, 1) := by decide +kernel
theorem d_La_law_525 : decode b_La_law 525 = .ok (.aload_n 0, 1) := by decide +kernel
theorem d_La_law_526 : decode b_La_law 526 = .ok (.iload 4, 2) := by decide +kernel
theorem d_La_law_528 : decode b_La_law 528 = .ok (.iconst 1, 1) := by decide +kernel
theorem d_La_law_529 : decode b_La_law 529 = .ok (.iadd, 1) := by decide +kernel
theorem d_La_law_530 : decode b_La_law 530 = .ok (.iaload, 1) := by decide +kernel
theorem d_La_law_531 : decode b_La_law 531 = .ok (.aload_n 0, 1) := by decide +kernel
theorem d_La_law_532 : decode b_La_law 532 = .ok (.iload 4, 2) := by decide +kernel
theorem d_La_law_534 : decode b_La_law 534 = .ok (.iconst 2, 1) := by decide +kernel
theorem d_La_law_535 : decode b_La_law 535 = .ok (.iadd, 1) := by decide +kernel
theorem d_La_law_536 : decode b_La_law 536 = .ok (.iaload, 1) := by decide +kernel
theorem d_La_law_537 : decode b_La_law 537 = .ok (.aload_n 0, 1) := by decide +kernel
theorem d_La_law_538 : decode b_La_law 538 = .ok (.iload 4, 2) := by decide +kernel
theorem d_La_law_540 : decode b_La_law 540 = .ok (.iconst 3, 1) := by decide +kernel
theorem d_La_law_541 : decode b_La_law 541 = .ok (.iadd, 1) := by decide +kernel
theorem d_La_law_542 : decode b_La_law 542 = .ok (.iaload, 1) := by decide +kernel
theorem d_La_law_543 : decode b_La_law 543 = .ok (.aload_n 3, 1) := by decide +kernel
theorem d_La_law_544 : decode b_La_law 544 = .ok (.invokestatic 95, 3) := by decide +kernel
theorem d_La_law_547 : decode b_La_law 547 = .ok (.istore 5, 2) := by decide +kernel
theorem d_La_law_549 : decode b_La_law 549 = .ok (.aload_n 2, 1) := by decide +kernel
theorem d_La_law_550 : decode b_La_law 550 = .ok (.aload_n 0, 1) := by decide +kernel
theorem d_La_law_551 : decode b_La_law 551 = .ok (.iload 4, 2) := by decide +kernel
theorem d_La_law_553 : decode b_La_law 553 = .ok (.iconst 1, 1) := by decide +kernel
theorem d_La_law_554 : decode b_La_law 554 = .ok (.iadd, 1) := by decide +kernel
theorem d_La_law_555 : decode b_La_law 555 = .ok (.iaload, 1) := by decide +kernel
theorem d_La_law_556 : decode b_La_law 556 = .ok (.aload_n 0, 1) := by decide +kernel
theorem d_La_law_557 : decode b_La_law 557 = .ok (.iload 4, 2) := by decide +kernel
theorem d_La_law_559 : decode b_La_law 559 = .ok (.iconst 2, 1) := by decide +kernel
theorem d_La_law_560 : decode b_La_law 560 = .ok (.iadd, 1) := by decide +kernel
theorem d_La_law_561 : decode b_La_law 561 = .ok (.iaload, 1) := by decide +kernel
theorem d_La_law_562 : decode b_La_law 562 = .ok (.aload_n 0, 1) := by decide +kernel
theorem d_La_law_563 : decode b_La_law 563 = .ok (.iload 4, 2) := by decide +kernel
theorem d_La_law_565 : decode b_La_law 565 = .ok (.iconst 3, 1) := by decide +kernel
theorem d_La_law_566 : decode b_La_law 566 = .ok (.iadd, 1) := by decide +kernel
theorem d_La_law_567 : decode b_La_law 567 = .ok (.iaload, 1) := by decide +kernel
theorem d_La_law_568 : decode b_La_law 568 = .ok (.invokevirtual 97, 3) := by decide +kernel
theorem d_La_law_571 : decode b_La_law 571 = .ok (.istore 6, 2) := by decide +kernel
theorem d_La_law_573 : decode b_La_law 573 = .ok (.aload_n 2, 1) := by decide +kernel
theorem d_La_law_574 : decode b_La_law 574 = .ok (.invokevirtual 82, 3) := by decide +kernel
theorem d_La_law_577 : decode b_La_law 577 = .ok (.iload 5, 2) := by decide +kernel
theorem d_La_law_579 : decode b_La_law 579 = .ok (.if_icmp .eq 5, 3) := by decide +kernel
theorem d_La_law_582 : decode b_La_law 582 = .ok (.iconst 0, 1) := by decide +kernel
theorem d_La_law_583 : decode b_La_law 583 = .ok (.ireturn, 1) := by decide +kernel
theorem d_La_law_584 : decode b_La_law 584 = .ok (.iload 5, 2) := by decide +kernel
theorem d_La_law_586 : decode b_La_law 586 = .ok (.ifCond .ne 15, 3) := by decide +kernel
theorem d_La_law_589 : decode b_La_law 589 = .ok (.aload_n 3, 1) := by decide +kernel
theorem d_La_law_590 : decode b_La_law 590 = .ok (.iconst 0, 1) := by decide +kernel
theorem d_La_law_591 : decode b_La_law 591 = .ok (.laload, 1) := by decide +kernel
theorem d_La_law_592 : decode b_La_law 592 = .ok (.iload 6, 2) := by decide +kernel
theorem d_La_law_594 : decode b_La_law 594 = .ok (.i2l, 1) := by decide +kernel
theorem d_La_law_595 : decode b_La_law 595 = .ok (.lcmp, 1) := by decide +kernel
theorem d_La_law_596 : decode b_La_law 596 = .ok (.ifCond .eq 5, 3) := by decide +kernel
theorem d_La_law_599 : decode b_La_law 599 = .ok (.iconst 0, 1) := by decide +kernel
theorem d_La_law_600 : decode b_La_law 600 = .ok (.ireturn, 1) := by decide +kernel
theorem d_La_law_601 : decode b_La_law 601 = .ok (.goto 667, 3) := by decide +kernel
theorem d_La_law_604 : decode b_La_law 604 = .ok (.aload_n 1, 1) := by decide +kernel
theorem d_La_law_605 : decode b_La_law 605 = .ok (.aload_n 0, 1) := by decide +kernel
theorem d_La_law_606 : decode b_La_law 606 = .ok (.iload 4, 2) := by decide +kernel
theorem d_La_law_608 : decode b_La_law 608 = .ok (.iconst 1, 1) := by decide +kernel
theorem d_La_law_609 : decode b_La_law 609 = .ok (.iadd, 1) := by decide +kernel
theorem d_La_law_610 : decode b_La_law 610 = .ok (.iaload, 1) := by decide +kernel
theorem d_La_law_611 : decode b_La_law 611 = .ok (.aload_n 0, 1) := by decide +kernel
theorem d_La_law_612 : decode b_La_law 612 = .ok (.iload 4, 2) := by decide +kernel
theorem d_La_law_614 : decode b_La_law 614 = .ok (.iconst 2, 1) := by decide +kernel
theorem d_La_law_615 : decode b_La_law 615 = .ok (.iadd, 1) := by decide +kernel
theorem d_La_law_616 : decode b_La_law 616 = .ok (.iaload, 1) := by decide +kernel
theorem d_La_law_617 : decode b_La_law 617 = .ok (.aload_n 3, 1) := by decide +kernel
theorem d_La_law_618 : decode b_La_law 618 = .ok (.invokestatic 98, 3) := by decide +kernel
theorem d_La_law_621 : decode b_La_law 621 = .ok (.istore 5, 2) := by decide +kernel
theorem d_La_law_623 : decode b_La_law 623 = .ok (.aload_n 2, 1) := by decide +kernel
theorem d_La_law_624 : decode b_La_law 624 = .ok (.aload_n 0, 1) := by decide +kernel
theorem d_La_law_625 : decode b_La_law 625 = .ok (.iload 4, 2) := by decide +kernel
theorem d_La_law_627 : decode b_La_law 627 = .ok (.iconst 1, 1) := by decide +kernel
theorem d_La_law_628 : decode b_La_law 628 = .ok (.iadd, 1) := by decide +kernel
theorem d_La_law_629 : decode b_La_law 629 = .ok (.iaload, 1) := by decide +kernel
theorem d_La_law_630 : decode b_La_law 630 = .ok (.aload_n 0, 1) := by decide +kernel
theorem d_La_law_631 : decode b_La_law 631 = .ok (.iload 4, 2) := by decide +kernel
theorem d_La_law_633 : decode b_La_law 633 = .ok (.iconst 2, 1) := by decide +kernel
theorem d_La_law_634 : decode b_La_law 634 = .ok (.iadd, 1) := by decide +kernel
theorem d_La_law_635 : decode b_La_law 635 = .ok (.iaload, 1) := by decide +kernel
theorem d_La_law_636 : decode b_La_law 636 = .ok (.invokevirtual 101, 3) := by decide +kernel
theorem d_La_law_639 : decode b_La_law 639 = .ok (.istore 6, 2) := by decide +kernel
theorem d_La_law_641 : decode b_La_law 641 = .ok (.aload_n 2, 1) := by decide +kernel
theorem d_La_law_642 : decode b_La_law 642 = .ok (.invokevirtual 82, 3) := by decide +kernel
theorem d_La_law_645 : decode b_La_law 645 = .ok (.iload 5, 2) := by decide +kernel
theorem d_La_law_647 : decode b_La_law 647 = .ok (.if_icmp .eq 5, 3) := by decide +kernel
theorem d_La_law_650 : decode b_La_law 650 = .ok (.iconst 0, 1) := by decide +kernel
theorem d_La_law_651 : decode b_La_law 651 = .ok (.ireturn, 1) := by decide +kernel
theorem d_La_law_652 : decode b_La_law 652 = .ok (.iload 5, 2) := by decide +kernel
theorem d_La_law_654 : decode b_La_law 654 = .ok (.ifCond .ne 15, 3) := by decide +kernel
theorem d_La_law_657 : decode b_La_law 657 = .ok (.aload_n 3, 1) := by decide +kernel
theorem d_La_law_658 : decode b_La_law 658 = .ok (.iconst 0, 1) := by decide +kernel
theorem d_La_law_659 : decode b_La_law 659 = .ok (.laload, 1) := by decide +kernel
theorem d_La_law_660 : decode b_La_law 660 = .ok (.iload 6, 2) := by decide +kernel
theorem d_La_law_662 : decode b_La_law 662 = .ok (.i2l, 1) := by decide +kernel
theorem d_La_law_663 : decode b_La_law 663 = .ok (.lcmp, 1) := by decide +kernel
theorem d_La_law_664 : decode b_La_law 664 = .ok (.ifCond .eq 5, 3) := by decide +kernel
theorem d_La_law_667 : decode b_La_law 667 = .ok (.iconst 0, 1) := by decide +kernel
theorem d_La_law_668 : decode b_La_law 668 = .ok (.ireturn, 1) := by decide +kernel
theorem d_La_law_669 : decode b_La_law 669 = .ok (.goto 599, 3) := by decide +kernel
theorem d_La_law_672 : decode b_La_law 672 = .ok (.aload_n 1, 1) := by decide +kernel
theorem d_La_law_673 : decode b_La_law 673 = .ok (.aload_n 0, 1) := by decide +kernel
theorem d_La_law_674 : decode b_La_law 674 = .ok (.iload 4, 2) := by decide +kernel
theorem d_La_law_676 : decode b_La_law 676 = .ok (.iconst 1, 1) := by decide +kernel
theorem d_La_law_677 : decode b_La_law 677 = .ok (.iadd, 1) := by decide +kernel
theorem d_La_law_678 : decode b_La_law 678 = .ok (.iaload, 1) := by decide +kernel
theorem d_La_law_679 : decode b_La_law 679 = .ok (.aload_n 0, 1) := by decide +kernel
theorem d_La_law_680 : decode b_La_law 680 = .ok (.iload 4, 2) := by decide +kernel
theorem d_La_law_682 : decode b_La_law 682 = .ok (.iconst 2, 1) := by decide +kernel
theorem d_La_law_683 : decode b_La_law 683 = .ok (.iadd, 1) := by decide +kernel
theorem d_La_law_684 : decode b_La_law 684 = .ok (.iaload, 1) := by decide +kernel
theorem d_La_law_685 : decode b_La_law 685 = .ok (.aload_n 3, 1) := by decide +kernel
theorem d_La_law_686 : decode b_La_law 686 = .ok (.invokestatic 102, 3) := by decide +kernel
theorem d_La_law_689 : decode b_La_law 689 = .ok (.istore 5, 2) := by decide +kernel
theorem d_La_law_691 : decode b_La_law 691 = .ok (.aload_n 2, 1) := by decide +kernel
theorem d_La_law_692 : decode b_La_law 692 = .ok (.aload_n 0, 1) := by decide +kernel
theorem d_La_law_693 : decode b_La_law 693 = .ok (.iload 4, 2) := by decide +kernel
theorem d_La_law_695 : decode b_La_law 695 = .ok (.iconst 1, 1) := by decide +kernel
theorem d_La_law_696 : decode b_La_law 696 = .ok (.iadd, 1) := by decide +kernel
theorem d_La_law_697 : decode b_La_law 697 = .ok (.iaload, 1) := by decide +kernel
theorem d_La_law_698 : decode b_La_law 698 = .ok (.aload_n 0, 1) := by decide +kernel
theorem d_La_law_699 : decode b_La_law 699 = .ok (.iload 4, 2) := by decide +kernel
theorem d_La_law_701 : decode b_La_law 701 = .ok (.iconst 2, 1) := by decide +kernel
theorem d_La_law_702 : decode b_La_law 702 = .ok (.iadd, 1) := by decide +kernel
theorem d_La_law_703 : decode b_La_law 703 = .ok (.iaload, 1) := by decide +kernel
theorem d_La_law_704 : decode b_La_law 704 = .ok (.invokevirtual 104, 3) := by decide +kernel
theorem d_La_law_707 : decode b_La_law 707 = .ok (.istore 6, 2) := by decide +kernel
theorem d_La_law_709 : decode b_La_law 709 = .ok (.aload_n 2, 1) := by decide +kernel
theorem d_La_law_710 : decode b_La_law 710 = .ok (.invokevirtual 82, 3) := by decide +kernel
theorem d_La_law_713 : decode b_La_law 713 = .ok (.iload 5, 2) := by decide +kernel
theorem d_La_law_715 : decode b_La_law 715 = .ok (.if_icmp .eq 5, 3) := by decide +kernel
theorem d_La_law_718 : decode b_La_law 718 = .ok (.iconst 0, 1) := by decide +kernel
theorem d_La_law_719 : decode b_La_law 719 = .ok (.ireturn, 1) := by decide +kernel
theorem d_La_law_720 : decode b_La_law 720 = .ok (.iload 5, 2) := by decide +kernel
theorem d_La_law_722 : decode b_La_law 722 = .ok (.ifCond .ne 15, 3) := by decide +kernel
theorem d_La_law_725 : decode b_La_law 725 = .ok (.aload_n 3, 1) := by decide +kernel
theorem d_La_law_726 : decode b_La_law 726 = .ok (.iconst 0, 1) := by decide +kernel
theorem d_La_law_727 : decode b_La_law 727 = .ok (.laload, 1) := by decide +kernel
theorem d_La_law_728 : decode b_La_law 728 = .ok (.iload 6, 2) := by decide +kernel
theorem d_La_law_730 : decode b_La_law 730 = .ok (.i2l, 1) := by decide +kernel
theorem d_La_law_731 : decode b_La_law 731 = .ok (.lcmp, 1) := by decide +kernel
theorem d_La_law_732 : decode b_La_law 732 = .ok (.ifCond .eq 5, 3) := by decide +kernel
theorem d_La_law_735 : decode b_La_law 735 = .ok (.iconst 0, 1) := by decide +kernel
theorem d_La_law_736 : decode b_La_law 736 = .ok (.ireturn, 1) := by decide +kernel
theorem d_La_law_737 : decode b_La_law 737 = .ok (.goto 531, 3) := by decide +kernel
theorem d_La_law_740 : decode b_La_law 740 = .ok (.aload_n 1, 1) := by decide +kernel
theorem d_La_law_741 : decode b_La_law 741 = .ok (.aload_n 0, 1) := by decide +kernel
theorem d_La_law_742 : decode b_La_law 742 = .ok (.iload 4, 2) := by decide +kernel
theorem d_La_law_744 : decode b_La_law 744 = .ok (.iconst 1, 1) := by decide +kernel
theorem d_La_law_745 : decode b_La_law 745 = .ok (.iadd, 1) := by decide +kernel
theorem d_La_law_746 : decode b_La_law 746 = .ok (.iaload, 1) := by decide +kernel
theorem d_La_law_747 : decode b_La_law 747 = .ok (.aload_n 0, 1) := by decide +kernel
theorem d_La_law_748 : decode b_La_law 748 = .ok (.iload 4, 2) := by decide +kernel
theorem d_La_law_750 : decode b_La_law 750 = .ok (.iconst 2, 1) := by decide +kernel
theorem d_La_law_751 : decode b_La_law 751 = .ok (.iadd, 1) := by decide +kernel
theorem d_La_law_752 : decode b_La_law 752 = .ok (.iaload, 1) := by decide +kernel
theorem d_La_law_753 : decode b_La_law 753 = .ok (.aload_n 3, 1) := by decide +kernel
theorem d_La_law_754 : decode b_La_law 754 = .ok (.invokestatic 105, 3) := by decide +kernel
theorem d_La_law_757 : decode b_La_law 757 = .ok (.istore 5, 2) := by decide +kernel
theorem d_La_law_759 : decode b_La_law 759 = .ok (.aload_n 2, 1) := by decide +kernel
theorem d_La_law_760 : decode b_La_law 760 = .ok (.aload_n 0, 1) := by decide +kernel
theorem d_La_law_761 : decode b_La_law 761 = .ok (.iload 4, 2) := by decide +kernel
theorem d_La_law_763 : decode b_La_law 763 = .ok (.iconst 1, 1) := by decide +kernel
theorem d_La_law_764 : decode b_La_law 764 = .ok (.iadd, 1) := by decide +kernel
theorem d_La_law_765 : decode b_La_law 765 = .ok (.iaload, 1) := by decide +kernel
theorem d_La_law_766 : decode b_La_law 766 = .ok (.aload_n 0, 1) := by decide +kernel
theorem d_La_law_767 : decode b_La_law 767 = .ok (.iload 4, 2) := by decide +kernel
theorem d_La_law_769 : decode b_La_law 769 = .ok (.iconst 2, 1) := by decide +kernel
theorem d_La_law_770 : decode b_La_law 770 = .ok (.iadd, 1) := by decide +kernel
theorem d_La_law_771 : decode b_La_law 771 = .ok (.iaload, 1) := by decide +kernel
theorem d_La_law_772 : decode b_La_law 772 = .ok (.invokevirtual 107, 3) := by decide +kernel
theorem d_La_law_775 : decode b_La_law 775 = .ok (.istore 6, 2) := by decide +kernel
theorem d_La_law_777 : decode b_La_law 777 = .ok (.aload_n 2, 1) := by decide +kernel
theorem d_La_law_778 : decode b_La_law 778 = .ok (.invokevirtual 82, 3) := by decide +kernel
theorem d_La_law_781 : decode b_La_law 781 = .ok (.iload 5, 2) := by decide +kernel
theorem d_La_law_783 : decode b_La_law 783 = .ok (.if_icmp .eq 5, 3) := by decide +kernel
theorem d_La_law_786 : decode b_La_law 786 = .ok (.iconst 0, 1) := by decide +kernel
theorem d_La_law_787 : decode b_La_law 787 = .ok (.ireturn, 1) := by decide +kernel
theorem d_La_law_788 : decode b_La_law 788 = .ok (.iload 5, 2) := by decide +kernel
theorem d_La_law_790 : decode b_La_law 790 = .ok (.ifCond .ne 15, 3) := by decide +kernel
theorem d_La_law_793 : decode b_La_law 793 = .ok (.aload_n 3, 1) := by decide +kernel
theorem d_La_law_794 : decode b_La_law 794 = .ok (.iconst 0, 1) := by decide +kernel
theorem d_La_law_795 : decode b_La_law 795 = .ok (.laload, 1) := by decide +kernel
theorem d_La_law_796 : decode b_La_law 796 = .ok (.iload 6, 2) := by decide +kernel
theorem d_La_law_798 : decode b_La_law 798 = .ok (.i2l, 1) := by decide +kernel
theorem d_La_law_799 : decode b_La_law 799 = .ok (.lcmp, 1) := by decide +kernel
theorem d_La_law_800 : decode b_La_law 800 = .ok (.ifCond .eq 5, 3) := by decide +kernel
theorem d_La_law_803 : decode b_La_law 803 = .ok (.iconst 0, 1) := by decide +kernel
theorem d_La_law_804 : decode b_La_law 804 = .ok (.ireturn, 1) := by decide +kernel
theorem d_La_law_805 : decode b_La_law 805 = .ok (.goto 463, 3) := by decide +kernel
theorem d_La_law_808 : decode b_La_law 808 = .ok (.aload_n 1, 1) := by decide +kernel
theorem d_La_law_809 : decode b_La_law 809 = .ok (.aload_n 0, 1) := by decide +kernel
theorem d_La_law_810 : decode b_La_law 810 = .ok (.iload 4, 2) := by decide +kernel
theorem d_La_law_812 : decode b_La_law 812 = .ok (.iconst 1, 1) := by decide +kernel
theorem d_La_law_813 : decode b_La_law 813 = .ok (.iadd, 1) := by decide +kernel
theorem d_La_law_814 : decode b_La_law 814 = .ok (.iaload, 1) := by decide +kernel
theorem d_La_law_815 : decode b_La_law 815 = .ok (.aload_n 3, 1) := by decide +kernel
theorem d_La_law_816 : decode b_La_law 816 = .ok (.invokestatic 108, 3) := by decide +kernel
theorem d_La_law_819 : decode b_La_law 819 = .ok (.istore 5, 2) := by decide +kernel
theorem d_La_law_821 : decode b_La_law 821 = .ok (.aload_n 2, 1) := by decide +kernel
theorem d_La_law_822 : decode b_La_law 822 = .ok (.aload_n 0, 1) := by decide +kernel
theorem d_La_law_823 : decode b_La_law 823 = .ok (.iload 4, 2) := by decide +kernel
theorem d_La_law_825 : decode b_La_law 825 = .ok (.iconst 1, 1) := by decide +kernel
theorem d_La_law_826 : decode b_La_law 826 = .ok (.iadd, 1) := by decide +kernel
theorem d_La_law_827 : decode b_La_law 827 = .ok (.iaload, 1) := by decide +kernel
theorem d_La_law_828 : decode b_La_law 828 = .ok (.invokevirtual 111, 3) := by decide +kernel
theorem d_La_law_831 : decode b_La_law 831 = .ok (.istore 6, 2) := by decide +kernel
theorem d_La_law_833 : decode b_La_law 833 = .ok (.aload_n 2, 1) := by decide +kernel
theorem d_La_law_834 : decode b_La_law 834 = .ok (.invokevirtual 82, 3) := by decide +kernel
theorem d_La_law_837 : decode b_La_law 837 = .ok (.iload 5, 2) := by decide +kernel
theorem d_La_law_839 : decode b_La_law 839 = .ok (.if_icmp .eq 5, 3) := by decide +kernel
theorem d_La_law_842 : decode b_La_law 842 = .ok (.iconst 0, 1) := by decide +kernel
theorem d_La_law_843 : decode b_La_law 843 = .ok (.ireturn, 1) := by decide +kernel
theorem d_La_law_844 : decode b_La_law 844 = .ok (.iload 5, 2) := by decide +kernel
theorem d_La_law_846 : decode b_La_law 846 = .ok (.ifCond .ne 15, 3) := by decide +kernel
theorem d_La_law_849 : decode b_La_law 849 = .ok (.aload_n 3, 1) := by decide +kernel
theorem d_La_law_850 : decode b_La_law 850 = .ok (.iconst 0, 1) := by decide +kernel
theorem d_La_law_851 : decode b_La_law 851 = .ok (.laload, 1) := by decide +kernel
theorem d_La_law_852 : decode b_La_law 852 = .ok (.iload 6, 2) := by decide +kernel
theorem d_La_law_854 : decode b_La_law 854 = .ok (.i2l, 1) := by decide +kernel
theorem d_La_law_855 : decode b_La_law 855 = .ok (.lcmp, 1) := by decide +kernel
theorem d_La_law_856 : decode b_La_law 856 = .ok (.ifCond .eq 5, 3) := by decide +kernel
theorem d_La_law_859 : decode b_La_law 859 = .ok (.iconst 0, 1) := by decide +kernel
theorem d_La_law_860 : decode b_La_law 860 = .ok (.ireturn, 1) := by decide +kernel
theorem d_La_law_861 : decode b_La_law 861 = .ok (.goto 407, 3) := by decide +kernel
theorem d_La_law_864 : decode b_La_law 864 = .ok (.aload_n 1, 1) := by decide +kernel
theorem d_La_law_865 : decode b_La_law 865 = .ok (.aload_n 0, 1) := by decide +kernel
theorem d_La_law_866 : decode b_La_law 866 = .ok (.iload 4, 2) := by decide +kernel
theorem d_La_law_868 : decode b_La_law 868 = .ok (.iconst 1, 1) := by decide +kernel
theorem d_La_law_869 : decode b_La_law 869 = .ok (.iadd, 1) := by decide +kernel
theorem d_La_law_870 : decode b_La_law 870 = .ok (.iaload, 1) := by decide +kernel
theorem d_La_law_871 : decode b_La_law 871 = .ok (.aload_n 3, 1) := by decide +kernel
theorem d_La_law_872 : decode b_La_law 872 = .ok (.invokestatic 112, 3) := by decide +kernel
theorem d_La_law_875 : decode b_La_law 875 = .ok (.istore 5, 2) := by decide +kernel
theorem d_La_law_877 : decode b_La_law 877 = .ok (.aload_n 2, 1) := by decide +kernel
theorem d_La_law_878 : decode b_La_law 878 = .ok (.aload_n 0, 1) := by decide +kernel
theorem d_La_law_879 : decode b_La_law 879 = .ok (.iload 4, 2) := by decide +kernel
theorem d_La_law_881 : decode b_La_law 881 = .ok (.iconst 1, 1) := by decide +kernel
theorem d_La_law_882 : decode b_La_law 882 = .ok (.iadd, 1) := by decide +kernel
theorem d_La_law_883 : decode b_La_law 883 = .ok (.iaload, 1) := by decide +kernel
theorem d_La_law_884 : decode b_La_law 884 = .ok (.invokevirtual 114, 3) := by decide +kernel
theorem d_La_law_887 : decode b_La_law 887 = .ok (.istore 6, 2) := by decide +kernel
theorem d_La_law_889 : decode b_La_law 889 = .ok (.aload_n 2, 1) := by decide +kernel
theorem d_La_law_890 : decode b_La_law 890 = .ok (.invokevirtual 82, 3) := by decide +kernel
theorem d_La_law_893 : decode b_La_law 893 = .ok (.iload 5, 2) := by decide +kernel
theorem d_La_law_895 : decode b_La_law 895 = .ok (.if_icmp .eq 5, 3) := by decide +kernel
theorem d_La_law_898 : decode b_La_law 898 = .ok (.iconst 0, 1) := by decide +kernel
theorem d_La_law_899 : decode b_La_law 899 = .ok (.ireturn, 1) := by decide +kernel
theorem d_La_law_900 : decode b_La_law 900 = .ok (.iload 5, 2) := by decide +kernel
theorem d_La_law_902 : decode b_La_law 902 = .ok (.ifCond .ne 15, 3) := by decide +kernel
theorem d_La_law_905 : decode b_La_law 905 = .ok (.aload_n 3, 1) := by decide +kernel
theorem d_La_law_906 : decode b_La_law 906 = .ok (.iconst 0, 1) := by decide +kernel
theorem d_La_law_907 : decode b_La_law 907 = .ok (.laload, 1) := by decide +kernel
theorem d_La_law_908 : decode b_La_law 908 = .ok (.iload 6, 2) := by decide +kernel
theorem d_La_law_910 : decode b_La_law 910 = .ok (.i2l, 1) := by decide +kernel
theorem d_La_law_911 : decode b_La_law 911 = .ok (.lcmp, 1) := by decide +kernel
theorem d_La_law_912 : decode b_La_law 912 = .ok (.ifCond .eq 5, 3) := by decide +kernel
theorem d_La_law_915 : decode b_La_law 915 = .ok (.iconst 0, 1) := by decide +kernel
theorem d_La_law_916 : decode b_La_law 916 = .ok (.ireturn, 1) := by decide +kernel
theorem d_La_law_917 : decode b_La_law 917 = .ok (.goto 351, 3) := by decide +kernel
theorem d_La_law_920 : decode b_La_law 920 = .ok (.aload_n 1, 1) := by decide +kernel
theorem d_La_law_921 : decode b_La_law 921 = .ok (.aload_n 0, 1) := by decide +kernel
theorem d_La_law_922 : decode b_La_law 922 = .ok (.iload 4, 2) := by decide +kernel
theorem d_La_law_924 : decode b_La_law 924 = .ok (.iconst 1, 1) := by decide +kernel
theorem d_La_law_925 : decode b_La_law 925 = .ok (.iadd, 1) := by decide +kernel
theorem d_La_law_926 : decode b_La_law 926 = .ok (.iaload, 1) := by decide +kernel
theorem d_La_law_927 : decode b_La_law 927 = .ok (.aload_n 3, 1) := by decide +kernel
theorem d_La_law_928 : decode b_La_law 928 = .ok (.invokestatic 115, 3) := by decide +kernel
theorem d_La_law_931 : decode b_La_law 931 = .ok (.istore 5, 2) := by decide +kernel
theorem d_La_law_933 : decode b_La_law 933 = .ok (.aload_n 2, 1) := by decide +kernel
theorem d_La_law_934 : decode b_La_law 934 = .ok (.aload_n 0, 1) := by decide +kernel
theorem d_La_law_935 : decode b_La_law 935 = .ok (.iload 4, 2) := by decide +kernel
theorem d_La_law_937 : decode b_La_law 937 = .ok (.iconst 1, 1) := by decide +kernel
theorem d_La_law_938 : decode b_La_law 938 = .ok (.iadd, 1) := by decide +kernel
theorem d_La_law_939 : decode b_La_law 939 = .ok (.iaload, 1) := by decide +kernel
theorem d_La_law_940 : decode b_La_law 940 = .ok (.invokevirtual 117, 3) := by decide +kernel
theorem d_La_law_943 : decode b_La_law 943 = .ok (.istore 6, 2) := by decide +kernel
theorem d_La_law_945 : decode b_La_law 945 = .ok (.aload_n 2, 1) := by decide +kernel
theorem d_La_law_946 : decode b_La_law 946 = .ok (.invokevirtual 82, 3) := by decide +kernel
theorem d_La_law_949 : decode b_La_law 949 = .ok (.iload 5, 2) := by decide +kernel
theorem d_La_law_951 : decode b_La_law 951 = .ok (.if_icmp .eq 5, 3) := by decide +kernel
theorem d_La_law_954 : decode b_La_law 954 = .ok (.iconst 0, 1) := by decide +kernel
theorem d_La_law_955 : decode b_La_law 955 = .ok (.ireturn, 1) := by decide +kernel
theorem d_La_law_956 : decode b_La_law 956 = .ok (.iload 5, 2) := by decide +kernel
theorem d_La_law_958 : decode b_La_law 958 = .ok (.ifCond .ne 15, 3) := by decide +kernel
theorem d_La_law_961 : decode b_La_law 961 = .ok (.aload_n 3, 1) := by decide +kernel
theorem d_La_law_962 : decode b_La_law 962 = .ok (.iconst 0, 1) := by decide +kernel
theorem d_La_law_963 : decode b_La_law 963 = .ok (.laload, 1) := by decide +kernel
theorem d_La_law_964 : decode b_La_law 964 = .ok (.iload 6, 2) := by decide +kernel
theorem d_La_law_966 : decode b_La_law 966 = .ok (.i2l, 1) := by decide +kernel
theorem d_La_law_967 : decode b_La_law 967 = .ok (.lcmp, 1) := by decide +kernel
theorem d_La_law_968 : decode b_La_law 968 = .ok (.ifCond .eq 5, 3) := by decide +kernel
theorem d_La_law_971 : decode b_La_law 971 = .ok (.iconst 0, 1) := by decide +kernel
theorem d_La_law_972 : decode b_La_law 972 = .ok (.ireturn, 1) := by decide +kernel
theorem d_La_law_973 : decode b_La_law 973 = .ok (.goto 295, 3) := by decide +kernel
theorem d_La_law_976 : decode b_La_law 976 = .ok (.aload_n 1, 1) := by decide +kernel
theorem d_La_law_977 : decode b_La_law 977 = .ok (.aload_n 3, 1) := by decide +kernel
theorem d_La_law_978 : decode b_La_law 978 = .ok (.invokestatic 118, 3) := by decide +kernel
theorem d_La_law_981 : decode b_La_law 981 = .ok (.istore 5, 2) := by decide +kernel
theorem d_La_law_983 : decode b_La_law 983 = .ok (.aload_n 2, 1) := by decide +kernel
theorem d_La_law_984 : decode b_La_law 984 = .ok (.invokevirtual 121, 3) := by decide +kernel
theorem d_La_law_987 : decode b_La_law 987 = .ok (.istore 6, 2) := by decide +kernel
theorem d_La_law_989 : decode b_La_law 989 = .ok (.aload_n 2, 1) := by decide +kernel
theorem d_La_law_990 : decode b_La_law 990 = .ok (.invokevirtual 82, 3) := by decide +kernel
theorem d_La_law_993 : decode b_La_law 993 = .ok (.iload 5, 2) := by decide +kernel
theorem d_La_law_995 : decode b_La_law 995 = .ok (.if_icmp .eq 5, 3) := by decide +kernel
theorem d_La_law_998 : decode b_La_law 998 = .ok (.iconst 0, 1) := by decide +kernel
theorem d_La_law_999 : decode b_La_law 999 = .ok (.ireturn, 1) := by decide +kernel
theorem d_La_law_1000 : decode b_La_law 1000 = .ok (.iload 5, 2) := by decide +kernel
theorem d_La_law_1002 : decode b_La_law 1002 = .ok (.ifCond .ne 15, 3) := by decide +kernel
theorem d_La_law_1005 : decode b_La_law 1005 = .ok (.aload_n 3, 1) := by decide +kernel
theorem d_La_law_1006 : decode b_La_law 1006 = .ok (.iconst 0, 1) := by decide +kernel
theorem d_La_law_1007 : decode b_La_law 1007 = .ok (.laload, 1) := by decide +kernel
theorem d_La_law_1008 : decode b_La_law 1008 = .ok (.iload 6, 2) := by decide +kernel
theorem d_La_law_1010 : decode b_La_law 1010 = .ok (.i2l, 1) := by decide +kernel
theorem d_La_law_1011 : decode b_La_law 1011 = .ok (.lcmp, 1) := by decide +kernel
theorem d_La_law_1012 : decode b_La_law 1012 = .ok (.ifCond .eq 5, 3) := by decide +kernel
theorem d_La_law_1015 : decode b_La_law 1015 = .ok (.iconst 0, 1) := by decide +kernel
theorem d_La_law_1016 : decode b_La_law 1016 = .ok (.ireturn, 1) := by decide +kernel
theorem d_La_law_1017 : decode b_La_law 1017 = .ok (.goto 251, 3) := by decide +kernel
theorem d_La_law_1020 : decode b_La_law 1020 = .ok (.aload_n 1, 1) := by decide +kernel
theorem d_La_law_1021 : decode b_La_law 1021 = .ok (.aload_n 0, 1) := by decide +kernel
theorem d_La_law_1022 : decode b_La_law 1022 = .ok (.iload 4, 2) := by decide +kernel
theorem d_La_law_1024 : decode b_La_law 1024 = .ok (.iconst 1, 1) := by decide +kernel
theorem d_La_law_1025 : decode b_La_law 1025 = .ok (.iadd, 1) := by decide +kernel
theorem d_La_law_1026 : decode b_La_law 1026 = .ok (.iaload, 1) := by decide +kernel
theorem d_La_law_1027 : decode b_La_law 1027 = .ok (.aload_n 3, 1) := by decide +kernel
theorem d_La_law_1028 : decode b_La_law 1028 = .ok (.invokestatic 122, 3) := by decide +kernel
theorem d_La_law_1031 : decode b_La_law 1031 = .ok (.istore 5, 2) := by decide +kernel
theorem d_La_law_1033 : decode b_La_law 1033 = .ok (.aload_n 2, 1) := by decide +kernel
theorem d_La_law_1034 : decode b_La_law 1034 = .ok (.aload_n 0, 1) := by decide +kernel
theorem d_La_law_1035 : decode b_La_law 1035 = .ok (.iload 4, 2) := by decide +kernel
theorem d_La_law_1037 : decode b_La_law 1037 = .ok (.iconst 1, 1) := by decide +kernel
theorem d_La_law_1038 : decode b_La_law 1038 = .ok (.iadd, 1) := by decide +kernel
theorem d_La_law_1039 : decode b_La_law 1039 = .ok (.iaload, 1) := by decide +kernel
theorem d_La_law_1040 : decode b_La_law 1040 = .ok (.invokevirtual 124, 3) := by decide +kernel
theorem d_La_law_1043 : decode b_La_law 1043 = .ok (.istore 6, 2) := by decide +kernel
theorem d_La_law_1045 : decode b_La_law 1045 = .ok (.aload_n 2, 1) := by decide +kernel
theorem d_La_law_1046 : decode b_La_law 1046 = .ok (.invokevirtual 82, 3) := by decide +kernel
theorem d_La_law_1049 : decode b_La_law 1049 = .ok (.iload 5, 2) := by decide +kernel
theorem d_La_law_1051 : decode b_La_law 1051 = .ok (.if_icmp .eq 5, 3) := by decide +kernel
theorem d_La_law_1054 : decode b_La_law 1054 = .ok (.iconst 0, 1) := by decide +kernel
theorem d_La_law_1055 : decode b_La_law 1055 = .ok (.ireturn, 1) := by decide +kernel
theorem d_La_law_1056 : decode b_La_law 1056 = .ok (.iload 5, 2) := by decide +kernel
theorem d_La_law_1058 : decode b_La_law 1058 = .ok (.ifCond .ne 15, 3) := by decide +kernel
theorem d_La_law_1061 : decode b_La_law 1061 = .ok (.aload_n 3, 1) := by decide +kernel
theorem d_La_law_1062 : decode b_La_law 1062 = .ok (.iconst 0, 1) := by decide +kernel
theorem d_La_law_1063 : decode b_La_law 1063 = .ok (.laload, 1) := by decide +kernel
theorem d_La_law_1064 : decode b_La_law 1064 = .ok (.iload 6, 2) := by decide +kernel
theorem d_La_law_1066 : decode b_La_law 1066 = .ok (.i2l, 1) := by decide +kernel
theorem d_La_law_1067 : decode b_La_law 1067 = .ok (.lcmp, 1) := by decide +kernel
theorem d_La_law_1068 : decode b_La_law 1068 = .ok (.ifCond .eq 5, 3) := by decide +kernel
theorem d_La_law_1071 : decode b_La_law 1071 = .ok (.iconst 0, 1) := by decide +kernel
theorem d_La_law_1072 : decode b_La_law 1072 = .ok (.ireturn, 1) := by decide +kernel
theorem d_La_law_1073 : decode b_La_law 1073 = .ok (.goto 195, 3) := by decide +kernel
theorem d_La_law_1076 : decode b_La_law 1076 = .ok (.aload_n 1, 1) := by decide +kernel
theorem d_La_law_1077 : decode b_La_law 1077 = .ok (.aload_n 0, 1) := by decide +kernel
theorem d_La_law_1078 : decode b_La_law 1078 = .ok (.iload 4, 2) := by decide +kernel
theorem d_La_law_1080 : decode b_La_law 1080 = .ok (.iconst 1, 1) := by decide +kernel
theorem d_La_law_1081 : decode b_La_law 1081 = .ok (.iadd, 1) := by decide +kernel
theorem d_La_law_1082 : decode b_La_law 1082 = .ok (.iaload, 1) := by decide +kernel
theorem d_La_law_1083 : decode b_La_law 1083 = .ok (.aload_n 3, 1) := by decide +kernel
theorem d_La_law_1084 : decode b_La_law 1084 = .ok (.invokestatic 125, 3) := by decide +kernel
theorem d_La_law_1087 : decode b_La_law 1087 = .ok (.istore 5, 2) := by decide +kernel
theorem d_La_law_1089 : decode b_La_law 1089 = .ok (.aload_n 2, 1) := by decide +kernel
theorem d_La_law_1090 : decode b_La_law 1090 = .ok (.aload_n 0, 1) := by decide +kernel
theorem d_La_law_1091 : decode b_La_law 1091 = .ok (.iload 4, 2) := by decide +kernel
theorem d_La_law_1093 : decode b_La_law 1093 = .ok (.iconst 1, 1) := by decide +kernel
theorem d_La_law_1094 : decode b_La_law 1094 = .ok (.iadd, 1) := by decide +kernel
theorem d_La_law_1095 : decode b_La_law 1095 = .ok (.iaload, 1) := by decide +kernel
theorem d_La_law_1096 : decode b_La_law 1096 = .ok (.invokevirtual 127, 3) := by decide +kernel
theorem d_La_law_1099 : decode b_La_law 1099 = .ok (.istore 6, 2) := by decide +kernel
theorem d_La_law_1101 : decode b_La_law 1101 = .ok (.aload_n 2, 1) := by decide +kernel
theorem d_La_law_1102 : decode b_La_law 1102 = .ok (.invokevirtual 82, 3) := by decide +kernel
theorem d_La_law_1105 : decode b_La_law 1105 = .ok (.iload 5, 2) := by decide +kernel
theorem d_La_law_1107 : decode b_La_law 1107 = .ok (.if_icmp .eq 5, 3) := by decide +kernel
theorem d_La_law_1110 : decode b_La_law 1110 = .ok (.iconst 0, 1) := by decide +kernel
theorem d_La_law_1111 : decode b_La_law 1111 = .ok (.ireturn, 1) := by decide +kernel
theorem d_La_law_1112 : decode b_La_law 1112 = .ok (.iload 5, 2) := by decide +kernel
theorem d_La_law_1114 : decode b_La_law 1114 = .ok (.ifCond .ne 15, 3) := by decide +kernel
theorem d_La_law_1117 : decode b_La_law 1117 = .ok (.aload_n 3, 1) := by decide +kernel
theorem d_La_law_1118 : decode b_La_law 1118 = .ok (.iconst 0, 1) := by decide +kernel
theorem d_La_law_1119 : decode b_La_law 1119 = .ok (.laload, 1) := by decide +kernel
theorem d_La_law_1120 : decode b_La_law 1120 = .ok (.iload 6, 2) := by decide +kernel
theorem d_La_law_1122 : decode b_La_law 1122 = .ok (.i2l, 1) := by decide +kernel
theorem d_La_law_1123 : decode b_La_law 1123 = .ok (.lcmp, 1) := by decide +kernel
theorem d_La_law_1124 : decode b_La_law 1124 = .ok (.ifCond .eq 5, 3) := by decide +kernel
theorem d_La_law_1127 : decode b_La_law 1127 = .ok (.iconst 0, 1) := by decide +kernel
theorem d_La_law_1128 : decode b_La_law 1128 = .ok (.ireturn, 1) := by decide +kernel
theorem d_La_law_1129 : decode b_La_law 1129 = .ok (.goto 139, 3) := by decide +kernel
theorem d_La_law_1132 : decode b_La_law 1132 = .ok (.aload_n 1, 1) := by decide +kernel
theorem d_La_law_1133 : decode b_La_law 1133 = .ok (.aload_n 0, 1) := by decide +kernel
theorem d_La_law_1134 : decode b_La_law 1134 = .ok (.iload 4, 2) := by decide +kernel
theorem d_La_law_1136 : decode b_La_law 1136 = .ok (.iconst 1, 1) := by decide +kernel
theorem d_La_law_1137 : decode b_La_law 1137 = .ok (.iadd, 1) := by decide +kernel
theorem d_La_law_1138 : decode b_La_law 1138 = .ok (.iaload, 1) := by decide +kernel
theorem d_La_law_1139 : decode b_La_law 1139 = .ok (.aload_n 0, 1) := by decide +kernel
theorem d_La_law_1140 : decode b_La_law 1140 = .ok (.iload 4, 2) := by decide +kernel
theorem d_La_law_1142 : decode b_La_law 1142 = .ok (.iconst 2, 1) := by decide +kernel
theorem d_La_law_1143 : decode b_La_law 1143 = .ok (.iadd, 1) := by decide +kernel
theorem d_La_law_1144 : decode b_La_law 1144 = .ok (.iaload, 1) := by decide +kernel
theorem d_La_law_1145 : decode b_La_law 1145 = .ok (.aload_n 3, 1) := by decide +kernel
theorem d_La_law_1146 : decode b_La_law 1146 = .ok (.invokestatic 128, 3) := by decide +kernel
theorem d_La_law_1149 : decode b_La_law 1149 = .ok (.istore 5, 2) := by decide +kernel
theorem d_La_law_1151 : decode b_La_law 1151 = .ok (.aload_n 2, 1) := by decide +kernel
theorem d_La_law_1152 : decode b_La_law 1152 = .ok (.aload_n 0, 1) := by decide +kernel
theorem d_La_law_1153 : decode b_La_law 1153 = .ok (.iload 4, 2) := by decide +kernel
theorem d_La_law_1155 : decode b_La_law 1155 = .ok (.iconst 1, 1) := by decide +kernel
theorem d_La_law_1156 : decode b_La_law 1156 = .ok (.iadd, 1) := by decide +kernel
theorem d_La_law_1157 : decode b_La_law 1157 = .ok (.iaload, 1) := by decide +kernel
theorem d_La_law_1158 : decode b_La_law 1158 = .ok (.aload_n 0, 1) := by decide +kernel
theorem d_La_law_1159 : decode b_La_law 1159 = .ok (.iload 4, 2) := by decide +kernel
theorem d_La_law_1161 : decode b_La_law 1161 = .ok (.iconst 2, 1) := by decide +kernel
theorem d_La_law_1162 : decode b_La_law 1162 = .ok (.iadd, 1) := by decide +kernel
theorem d_La_law_1163 : decode b_La_law 1163 = .ok (.iaload, 1) := by decide +kernel
theorem d_La_law_1164 : decode b_La_law 1164 = .ok (.invokevirtual 130, 3) := by decide +kernel
theorem d_La_law_1167 : decode b_La_law 1167 = .ok (.istore 6, 2) := by decide +kernel
theorem d_La_law_1169 : decode b_La_law 1169 = .ok (.aload_n 2, 1) := by decide +kernel
theorem d_La_law_1170 : decode b_La_law 1170 = .ok (.invokevirtual 82, 3) := by decide +kernel
theorem d_La_law_1173 : decode b_La_law 1173 = .ok (.iload 5, 2) := by decide +kernel
theorem d_La_law_1175 : decode b_La_law 1175 = .ok (.if_icmp .eq 5, 3) := by decide +kernel
theorem d_La_law_1178 : decode b_La_law 1178 = .ok (.iconst 0, 1) := by decide +kernel
theorem d_La_law_1179 : decode b_La_law 1179 = .ok (.ireturn, 1) := by decide +kernel
theorem d_La_law_1180 : decode b_La_law 1180 = .ok (.iload 5, 2) := by decide +kernel
theorem d_La_law_1182 : decode b_La_law 1182 = .ok (.ifCond .ne 15, 3) := by decide +kernel
theorem d_La_law_1185 : decode b_La_law 1185 = .ok (.aload_n 3, 1) := by decide +kernel
theorem d_La_law_1186 : decode b_La_law 1186 = .ok (.iconst 0, 1) := by decide +kernel
theorem d_La_law_1187 : decode b_La_law 1187 = .ok (.laload, 1) := by decide +kernel
theorem d_La_law_1188 : decode b_La_law 1188 = .ok (.iload 6, 2) := by decide +kernel
theorem d_La_law_1190 : decode b_La_law 1190 = .ok (.i2l, 1) := by decide +kernel
theorem d_La_law_1191 : decode b_La_law 1191 = .ok (.lcmp, 1) := by decide +kernel
theorem d_La_law_1192 : decode b_La_law 1192 = .ok (.ifCond .eq 5, 3) := by decide +kernel
theorem d_La_law_1195 : decode b_La_law 1195 = .ok (.iconst 0, 1) := by decide +kernel
theorem d_La_law_1196 : decode b_La_law 1196 = .ok (.ireturn, 1) := by decide +kernel
theorem d_La_law_1197 : decode b_La_law 1197 = .ok (.goto 71, 3) := by decide +kernel
theorem d_La_law_1200 : decode b_La_law 1200 = .ok (.aload_n 1, 1) := by decide +kernel
theorem d_La_law_1201 : decode b_La_law 1201 = .ok (.aload_n 0, 1) := by decide +kernel
theorem d_La_law_1202 : decode b_La_law 1202 = .ok (.iload 4, 2) := by decide +kernel
theorem d_La_law_1204 : decode b_La_law 1204 = .ok (.iconst 1, 1) := by decide +kernel
theorem d_La_law_1205 : decode b_La_law 1205 = .ok (.iadd, 1) := by decide +kernel
theorem d_La_law_1206 : decode b_La_law 1206 = .ok (.iaload, 1) := by decide +kernel
theorem d_La_law_1207 : decode b_La_law 1207 = .ok (.aload_n 0, 1) := by decide +kernel
theorem d_La_law_1208 : decode b_La_law 1208 = .ok (.iload 4, 2) := by decide +kernel
theorem d_La_law_1210 : decode b_La_law 1210 = .ok (.iconst 2, 1) := by decide +kernel
theorem d_La_law_1211 : decode b_La_law 1211 = .ok (.iadd, 1) := by decide +kernel
theorem d_La_law_1212 : decode b_La_law 1212 = .ok (.iaload, 1) := by decide +kernel
theorem d_La_law_1213 : decode b_La_law 1213 = .ok (.aload_n 3, 1) := by decide +kernel
theorem d_La_law_1214 : decode b_La_law 1214 = .ok (.invokestatic 131, 3) := by decide +kernel
theorem d_La_law_1217 : decode b_La_law 1217 = .ok (.istore 5, 2) := by decide +kernel
theorem d_La_law_1219 : decode b_La_law 1219 = .ok (.aload_n 2, 1) := by decide +kernel
theorem d_La_law_1220 : decode b_La_law 1220 = .ok (.aload_n 0, 1) := by decide +kernel
theorem d_La_law_1221 : decode b_La_law 1221 = .ok (.iload 4, 2) := by decide +kernel
theorem d_La_law_1223 : decode b_La_law 1223 = .ok (.iconst 1, 1) := by decide +kernel
theorem d_La_law_1224 : decode b_La_law 1224 = .ok (.iadd, 1) := by decide +kernel
theorem d_La_law_1225 : decode b_La_law 1225 = .ok (.iaload, 1) := by decide +kernel
theorem d_La_law_1226 : decode b_La_law 1226 = .ok (.aload_n 0, 1) := by decide +kernel
theorem d_La_law_1227 : decode b_La_law 1227 = .ok (.iload 4, 2) := by decide +kernel
theorem d_La_law_1229 : decode b_La_law 1229 = .ok (.iconst 2, 1) := by decide +kernel
theorem d_La_law_1230 : decode b_La_law 1230 = .ok (.iadd, 1) := by decide +kernel
theorem d_La_law_1231 : decode b_La_law 1231 = .ok (.iaload, 1) := by decide +kernel
theorem d_La_law_1232 : decode b_La_law 1232 = .ok (.invokevirtual 133, 3) := by decide +kernel
theorem d_La_law_1235 : decode b_La_law 1235 = .ok (.istore 6, 2) := by decide +kernel
theorem d_La_law_1237 : decode b_La_law 1237 = .ok (.aload_n 2, 1) := by decide +kernel
theorem d_La_law_1238 : decode b_La_law 1238 = .ok (.invokevirtual 82, 3) := by decide +kernel
theorem d_La_law_1241 : decode b_La_law 1241 = .ok (.iload 5, 2) := by decide +kernel
theorem d_La_law_1243 : decode b_La_law 1243 = .ok (.if_icmp .eq 5, 3) := by decide +kernel
theorem d_La_law_1246 : decode b_La_law 1246 = .ok (.iconst 0, 1) := by decide +kernel
theorem d_La_law_1247 : decode b_La_law 1247 = .ok (.ireturn, 1) := by decide +kernel
theorem d_La_law_1248 : decode b_La_law 1248 = .ok (.iload 5, 2) := by decide +kernel
theorem d_La_law_1250 : decode b_La_law 1250 = .ok (.ifCond .ne 15, 3) := by decide +kernel
theorem d_La_law_1253 : decode b_La_law 1253 = .ok (.aload_n 3, 1) := by decide +kernel
theorem d_La_law_1254 : decode b_La_law 1254 = .ok (.iconst 0, 1) := by decide +kernel
theorem d_La_law_1255 : decode b_La_law 1255 = .ok (.laload, 1) := by decide +kernel
theorem d_La_law_1256 : decode b_La_law 1256 = .ok (.iload 6, 2) := by decide +kernel
theorem d_La_law_1258 : decode b_La_law 1258 = .ok (.i2l, 1) := by decide +kernel
theorem d_La_law_1259 : decode b_La_law 1259 = .ok (.lcmp, 1) := by decide +kernel
theorem d_La_law_1260 : decode b_La_law 1260 = .ok (.ifCond .eq 5, 3) := by decide +kernel
theorem d_La_law_1263 : decode b_La_law 1263 = .ok (.iconst 0, 1) := by decide +kernel
theorem d_La_law_1264 : decode b_La_law 1264 = .ok (.ireturn, 1) := by decide +kernel
theorem d_La_law_1265 : decode b_La_law 1265 = .ok (.goto 3, 3) := by decide +kernel
theorem d_La_law_1268 : decode b_La_law 1268 = .ok (.iinc 4 7, 3) := by decide +kernel
theorem d_La_law_1271 : decode b_La_law 1271 = .ok (.goto (-1238), 3) := by decide +kernel
theorem d_La_law_1274 : decode b_La_law 1274 = .ok (.iconst 1, 1) := by decide +kernel
theorem d_La_law_1275 : decode b_La_law 1275 = .ok (.ireturn, 1) := by decide +kernel
