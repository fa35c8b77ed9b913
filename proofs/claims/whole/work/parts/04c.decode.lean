theorem dL_rules_0 : decode cL_rules 0 = .ok (.aload_n 2, 1) := by decide +kernel
theorem dL_rules_1 : decode cL_rules 1 = .ok (.iconst 0, 1) := by decide +kernel
theorem dL_rules_2 : decode cL_rules 2 = .ok (.aload_n 0, 1) := by decide +kernel
theorem dL_rules_3 : decode cL_rules 3 = .ok (.iload_n 1, 1) := by decide +kernel
theorem dL_rules_4 : decode cL_rules 4 = .ok (.invokevirtual 7, 3) := by decide +kernel
theorem dL_rules_7 : decode cL_rules 7 = .ok (.i2l, 1) := by decide +kernel
theorem dL_rules_8 : decode cL_rules 8 = .ok (.lastore, 1) := by decide +kernel
theorem dL_rules_9 : decode cL_rules 9 = .ok (.goto 6, 3) := by decide +kernel
theorem dL_rules_12 : decode cL_rules 12 = .ok (.astore_n 3, 1) := by decide +kernel
theorem dL_rules_13 : decode cL_rules 13 = .ok (.iconst 1, 1) := by decide +kernel
theorem dL_rules_14 : decode cL_rules 14 = .ok (.ireturn, 1) := by decide +kernel
theorem dL_rules_15 : decode cL_rules 15 = .ok (.iconst 0, 1) := by decide +kernel
theorem dL_rules_16 : decode cL_rules 16 = .ok (.ireturn, 1) := by decide +kernel
theorem dL_value_0 : decode cL_value 0 = .ok (.aload 4, 2) := by decide +kernel
theorem dL_value_2 : decode cL_value 2 = .ok (.iconst 0, 1) := by decide +kernel
theorem dL_value_3 : decode cL_value 3 = .ok (.aload_n 0, 1) := by decide +kernel
theorem dL_value_4 : decode cL_value 4 = .ok (.iload_n 1, 1) := by decide +kernel
theorem dL_value_5 : decode cL_value 5 = .ok (.iload_n 2, 1) := by decide +kernel
theorem dL_value_6 : decode cL_value 6 = .ok (.iload_n 3, 1) := by decide +kernel
theorem dL_value_7 : decode cL_value 7 = .ok (.invokevirtual 15, 3) := by decide +kernel
theorem dL_value_10 : decode cL_value 10 = .ok (.i2l, 1) := by decide +kernel
theorem dL_value_11 : decode cL_value 11 = .ok (.lastore, 1) := by decide +kernel
theorem dL_value_12 : decode cL_value 12 = .ok (.goto 11, 3) := by decide +kernel
theorem dL_value_15 : decode cL_value 15 = .ok (.astore 5, 2) := by decide +kernel
theorem dL_value_17 : decode cL_value 17 = .ok (.iconst 1, 1) := by decide +kernel
theorem dL_value_18 : decode cL_value 18 = .ok (.ireturn, 1) := by decide +kernel
theorem dL_value_19 : decode cL_value 19 = .ok (.astore 5, 2) := by decide +kernel
theorem dL_value_21 : decode cL_value 21 = .ok (.iconst 2, 1) := by decide +kernel
theorem dL_value_22 : decode cL_value 22 = .ok (.ireturn, 1) := by decide +kernel
theorem dL_value_23 : decode cL_value 23 = .ok (.iconst 0, 1) := by decide +kernel
theorem dL_value_24 : decode cL_value 24 = .ok (.ireturn, 1) := by decide +kernel
theorem dL_place_0 : decode cL_place 0 = .ok (.aload 4, 2) := by decide +kernel
theorem dL_place_2 : decode cL_place 2 = .ok (.iconst 0, 1) := by decide +kernel
theorem dL_place_3 : decode cL_place 3 = .ok (.aload_n 0, 1) := by decide +kernel
theorem dL_place_4 : decode cL_place 4 = .ok (.iload_n 1, 1) := by decide +kernel
theorem dL_place_5 : decode cL_place 5 = .ok (.iload_n 2, 1) := by decide +kernel
theorem dL_place_6 : decode cL_place 6 = .ok (.iload_n 3, 1) := by decide +kernel
theorem dL_place_7 : decode cL_place 7 = .ok (.invokevirtual 21, 3) := by decide +kernel
theorem dL_place_10 : decode cL_place 10 = .ok (.i2l, 1) := by decide +kernel
theorem dL_place_11 : decode cL_place 11 = .ok (.lastore, 1) := by decide +kernel
theorem dL_place_12 : decode cL_place 12 = .ok (.goto 11, 3) := by decide +kernel
theorem dL_place_15 : decode cL_place 15 = .ok (.astore 5, 2) := by decide +kernel
theorem dL_place_17 : decode cL_place 17 = .ok (.iconst 1, 1) := by decide +kernel
theorem dL_place_18 : decode cL_place 18 = .ok (.ireturn, 1) := by decide +kernel
theorem dL_place_19 : decode cL_place 19 = .ok (.astore 5, 2) := by decide +kernel
theorem dL_place_21 : decode cL_place 21 = .ok (.iconst 2, 1) := by decide +kernel
theorem dL_place_22 : decode cL_place 22 = .ok (.ireturn, 1) := by decide +kernel
theorem dL_place_23 : decode cL_place 23 = .ok (.iconst 0, 1) := by decide +kernel
theorem dL_place_24 : decode cL_place 24 = .ok (.ireturn, 1) := by decide +kernel
theorem dL_tag_0 : decode cL_tag 0 = .ok (.aload_n 2, 1) := by decide +kernel
theorem dL_tag_1 : decode cL_tag 1 = .ok (.iconst 0, 1) := by decide +kernel
theorem dL_tag_2 : decode cL_tag 2 = .ok (.aload_n 0, 1) := by decide +kernel
theorem dL_tag_3 : decode cL_tag 3 = .ok (.iload_n 1, 1) := by decide +kernel
theorem dL_tag_4 : decode cL_tag 4 = .ok (.invokevirtual 24, 3) := by decide +kernel
theorem dL_tag_7 : decode cL_tag 7 = .ok (.i2l, 1) := by decide +kernel
theorem dL_tag_8 : decode cL_tag 8 = .ok (.lastore, 1) := by decide +kernel
theorem dL_tag_9 : decode cL_tag 9 = .ok (.goto 6, 3) := by decide +kernel
theorem dL_tag_12 : decode cL_tag 12 = .ok (.astore_n 3, 1) := by decide +kernel
theorem dL_tag_13 : decode cL_tag 13 = .ok (.iconst 1, 1) := by decide +kernel
theorem dL_tag_14 : decode cL_tag 14 = .ok (.ireturn, 1) := by decide +kernel
theorem dL_tag_15 : decode cL_tag 15 = .ok (.iconst 0, 1) := by decide +kernel
theorem dL_tag_16 : decode cL_tag 16 = .ok (.ireturn, 1) := by decide +kernel
theorem dL_make_0 : decode cL_make 0 = .ok (.aload_n 0, 1) := by decide +kernel
theorem dL_make_1 : decode cL_make 1 = .ok (.iload_n 1, 1) := by decide +kernel
theorem dL_make_2 : decode cL_make 2 = .ok (.iload_n 2, 1) := by decide +kernel
theorem dL_make_3 : decode cL_make 3 = .ok (.iload_n 3, 1) := by decide +kernel
theorem dL_make_4 : decode cL_make 4 = .ok (.iload 4, 2) := by decide +kernel
theorem dL_make_6 : decode cL_make 6 = .ok (.iload 5, 2) := by decide +kernel
theorem dL_make_8 : decode cL_make 8 = .ok (.invokevirtual 27, 3) := by decide +kernel
theorem dL_make_11 : decode cL_make 11 = .ok (.goto 11, 3) := by decide +kernel
theorem dL_make_14 : decode cL_make 14 = .ok (.astore 6, 2) := by decide +kernel
theorem dL_make_16 : decode cL_make 16 = .ok (.iconst 1, 1) := by decide +kernel
theorem dL_make_17 : decode cL_make 17 = .ok (.ireturn, 1) := by decide +kernel
theorem dL_make_18 : decode cL_make 18 = .ok (.astore 6, 2) := by decide +kernel
theorem dL_make_20 : decode cL_make 20 = .ok (.iconst 2, 1) := by decide +kernel
theorem dL_make_21 : decode cL_make 21 = .ok (.ireturn, 1) := by decide +kernel
theorem dL_make_22 : decode cL_make 22 = .ok (.iconst 0, 1) := by decide +kernel
theorem dL_make_23 : decode cL_make 23 = .ok (.ireturn, 1) := by decide +kernel
theorem dL_of_0 : decode cL_of 0 = .ok (.aload_n 3, 1) := by decide +kernel
theorem dL_of_1 : decode cL_of 1 = .ok (.iconst 0, 1) := by decide +kernel
theorem dL_of_2 : decode cL_of 2 = .ok (.aload_n 0, 1) := by decide +kernel
theorem dL_of_3 : decode cL_of 3 = .ok (.iload_n 1, 1) := by decide +kernel
theorem dL_of_4 : decode cL_of 4 = .ok (.iload_n 2, 1) := by decide +kernel
theorem dL_of_5 : decode cL_of 5 = .ok (.invokevirtual 31, 3) := by decide +kernel
theorem dL_of_8 : decode cL_of 8 = .ok (.i2l, 1) := by decide +kernel
theorem dL_of_9 : decode cL_of 9 = .ok (.lastore, 1) := by decide +kernel
theorem dL_of_10 : decode cL_of 10 = .ok (.goto 11, 3) := by decide +kernel
theorem dL_of_13 : decode cL_of 13 = .ok (.astore 4, 2) := by decide +kernel
theorem dL_of_15 : decode cL_of 15 = .ok (.iconst 1, 1) := by decide +kernel
theorem dL_of_16 : decode cL_of 16 = .ok (.ireturn, 1) := by decide +kernel
theorem dL_of_17 : decode cL_of 17 = .ok (.astore 4, 2) := by decide +kernel
theorem dL_of_19 : decode cL_of 19 = .ok (.iconst 2, 1) := by decide +kernel
theorem dL_of_20 : decode cL_of 20 = .ok (.ireturn, 1) := by decide +kernel
theorem dL_of_21 : decode cL_of 21 = .ok (.iconst 0, 1) := by decide +kernel
theorem dL_of_22 : decode cL_of 22 = .ok (.ireturn, 1) := by decide +kernel
theorem dL_cell_0 : decode cL_cell 0 = .ok (.aload_n 3, 1) := by decide +kernel
theorem dL_cell_1 : decode cL_cell 1 = .ok (.iconst 0, 1) := by decide +kernel
theorem dL_cell_2 : decode cL_cell 2 = .ok (.aload_n 0, 1) := by decide +kernel
theorem dL_cell_3 : decode cL_cell 3 = .ok (.iload_n 1, 1) := by decide +kernel
theorem dL_cell_4 : decode cL_cell 4 = .ok (.iload_n 2, 1) := by decide +kernel
theorem dL_cell_5 : decode cL_cell 5 = .ok (.invokevirtual 35, 3) := by decide +kernel
theorem dL_cell_8 : decode cL_cell 8 = .ok (.i2l, 1) := by decide +kernel
theorem dL_cell_9 : decode cL_cell 9 = .ok (.lastore, 1) := by decide +kernel
theorem dL_cell_10 : decode cL_cell 10 = .ok (.goto 11, 3) := by decide +kernel
theorem dL_cell_13 : decode cL_cell 13 = .ok (.astore 4, 2) := by decide +kernel
theorem dL_cell_15 : decode cL_cell 15 = .ok (.iconst 1, 1) := by decide +kernel
theorem dL_cell_16 : decode cL_cell 16 = .ok (.ireturn, 1) := by decide +kernel
theorem dL_cell_17 : decode cL_cell 17 = .ok (.astore 4, 2) := by decide +kernel
theorem dL_cell_19 : decode cL_cell 19 = .ok (.iconst 2, 1) := by decide +kernel
theorem dL_cell_20 : decode cL_cell 20 = .ok (.ireturn, 1) := by decide +kernel
theorem dL_cell_21 : decode cL_cell 21 = .ok (.iconst 0, 1) := by decide +kernel
theorem dL_cell_22 : decode cL_cell 22 = .ok (.ireturn, 1) := by decide +kernel
theorem dL_guest_0 : decode cL_guest 0 = .ok (.aload 4, 2) := by decide +kernel
theorem dL_guest_2 : decode cL_guest 2 = .ok (.iconst 0, 1) := by decide +kernel
theorem dL_guest_3 : decode cL_guest 3 = .ok (.aload_n 0, 1) := by decide +kernel
theorem dL_guest_4 : decode cL_guest 4 = .ok (.iload_n 1, 1) := by decide +kernel
theorem dL_guest_5 : decode cL_guest 5 = .ok (.iload_n 2, 1) := by decide +kernel
theorem dL_guest_6 : decode cL_guest 6 = .ok (.iload_n 3, 1) := by decide +kernel
theorem dL_guest_7 : decode cL_guest 7 = .ok (.invokevirtual 40, 3) := by decide +kernel
theorem dL_guest_10 : decode cL_guest 10 = .ok (.i2l, 1) := by decide +kernel
theorem dL_guest_11 : decode cL_guest 11 = .ok (.lastore, 1) := by decide +kernel
theorem dL_guest_12 : decode cL_guest 12 = .ok (.goto 15, 3) := by decide +kernel
theorem dL_guest_15 : decode cL_guest 15 = .ok (.astore 5, 2) := by decide +kernel
theorem dL_guest_17 : decode cL_guest 17 = .ok (.iconst 1, 1) := by decide +kernel
theorem dL_guest_18 : decode cL_guest 18 = .ok (.ireturn, 1) := by decide +kernel
theorem dL_guest_19 : decode cL_guest 19 = .ok (.astore 5, 2) := by decide +kernel
theorem dL_guest_21 : decode cL_guest 21 = .ok (.iconst 2, 1) := by decide +kernel
theorem dL_guest_22 : decode cL_guest 22 = .ok (.ireturn, 1) := by decide +kernel
theorem dL_guest_23 : decode cL_guest 23 = .ok (.astore 5, 2) := by decide +kernel
theorem dL_guest_25 : decode cL_guest 25 = .ok (.iconst 3, 1) := by decide +kernel
theorem dL_guest_26 : decode cL_guest 26 = .ok (.ireturn, 1) := by decide +kernel
theorem dL_guest_27 : decode cL_guest 27 = .ok (.iconst 0, 1) := by decide +kernel
theorem dL_guest_28 : decode cL_guest 28 = .ok (.ireturn, 1) := by decide +kernel
theorem dL_yes_0 : decode cL_yes 0 = .ok (.aload_n 3, 1) := by decide +kernel
theorem dL_yes_1 : decode cL_yes 1 = .ok (.iconst 0, 1) := by decide +kernel
theorem dL_yes_2 : decode cL_yes 2 = .ok (.aload_n 0, 1) := by decide +kernel
theorem dL_yes_3 : decode cL_yes 3 = .ok (.iload_n 1, 1) := by decide +kernel
theorem dL_yes_4 : decode cL_yes 4 = .ok (.iload_n 2, 1) := by decide +kernel
theorem dL_yes_5 : decode cL_yes 5 = .ok (.invokevirtual 45, 3) := by decide +kernel
theorem dL_yes_8 : decode cL_yes 8 = .ok (.ifCond .eq 7, 3) := by decide +kernel
theorem dL_yes_11 : decode cL_yes 11 = .ok (.lconst 1, 1) := by decide +kernel
theorem dL_yes_12 : decode cL_yes 12 = .ok (.goto 4, 3) := by decide +kernel
theorem dL_yes_15 : decode cL_yes 15 = .ok (.lconst 0, 1) := by decide +kernel
theorem dL_yes_16 : decode cL_yes 16 = .ok (.lastore, 1) := by decide +kernel
theorem dL_yes_17 : decode cL_yes 17 = .ok (.goto 11, 3) := by decide +kernel
theorem dL_yes_20 : decode cL_yes 20 = .ok (.astore 4, 2) := by decide +kernel
theorem dL_yes_22 : decode cL_yes 22 = .ok (.iconst 1, 1) := by decide +kernel
theorem dL_yes_23 : decode cL_yes 23 = .ok (.ireturn, 1) := by decide +kernel
theorem dL_yes_24 : decode cL_yes 24 = .ok (.astore 4, 2) := by decide +kernel
theorem dL_yes_26 : decode cL_yes 26 = .ok (.iconst 2, 1) := by decide +kernel
theorem dL_yes_27 : decode cL_yes 27 = .ok (.ireturn, 1) := by decide +kernel
theorem dL_yes_28 : decode cL_yes 28 = .ok (.iconst 0, 1) := by decide +kernel
theorem dL_yes_29 : decode cL_yes 29 = .ok (.ireturn, 1) := by decide +kernel
theorem dL_isPut_0 : decode cL_isPut 0 = .ok (.aload_n 3, 1) := by decide +kernel
theorem dL_isPut_1 : decode cL_isPut 1 = .ok (.iconst 0, 1) := by decide +kernel
theorem dL_isPut_2 : decode cL_isPut 2 = .ok (.aload_n 0, 1) := by decide +kernel
theorem dL_isPut_3 : decode cL_isPut 3 = .ok (.iload_n 1, 1) := by decide +kernel
theorem dL_isPut_4 : decode cL_isPut 4 = .ok (.iload_n 2, 1) := by decide +kernel
theorem dL_isPut_5 : decode cL_isPut 5 = .ok (.invokevirtual 49, 3) := by decide +kernel
theorem dL_isPut_8 : decode cL_isPut 8 = .ok (.ifCond .eq 7, 3) := by decide +kernel
theorem dL_isPut_11 : decode cL_isPut 11 = .ok (.lconst 1, 1) := by decide +kernel
theorem dL_isPut_12 : decode cL_isPut 12 = .ok (.goto 4, 3) := by decide +kernel
theorem dL_isPut_15 : decode cL_isPut 15 = .ok (.lconst 0, 1) := by decide +kernel
theorem dL_isPut_16 : decode cL_isPut 16 = .ok (.lastore, 1) := by decide +kernel
theorem dL_isPut_17 : decode cL_isPut 17 = .ok (.goto 11, 3) := by decide +kernel
theorem dL_isPut_20 : decode cL_isPut 20 = .ok (.astore 4, 2) := by decide +kernel
theorem dL_isPut_22 : decode cL_isPut 22 = .ok (.iconst 1, 1) := by decide +kernel
theorem dL_isPut_23 : decode cL_isPut 23 = .ok (.ireturn, 1) := by decide +kernel
theorem dL_isPut_24 : decode cL_isPut 24 = .ok (.astore 4, 2) := by decide +kernel
theorem dL_isPut_26 : decode cL_isPut 26 = .ok (.iconst 2, 1) := by decide +kernel
theorem dL_isPut_27 : decode cL_isPut 27 = .ok (.ireturn, 1) := by decide +kernel
theorem dL_isPut_28 : decode cL_isPut 28 = .ok (.iconst 0, 1) := by decide +kernel
theorem dL_isPut_29 : decode cL_isPut 29 = .ok (.ireturn, 1) := by decide +kernel
theorem dL_put_0 : decode cL_put 0 = .ok (.aload_n 3, 1) := by decide +kernel
theorem dL_put_1 : decode cL_put 1 = .ok (.iconst 0, 1) := by decide +kernel
theorem dL_put_2 : decode cL_put 2 = .ok (.aload_n 0, 1) := by decide +kernel
theorem dL_put_3 : decode cL_put 3 = .ok (.iload_n 1, 1) := by decide +kernel
theorem dL_put_4 : decode cL_put 4 = .ok (.iload_n 2, 1) := by decide +kernel
theorem dL_put_5 : decode cL_put 5 = .ok (.invokevirtual 52, 3) := by decide +kernel
theorem dL_put_8 : decode cL_put 8 = .ok (.i2l, 1) := by decide +kernel
theorem dL_put_9 : decode cL_put 9 = .ok (.lastore, 1) := by decide +kernel
theorem dL_put_10 : decode cL_put 10 = .ok (.goto 15, 3) := by decide +kernel
theorem dL_put_13 : decode cL_put 13 = .ok (.astore 4, 2) := by decide +kernel
theorem dL_put_15 : decode cL_put 15 = .ok (.iconst 1, 1) := by decide +kernel
theorem dL_put_16 : decode cL_put 16 = .ok (.ireturn, 1) := by decide +kernel
theorem dL_put_17 : decode cL_put 17 = .ok (.astore 4, 2) := by decide +kernel
theorem dL_put_19 : decode cL_put 19 = .ok (.iconst 2, 1) := by decide +kernel
theorem dL_put_20 : decode cL_put 20 = .ok (.ireturn, 1) := by decide +kernel
theorem dL_put_21 : decode cL_put 21 = .ok (.astore 4, 2) := by decide +kernel
theorem dL_put_23 : decode cL_put 23 = .ok (.iconst 3, 1) := by decide +kernel
theorem dL_put_24 : decode cL_put 24 = .ok (.ireturn, 1) := by decide +kernel
theorem dL_put_25 : decode cL_put 25 = .ok (.iconst 0, 1) := by decide +kernel
theorem dL_put_26 : decode cL_put 26 = .ok (.ireturn, 1) := by decide +kernel
theorem dL_take_0 : decode cL_take 0 = .ok (.aload_n 3, 1) := by decide +kernel
theorem dL_take_1 : decode cL_take 1 = .ok (.iconst 0, 1) := by decide +kernel
theorem dL_take_2 : decode cL_take 2 = .ok (.aload_n 0, 1) := by decide +kernel
theorem dL_take_3 : decode cL_take 3 = .ok (.iload_n 1, 1) := by decide +kernel
theorem dL_take_4 : decode cL_take 4 = .ok (.iload_n 2, 1) := by decide +kernel
theorem dL_take_5 : decode cL_take 5 = .ok (.invokevirtual 55, 3) := by decide +kernel
theorem dL_take_8 : decode cL_take 8 = .ok (.ifCond .eq 7, 3) := by decide +kernel
theorem dL_take_11 : decode cL_take 11 = .ok (.lconst 1, 1) := by decide +kernel
theorem dL_take_12 : decode cL_take 12 = .ok (.goto 4, 3) := by decide +kernel
theorem dL_take_15 : decode cL_take 15 = .ok (.lconst 0, 1) := by decide +kernel
theorem dL_take_16 : decode cL_take 16 = .ok (.lastore, 1) := by decide +kernel
theorem dL_take_17 : decode cL_take 17 = .ok (.goto 15, 3) := by decide +kernel
theorem dL_take_20 : decode cL_take 20 = .ok (.astore 4, 2) := by decide +kernel
theorem dL_take_22 : decode cL_take 22 = .ok (.iconst 1, 1) := by decide +kernel
theorem dL_take_23 : decode cL_take 23 = .ok (.ireturn, 1) := by decide +kernel
theorem dL_take_24 : decode cL_take 24 = .ok (.astore 4, 2) := by decide +kernel
theorem dL_take_26 : decode cL_take 26 = .ok (.iconst 2, 1) := by decide +kernel
theorem dL_take_27 : decode cL_take 27 = .ok (.ireturn, 1) := by decide +kernel
theorem dL_take_28 : decode cL_take 28 = .ok (.astore 4, 2) := by decide +kernel
theorem dL_take_30 : decode cL_take 30 = .ok (.iconst 3, 1) := by decide +kernel
theorem dL_take_31 : decode cL_take 31 = .ok (.ireturn, 1) := by decide +kernel
theorem dL_take_32 : decode cL_take 32 = .ok (.iconst 0, 1) := by decide +kernel
theorem dL_take_33 : decode cL_take 33 = .ok (.ireturn, 1) := by decide +kernel
theorem dL_join_0 : decode cL_join 0 = .ok (.aload_n 3, 1) := by decide +kernel
theorem dL_join_1 : decode cL_join 1 = .ok (.iconst 0, 1) := by decide +kernel
theorem dL_join_2 : decode cL_join 2 = .ok (.aload_n 0, 1) := by decide +kernel
theorem dL_join_3 : decode cL_join 3 = .ok (.iload_n 1, 1) := by decide +kernel
theorem dL_join_4 : decode cL_join 4 = .ok (.iload_n 2, 1) := by decide +kernel
theorem dL_join_5 : decode cL_join 5 = .ok (.invokevirtual 58, 3) := by decide +kernel
theorem dL_join_8 : decode cL_join 8 = .ok (.i2l, 1) := by decide +kernel
theorem dL_join_9 : decode cL_join 9 = .ok (.lastore, 1) := by decide +kernel
theorem dL_join_10 : decode cL_join 10 = .ok (.goto 15, 3) := by decide +kernel
theorem dL_join_13 : decode cL_join 13 = .ok (.astore 4, 2) := by decide +kernel
theorem dL_join_15 : decode cL_join 15 = .ok (.iconst 1, 1) := by decide +kernel
theorem dL_join_16 : decode cL_join 16 = .ok (.ireturn, 1) := by decide +kernel
theorem dL_join_17 : decode cL_join 17 = .ok (.astore 4, 2) := by decide +kernel
theorem dL_join_19 : decode cL_join 19 = .ok (.iconst 2, 1) := by decide +kernel
theorem dL_join_20 : decode cL_join 20 = .ok (.ireturn, 1) := by decide +kernel
theorem dL_join_21 : decode cL_join 21 = .ok (.astore 4, 2) := by decide +kernel
theorem dL_join_23 : decode cL_join 23 = .ok (.iconst 3, 1) := by decide +kernel
theorem dL_join_24 : decode cL_join 24 = .ok (.ireturn, 1) := by decide +kernel
theorem dL_join_25 : decode cL_join 25 = .ok (.iconst 0, 1) := by decide +kernel
theorem dL_join_26 : decode cL_join 26 = .ok (.ireturn, 1) := by decide +kernel
theorem dL_halve_0 : decode cL_halve 0 = .ok (.aload_n 2, 1) := by decide +kernel
theorem dL_halve_1 : decode cL_halve 1 = .ok (.iconst 0, 1) := by decide +kernel
theorem dL_halve_2 : decode cL_halve 2 = .ok (.aload_n 0, 1) := by decide +kernel
theorem dL_halve_3 : decode cL_halve 3 = .ok (.iload_n 1, 1) := by decide +kernel
theorem dL_halve_4 : decode cL_halve 4 = .ok (.invokevirtual 61, 3) := by decide +kernel
theorem dL_halve_7 : decode cL_halve 7 = .ok (.i2l, 1) := by decide +kernel
theorem dL_halve_8 : decode cL_halve 8 = .ok (.lastore, 1) := by decide +kernel
theorem dL_halve_9 : decode cL_halve 9 = .ok (.goto 9, 3) := by decide +kernel
theorem dL_halve_12 : decode cL_halve 12 = .ok (.astore_n 3, 1) := by decide +kernel
theorem dL_halve_13 : decode cL_halve 13 = .ok (.iconst 1, 1) := by decide +kernel
theorem dL_halve_14 : decode cL_halve 14 = .ok (.ireturn, 1) := by decide +kernel
theorem dL_halve_15 : decode cL_halve 15 = .ok (.astore_n 3, 1) := by decide +kernel
theorem dL_halve_16 : decode cL_halve 16 = .ok (.iconst 2, 1) := by decide +kernel
theorem dL_halve_17 : decode cL_halve 17 = .ok (.ireturn, 1) := by decide +kernel
theorem dL_halve_18 : decode cL_halve 18 = .ok (.iconst 0, 1) := by decide +kernel
theorem dL_halve_19 : decode cL_halve 19 = .ok (.ireturn, 1) := by decide +kernel
theorem dL_grow_0 : decode cL_grow 0 = .ok (.aload_n 2, 1) := by decide +kernel
theorem dL_grow_1 : decode cL_grow 1 = .ok (.iconst 0, 1) := by decide +kernel
theorem dL_grow_2 : decode cL_grow 2 = .ok (.aload_n 0, 1) := by decide +kernel
theorem dL_grow_3 : decode cL_grow 3 = .ok (.iload_n 1, 1) := by decide +kernel
theorem dL_grow_4 : decode cL_grow 4 = .ok (.invokevirtual 64, 3) := by decide +kernel
theorem dL_grow_7 : decode cL_grow 7 = .ok (.i2l, 1) := by decide +kernel
theorem dL_grow_8 : decode cL_grow 8 = .ok (.lastore, 1) := by decide +kernel
theorem dL_grow_9 : decode cL_grow 9 = .ok (.goto 9, 3) := by decide +kernel
theorem dL_grow_12 : decode cL_grow 12 = .ok (.astore_n 3, 1) := by decide +kernel
theorem dL_grow_13 : decode cL_grow 13 = .ok (.iconst 1, 1) := by decide +kernel
theorem dL_grow_14 : decode cL_grow 14 = .ok (.ireturn, 1) := by decide +kernel
theorem dL_grow_15 : decode cL_grow 15 = .ok (.astore_n 3, 1) := by decide +kernel
theorem dL_grow_16 : decode cL_grow 16 = .ok (.iconst 2, 1) := by decide +kernel
theorem dL_grow_17 : decode cL_grow 17 = .ok (.ireturn, 1) := by decide +kernel
theorem dL_grow_18 : decode cL_grow 18 = .ok (.iconst 0, 1) := by decide +kernel
theorem dL_grow_19 : decode cL_grow 19 = .ok (.ireturn, 1) := by decide +kernel
theorem dL_solve_0 : decode cL_solve 0 = .ok (.aload_n 3, 1) := by decide +kernel
theorem dL_solve_1 : decode cL_solve 1 = .ok (.iconst 0, 1) := by decide +kernel
theorem dL_solve_2 : decode cL_solve 2 = .ok (.aload_n 0, 1) := by decide +kernel
theorem dL_solve_3 : decode cL_solve 3 = .ok (.iload_n 1, 1) := by decide +kernel
theorem dL_solve_4 : decode cL_solve 4 = .ok (.iload_n 2, 1) := by decide +kernel
theorem dL_solve_5 : decode cL_solve 5 = .ok (.invokevirtual 67, 3) := by decide +kernel
theorem dL_solve_8 : decode cL_solve 8 = .ok (.i2l, 1) := by decide +kernel
theorem dL_solve_9 : decode cL_solve 9 = .ok (.lastore, 1) := by decide +kernel
theorem dL_solve_10 : decode cL_solve 10 = .ok (.goto 15, 3) := by decide +kernel
theorem dL_solve_13 : decode cL_solve 13 = .ok (.astore 4, 2) := by decide +kernel
theorem dL_solve_15 : decode cL_solve 15 = .ok (.iconst 1, 1) := by decide +kernel
theorem dL_solve_16 : decode cL_solve 16 = .ok (.ireturn, 1) := by decide +kernel
theorem dL_solve_17 : decode cL_solve 17 = .ok (.astore 4, 2) := by decide +kernel
theorem dL_solve_19 : decode cL_solve 19 = .ok (.iconst 2, 1) := by decide +kernel
theorem dL_solve_20 : decode cL_solve 20 = .ok (.ireturn, 1) := by decide +kernel
theorem dL_solve_21 : decode cL_solve 21 = .ok (.astore 4, 2) := by decide +kernel
theorem dL_solve_23 : decode cL_solve 23 = .ok (.iconst 3, 1) := by decide +kernel
theorem dL_solve_24 : decode cL_solve 24 = .ok (.ireturn, 1) := by decide +kernel
theorem dL_solve_25 : decode cL_solve 25 = .ok (.iconst 0, 1) := by decide +kernel
theorem dL_solve_26 : decode cL_solve 26 = .ok (.ireturn, 1) := by decide +kernel
theorem dL_lying_0 : decode cL_lying 0 = .ok (.aload_n 2, 1) := by decide +kernel
theorem dL_lying_1 : decode cL_lying 1 = .ok (.iconst 0, 1) := by decide +kernel
theorem dL_lying_2 : decode cL_lying 2 = .ok (.aload_n 0, 1) := by decide +kernel
theorem dL_lying_3 : decode cL_lying 3 = .ok (.iload_n 1, 1) := by decide +kernel
theorem dL_lying_4 : decode cL_lying 4 = .ok (.invokevirtual 70, 3) := by decide +kernel
theorem dL_lying_7 : decode cL_lying 7 = .ok (.ifCond .eq 7, 3) := by decide +kernel
theorem dL_lying_10 : decode cL_lying 10 = .ok (.lconst 1, 1) := by decide +kernel
theorem dL_lying_11 : decode cL_lying 11 = .ok (.goto 4, 3) := by decide +kernel
theorem dL_lying_14 : decode cL_lying 14 = .ok (.lconst 0, 1) := by decide +kernel
theorem dL_lying_15 : decode cL_lying 15 = .ok (.lastore, 1) := by decide +kernel
theorem dL_lying_16 : decode cL_lying 16 = .ok (.goto 6, 3) := by decide +kernel
theorem dL_lying_19 : decode cL_lying 19 = .ok (.astore_n 3, 1) := by decide +kernel
theorem dL_lying_20 : decode cL_lying 20 = .ok (.iconst 1, 1) := by decide +kernel
theorem dL_lying_21 : decode cL_lying 21 = .ok (.ireturn, 1) := by decide +kernel
theorem dL_lying_22 : decode cL_lying 22 = .ok (.iconst 0, 1) := by decide +kernel
theorem dL_lying_23 : decode cL_lying 23 = .ok (.ireturn, 1) := by decide +kernel
theorem dL_lie_0 : decode cL_lie 0 = .ok (.aload_n 3, 1) := by decide +kernel
theorem dL_lie_1 : decode cL_lie 1 = .ok (.iconst 0, 1) := by decide +kernel
theorem dL_lie_2 : decode cL_lie 2 = .ok (.aload_n 0, 1) := by decide +kernel
theorem dL_lie_3 : decode cL_lie 3 = .ok (.iload_n 1, 1) := by decide +kernel
theorem dL_lie_4 : decode cL_lie 4 = .ok (.iload_n 2, 1) := by decide +kernel
theorem dL_lie_5 : decode cL_lie 5 = .ok (.invokevirtual 74, 3) := by decide +kernel
theorem dL_lie_8 : decode cL_lie 8 = .ok (.i2l, 1) := by decide +kernel
theorem dL_lie_9 : decode cL_lie 9 = .ok (.lastore, 1) := by decide +kernel
theorem dL_lie_10 : decode cL_lie 10 = .ok (.goto 7, 3) := by decide +kernel
theorem dL_lie_13 : decode cL_lie 13 = .ok (.astore 4, 2) := by decide +kernel
theorem dL_lie_15 : decode cL_lie 15 = .ok (.iconst 1, 1) := by decide +kernel
theorem dL_lie_16 : decode cL_lie 16 = .ok (.ireturn, 1) := by decide +kernel
theorem dL_lie_17 : decode cL_lie 17 = .ok (.iconst 0, 1) := by decide +kernel
theorem dL_lie_18 : decode cL_lie 18 = .ok (.ireturn, 1) := by decide +kernel
theorem dL_wronged_0 : decode cL_wronged 0 = .ok (.aload 4, 2) := by decide +kernel
theorem dL_wronged_2 : decode cL_wronged 2 = .ok (.iconst 0, 1) := by decide +kernel
theorem dL_wronged_3 : decode cL_wronged 3 = .ok (.aload_n 0, 1) := by decide +kernel
theorem dL_wronged_4 : decode cL_wronged 4 = .ok (.iload_n 1, 1) := by decide +kernel
theorem dL_wronged_5 : decode cL_wronged 5 = .ok (.iload_n 2, 1) := by decide +kernel
theorem dL_wronged_6 : decode cL_wronged 6 = .ok (.iload_n 3, 1) := by decide +kernel
theorem dL_wronged_7 : decode cL_wronged 7 = .ok (.invokevirtual 77, 3) := by decide +kernel
theorem dL_wronged_10 : decode cL_wronged 10 = .ok (.i2l, 1) := by decide +kernel
theorem dL_wronged_11 : decode cL_wronged 11 = .ok (.lastore, 1) := by decide +kernel
theorem dL_wronged_12 : decode cL_wronged 12 = .ok (.goto 11, 3) := by decide +kernel
theorem dL_wronged_15 : decode cL_wronged 15 = .ok (.astore 5, 2) := by decide +kernel
theorem dL_wronged_17 : decode cL_wronged 17 = .ok (.iconst 1, 1) := by decide +kernel
theorem dL_wronged_18 : decode cL_wronged 18 = .ok (.ireturn, 1) := by decide +kernel
theorem dL_wronged_19 : decode cL_wronged 19 = .ok (.astore 5, 2) := by decide +kernel
theorem dL_wronged_21 : decode cL_wronged 21 = .ok (.iconst 2, 1) := by decide +kernel
theorem dL_wronged_22 : decode cL_wronged 22 = .ok (.ireturn, 1) := by decide +kernel
theorem dL_wronged_23 : decode cL_wronged 23 = .ok (.iconst 0, 1) := by decide +kernel
theorem dL_wronged_24 : decode cL_wronged 24 = .ok (.ireturn, 1) := by decide +kernel
theorem dL_worse_0 : decode cL_worse 0 = .ok (.aload_n 3, 1) := by decide +kernel
theorem dL_worse_1 : decode cL_worse 1 = .ok (.iconst 0, 1) := by decide +kernel
theorem dL_worse_2 : decode cL_worse 2 = .ok (.aload_n 0, 1) := by decide +kernel
theorem dL_worse_3 : decode cL_worse 3 = .ok (.iload_n 1, 1) := by decide +kernel
theorem dL_worse_4 : decode cL_worse 4 = .ok (.iload_n 2, 1) := by decide +kernel
theorem dL_worse_5 : decode cL_worse 5 = .ok (.invokevirtual 80, 3) := by decide +kernel
theorem dL_worse_8 : decode cL_worse 8 = .ok (.i2l, 1) := by decide +kernel
theorem dL_worse_9 : decode cL_worse 9 = .ok (.lastore, 1) := by decide +kernel
theorem dL_worse_10 : decode cL_worse 10 = .ok (.goto 7, 3) := by decide +kernel
theorem dL_worse_13 : decode cL_worse 13 = .ok (.astore 4, 2) := by decide +kernel
theorem dL_worse_15 : decode cL_worse 15 = .ok (.iconst 1, 1) := by decide +kernel
theorem dL_worse_16 : decode cL_worse 16 = .ok (.ireturn, 1) := by decide +kernel
theorem dL_worse_17 : decode cL_worse 17 = .ok (.iconst 0, 1) := by decide +kernel
theorem dL_worse_18 : decode cL_worse 18 = .ok (.ireturn, 1) := by decide +kernel
theorem dL_cascade_0 : decode cL_cascade 0 = .ok (.aload 5, 2) := by decide +kernel
theorem dL_cascade_2 : decode cL_cascade 2 = .ok (.iconst 0, 1) := by decide +kernel
theorem dL_cascade_3 : decode cL_cascade 3 = .ok (.aload_n 0, 1) := by decide +kernel
theorem dL_cascade_4 : decode cL_cascade 4 = .ok (.iload_n 1, 1) := by decide +kernel
theorem dL_cascade_5 : decode cL_cascade 5 = .ok (.iload_n 2, 1) := by decide +kernel
theorem dL_cascade_6 : decode cL_cascade 6 = .ok (.iload_n 3, 1) := by decide +kernel
theorem dL_cascade_7 : decode cL_cascade 7 = .ok (.iload 4, 2) := by decide +kernel
theorem dL_cascade_9 : decode cL_cascade 9 = .ok (.invokevirtual 83, 3) := by decide +kernel
theorem dL_cascade_12 : decode cL_cascade 12 = .ok (.i2l, 1) := by decide +kernel
theorem dL_cascade_13 : decode cL_cascade 13 = .ok (.lastore, 1) := by decide +kernel
theorem dL_cascade_14 : decode cL_cascade 14 = .ok (.goto 15, 3) := by decide +kernel
theorem dL_cascade_17 : decode cL_cascade 17 = .ok (.astore 6, 2) := by decide +kernel
theorem dL_cascade_19 : decode cL_cascade 19 = .ok (.iconst 1, 1) := by decide +kernel
theorem dL_cascade_20 : decode cL_cascade 20 = .ok (.ireturn, 1) := by decide +kernel
theorem dL_cascade_21 : decode cL_cascade 21 = .ok (.astore 6, 2) := by decide +kernel
theorem dL_cascade_23 : decode cL_cascade 23 = .ok (.iconst 2, 1) := by decide +kernel
theorem dL_cascade_24 : decode cL_cascade 24 = .ok (.ireturn, 1) := by decide +kernel
theorem dL_cascade_25 : decode cL_cascade 25 = .ok (.astore 6, 2) := by decide +kernel
theorem dL_cascade_27 : decode cL_cascade 27 = .ok (.iconst 3, 1) := by decide +kernel
theorem dL_cascade_28 : decode cL_cascade 28 = .ok (.ireturn, 1) := by decide +kernel
theorem dL_cascade_29 : decode cL_cascade 29 = .ok (.iconst 0, 1) := by decide +kernel
theorem dL_cascade_30 : decode cL_cascade 30 = .ok (.ireturn, 1) := by decide +kernel
theorem dL_learn_0 : decode cL_learn 0 = .ok (.aload 4, 2) := by decide +kernel
theorem dL_learn_2 : decode cL_learn 2 = .ok (.iconst 0, 1) := by decide +kernel
theorem dL_learn_3 : decode cL_learn 3 = .ok (.aload_n 0, 1) := by decide +kernel
theorem dL_learn_4 : decode cL_learn 4 = .ok (.iload_n 1, 1) := by decide +kernel
theorem dL_learn_5 : decode cL_learn 5 = .ok (.iload_n 2, 1) := by decide +kernel
theorem dL_learn_6 : decode cL_learn 6 = .ok (.iload_n 3, 1) := by decide +kernel
theorem dL_learn_7 : decode cL_learn 7 = .ok (.invokevirtual 87, 3) := by decide +kernel
theorem dL_learn_10 : decode cL_learn 10 = .ok (.i2l, 1) := by decide +kernel
theorem dL_learn_11 : decode cL_learn 11 = .ok (.lastore, 1) := by decide +kernel
theorem dL_learn_12 : decode cL_learn 12 = .ok (.goto 15, 3) := by decide +kernel
theorem dL_learn_15 : decode cL_learn 15 = .ok (.astore 5, 2) := by decide +kernel
theorem dL_learn_17 : decode cL_learn 17 = .ok (.iconst 1, 1) := by decide +kernel
theorem dL_learn_18 : decode cL_learn 18 = .ok (.ireturn, 1) := by decide +kernel
theorem dL_learn_19 : decode cL_learn 19 = .ok (.astore 5, 2) := by decide +kernel
theorem dL_learn_21 : decode cL_learn 21 = .ok (.iconst 2, 1) := by decide +kernel
theorem dL_learn_22 : decode cL_learn 22 = .ok (.ireturn, 1) := by decide +kernel
theorem dL_learn_23 : decode cL_learn 23 = .ok (.astore 5, 2) := by decide +kernel
theorem dL_learn_25 : decode cL_learn 25 = .ok (.iconst 3, 1) := by decide +kernel
theorem dL_learn_26 : decode cL_learn 26 = .ok (.ireturn, 1) := by decide +kernel
theorem dL_learn_27 : decode cL_learn 27 = .ok (.iconst 0, 1) := by decide +kernel
theorem dL_learn_28 : decode cL_learn 28 = .ok (.ireturn, 1) := by decide +kernel
theorem dL_ask_0 : decode cL_ask 0 = .ok (.aload_n 3, 1) := by decide +kernel
theorem dL_ask_1 : decode cL_ask 1 = .ok (.iconst 0, 1) := by decide +kernel
theorem dL_ask_2 : decode cL_ask 2 = .ok (.aload_n 0, 1) := by decide +kernel
theorem dL_ask_3 : decode cL_ask 3 = .ok (.iload_n 1, 1) := by decide +kernel
theorem dL_ask_4 : decode cL_ask 4 = .ok (.iload_n 2, 1) := by decide +kernel
theorem dL_ask_5 : decode cL_ask 5 = .ok (.invokevirtual 90, 3) := by decide +kernel
theorem dL_ask_8 : decode cL_ask 8 = .ok (.i2l, 1) := by decide +kernel
theorem dL_ask_9 : decode cL_ask 9 = .ok (.lastore, 1) := by decide +kernel
theorem dL_ask_10 : decode cL_ask 10 = .ok (.goto 15, 3) := by decide +kernel
theorem dL_ask_13 : decode cL_ask 13 = .ok (.astore 4, 2) := by decide +kernel
theorem dL_ask_15 : decode cL_ask 15 = .ok (.iconst 1, 1) := by decide +kernel
theorem dL_ask_16 : decode cL_ask 16 = .ok (.ireturn, 1) := by decide +kernel
theorem dL_ask_17 : decode cL_ask 17 = .ok (.astore 4, 2) := by decide +kernel
theorem dL_ask_19 : decode cL_ask 19 = .ok (.iconst 2, 1) := by decide +kernel
theorem dL_ask_20 : decode cL_ask 20 = .ok (.ireturn, 1) := by decide +kernel
theorem dL_ask_21 : decode cL_ask 21 = .ok (.astore 4, 2) := by decide +kernel
theorem dL_ask_23 : decode cL_ask 23 = .ok (.iconst 3, 1) := by decide +kernel
theorem dL_ask_24 : decode cL_ask 24 = .ok (.ireturn, 1) := by decide +kernel
theorem dL_ask_25 : decode cL_ask 25 = .ok (.iconst 0, 1) := by decide +kernel
theorem dL_ask_26 : decode cL_ask 26 = .ok (.ireturn, 1) := by decide +kernel
theorem dL_worst_0 : decode cL_worst 0 = .ok (.aload_n 3, 1) := by decide +kernel
theorem dL_worst_1 : decode cL_worst 1 = .ok (.iconst 0, 1) := by decide +kernel
theorem dL_worst_2 : decode cL_worst 2 = .ok (.aload_n 0, 1) := by decide +kernel
theorem dL_worst_3 : decode cL_worst 3 = .ok (.iload_n 1, 1) := by decide +kernel
theorem dL_worst_4 : decode cL_worst 4 = .ok (.iload_n 2, 1) := by decide +kernel
theorem dL_worst_5 : decode cL_worst 5 = .ok (.invokevirtual 93, 3) := by decide +kernel
theorem dL_worst_8 : decode cL_worst 8 = .ok (.i2l, 1) := by decide +kernel
theorem dL_worst_9 : decode cL_worst 9 = .ok (.lastore, 1) := by decide +kernel
theorem dL_worst_10 : decode cL_worst 10 = .ok (.goto 15, 3) := by decide +kernel
theorem dL_worst_13 : decode cL_worst 13 = .ok (.astore 4, 2) := by decide +kernel
theorem dL_worst_15 : decode cL_worst 15 = .ok (.iconst 1, 1) := by decide +kernel
theorem dL_worst_16 : decode cL_worst 16 = .ok (.ireturn, 1) := by decide +kernel
theorem dL_worst_17 : decode cL_worst 17 = .ok (.astore 4, 2) := by decide +kernel
theorem dL_worst_19 : decode cL_worst 19 = .ok (.iconst 2, 1) := by decide +kernel
theorem dL_worst_20 : decode cL_worst 20 = .ok (.ireturn, 1) := by decide +kernel
theorem dL_worst_21 : decode cL_worst 21 = .ok (.astore 4, 2) := by decide +kernel
theorem dL_worst_23 : decode cL_worst 23 = .ok (.iconst 3, 1) := by decide +kernel
theorem dL_worst_24 : decode cL_worst 24 = .ok (.ireturn, 1) := by decide +kernel
theorem dL_worst_25 : decode cL_worst 25 = .ok (.iconst 0, 1) := by decide +kernel
theorem dL_worst_26 : decode cL_worst 26 = .ok (.ireturn, 1) := by decide +kernel
theorem dL_blame_0 : decode cL_blame 0 = .ok (.aload_n 3, 1) := by decide +kernel
theorem dL_blame_1 : decode cL_blame 1 = .ok (.iconst 0, 1) := by decide +kernel
theorem dL_blame_2 : decode cL_blame 2 = .ok (.aload_n 0, 1) := by decide +kernel
theorem dL_blame_3 : decode cL_blame 3 = .ok (.iload_n 1, 1) := by decide +kernel
theorem dL_blame_4 : decode cL_blame 4 = .ok (.iload_n 2, 1) := by decide +kernel
theorem dL_blame_5 : decode cL_blame 5 = .ok (.invokevirtual 96, 3) := by decide +kernel
theorem dL_blame_8 : decode cL_blame 8 = .ok (.i2l, 1) := by decide +kernel
theorem dL_blame_9 : decode cL_blame 9 = .ok (.lastore, 1) := by decide +kernel
theorem dL_blame_10 : decode cL_blame 10 = .ok (.goto 15, 3) := by decide +kernel
theorem dL_blame_13 : decode cL_blame 13 = .ok (.astore 4, 2) := by decide +kernel
theorem dL_blame_15 : decode cL_blame 15 = .ok (.iconst 1, 1) := by decide +kernel
theorem dL_blame_16 : decode cL_blame 16 = .ok (.ireturn, 1) := by decide +kernel
theorem dL_blame_17 : decode cL_blame 17 = .ok (.astore 4, 2) := by decide +kernel
theorem dL_blame_19 : decode cL_blame 19 = .ok (.iconst 2, 1) := by decide +kernel
theorem dL_blame_20 : decode cL_blame 20 = .ok (.ireturn, 1) := by decide +kernel
theorem dL_blame_21 : decode cL_blame 21 = .ok (.astore 4, 2) := by decide +kernel
theorem dL_blame_23 : decode cL_blame 23 = .ok (.iconst 3, 1) := by decide +kernel
theorem dL_blame_24 : decode cL_blame 24 = .ok (.ireturn, 1) := by decide +kernel
theorem dL_blame_25 : decode cL_blame 25 = .ok (.iconst 0, 1) := by decide +kernel
theorem dL_blame_26 : decode cL_blame 26 = .ok (.ireturn, 1) := by decide +kernel
theorem dL_choose_0 : decode cL_choose 0 = .ok (.aload 4, 2) := by decide +kernel
theorem dL_choose_2 : decode cL_choose 2 = .ok (.iconst 0, 1) := by decide +kernel
theorem dL_choose_3 : decode cL_choose 3 = .ok (.aload_n 0, 1) := by decide +kernel
theorem dL_choose_4 : decode cL_choose 4 = .ok (.iload_n 1, 1) := by decide +kernel
theorem dL_choose_5 : decode cL_choose 5 = .ok (.iload_n 2, 1) := by decide +kernel
theorem dL_choose_6 : decode cL_choose 6 = .ok (.iload_n 3, 1) := by decide +kernel
theorem dL_choose_7 : decode cL_choose 7 = .ok (.invokevirtual 99, 3) := by decide +kernel
theorem dL_choose_10 : decode cL_choose 10 = .ok (.i2l, 1) := by decide +kernel
theorem dL_choose_11 : decode cL_choose 11 = .ok (.lastore, 1) := by decide +kernel
theorem dL_choose_12 : decode cL_choose 12 = .ok (.goto 11, 3) := by decide +kernel
theorem dL_choose_15 : decode cL_choose 15 = .ok (.astore 5, 2) := by decide +kernel
theorem dL_choose_17 : decode cL_choose 17 = .ok (.iconst 1, 1) := by decide +kernel
theorem dL_choose_18 : decode cL_choose 18 = .ok (.ireturn, 1) := by decide +kernel
theorem dL_choose_19 : decode cL_choose 19 = .ok (.astore 5, 2) := by decide +kernel
theorem dL_choose_21 : decode cL_choose 21 = .ok (.iconst 2, 1) := by decide +kernel
theorem dL_choose_22 : decode cL_choose 22 = .ok (.ireturn, 1) := by decide +kernel
theorem dL_choose_23 : decode cL_choose 23 = .ok (.iconst 0, 1) := by decide +kernel
theorem dL_choose_24 : decode cL_choose 24 = .ok (.ireturn, 1) := by decide +kernel
theorem dL_tray_0 : decode cL_tray 0 = .ok (.aload_n 0, 1) := by decide +kernel
theorem dL_tray_1 : decode cL_tray 1 = .ok (.iload_n 1, 1) := by decide +kernel
theorem dL_tray_2 : decode cL_tray 2 = .ok (.iload_n 2, 1) := by decide +kernel
theorem dL_tray_3 : decode cL_tray 3 = .ok (.iload_n 3, 1) := by decide +kernel
theorem dL_tray_4 : decode cL_tray 4 = .ok (.invokevirtual 102, 3) := by decide +kernel
theorem dL_tray_7 : decode cL_tray 7 = .ok (.goto 11, 3) := by decide +kernel
theorem dL_tray_10 : decode cL_tray 10 = .ok (.astore 4, 2) := by decide +kernel
theorem dL_tray_12 : decode cL_tray 12 = .ok (.iconst 1, 1) := by decide +kernel
theorem dL_tray_13 : decode cL_tray 13 = .ok (.ireturn, 1) := by decide +kernel
theorem dL_tray_14 : decode cL_tray 14 = .ok (.astore 4, 2) := by decide +kernel
theorem dL_tray_16 : decode cL_tray 16 = .ok (.iconst 2, 1) := by decide +kernel
theorem dL_tray_17 : decode cL_tray 17 = .ok (.ireturn, 1) := by decide +kernel
theorem dL_tray_18 : decode cL_tray 18 = .ok (.iconst 0, 1) := by decide +kernel
theorem dL_tray_19 : decode cL_tray 19 = .ok (.ireturn, 1) := by decide +kernel
theorem dL_write_0 : decode cL_write 0 = .ok (.aload 5, 2) := by decide +kernel
theorem dL_write_2 : decode cL_write 2 = .ok (.iconst 0, 1) := by decide +kernel
theorem dL_write_3 : decode cL_write 3 = .ok (.aload_n 0, 1) := by decide +kernel
theorem dL_write_4 : decode cL_write 4 = .ok (.iload_n 1, 1) := by decide +kernel
theorem dL_write_5 : decode cL_write 5 = .ok (.iload_n 2, 1) := by decide +kernel
theorem dL_write_6 : decode cL_write 6 = .ok (.lload_n 3, 1) := by decide +kernel
theorem dL_write_7 : decode cL_write 7 = .ok (.invokevirtual 106, 3) := by decide +kernel
theorem dL_write_10 : decode cL_write 10 = .ok (.lastore, 1) := by decide +kernel
theorem dL_write_11 : decode cL_write 11 = .ok (.goto 15, 3) := by decide +kernel
theorem dL_write_14 : decode cL_write 14 = .ok (.astore 6, 2) := by decide +kernel
theorem dL_write_16 : decode cL_write 16 = .ok (.iconst 1, 1) := by decide +kernel
theorem dL_write_17 : decode cL_write 17 = .ok (.ireturn, 1) := by decide +kernel
theorem dL_write_18 : decode cL_write 18 = .ok (.astore 6, 2) := by decide +kernel
theorem dL_write_20 : decode cL_write 20 = .ok (.iconst 2, 1) := by decide +kernel
theorem dL_write_21 : decode cL_write 21 = .ok (.ireturn, 1) := by decide +kernel
theorem dL_write_22 : decode cL_write 22 = .ok (.astore 6, 2) := by decide +kernel
theorem dL_write_24 : decode cL_write 24 = .ok (.iconst 3, 1) := by decide +kernel
theorem dL_write_25 : decode cL_write 25 = .ok (.ireturn, 1) := by decide +kernel
theorem dL_write_26 : decode cL_write 26 = .ok (.iconst 0, 1) := by decide +kernel
theorem dL_write_27 : decode cL_write 27 = .ok (.ireturn, 1) := by decide +kernel
theorem dL_pour_0 : decode cL_pour 0 = .ok (.aload_n 3, 1) := by decide +kernel
theorem dL_pour_1 : decode cL_pour 1 = .ok (.iconst 0, 1) := by decide +kernel
theorem dL_pour_2 : decode cL_pour 2 = .ok (.aload_n 0, 1) := by decide +kernel
theorem dL_pour_3 : decode cL_pour 3 = .ok (.iload_n 1, 1) := by decide +kernel
theorem dL_pour_4 : decode cL_pour 4 = .ok (.iload_n 2, 1) := by decide +kernel
theorem dL_pour_5 : decode cL_pour 5 = .ok (.invokevirtual 110, 3) := by decide +kernel
theorem dL_pour_8 : decode cL_pour 8 = .ok (.i2l, 1) := by decide +kernel
theorem dL_pour_9 : decode cL_pour 9 = .ok (.lastore, 1) := by decide +kernel
theorem dL_pour_10 : decode cL_pour 10 = .ok (.goto 11, 3) := by decide +kernel
theorem dL_pour_13 : decode cL_pour 13 = .ok (.astore 4, 2) := by decide +kernel
theorem dL_pour_15 : decode cL_pour 15 = .ok (.iconst 1, 1) := by decide +kernel
theorem dL_pour_16 : decode cL_pour 16 = .ok (.ireturn, 1) := by decide +kernel
theorem dL_pour_17 : decode cL_pour 17 = .ok (.astore 4, 2) := by decide +kernel
theorem dL_pour_19 : decode cL_pour 19 = .ok (.iconst 2, 1) := by decide +kernel
theorem dL_pour_20 : decode cL_pour 20 = .ok (.ireturn, 1) := by decide +kernel
theorem dL_pour_21 : decode cL_pour 21 = .ok (.iconst 0, 1) := by decide +kernel
theorem dL_pour_22 : decode cL_pour 22 = .ok (.ireturn, 1) := by decide +kernel
theorem dL_image_0 : decode cL_image 0 = .ok (.aload_n 0, 1) := by decide +kernel
theorem dL_image_1 : decode cL_image 1 = .ok (.iload_n 1, 1) := by decide +kernel
theorem dL_image_2 : decode cL_image 2 = .ok (.invokevirtual 113, 3) := by decide +kernel
theorem dL_image_5 : decode cL_image 5 = .ok (.goto 6, 3) := by decide +kernel
theorem dL_image_8 : decode cL_image 8 = .ok (.astore_n 2, 1) := by decide +kernel
theorem dL_image_9 : decode cL_image 9 = .ok (.iconst 1, 1) := by decide +kernel
theorem dL_image_10 : decode cL_image 10 = .ok (.ireturn, 1) := by decide +kernel
theorem dL_image_11 : decode cL_image 11 = .ok (.iconst 0, 1) := by decide +kernel
theorem dL_image_12 : decode cL_image 12 = .ok (.ireturn, 1) := by decide +kernel
theorem dL_restore_0 : decode cL_restore 0 = .ok (.aload_n 0, 1) := by decide +kernel
theorem dL_restore_1 : decode cL_restore 1 = .ok (.iload_n 1, 1) := by decide +kernel
theorem dL_restore_2 : decode cL_restore 2 = .ok (.invokevirtual 117, 3) := by decide +kernel
theorem dL_restore_5 : decode cL_restore 5 = .ok (.goto 9, 3) := by decide +kernel
theorem dL_restore_8 : decode cL_restore 8 = .ok (.astore_n 2, 1) := by decide +kernel
theorem dL_restore_9 : decode cL_restore 9 = .ok (.iconst 1, 1) := by decide +kernel
theorem dL_restore_10 : decode cL_restore 10 = .ok (.ireturn, 1) := by decide +kernel
theorem dL_restore_11 : decode cL_restore 11 = .ok (.astore_n 2, 1) := by decide +kernel
theorem dL_restore_12 : decode cL_restore 12 = .ok (.iconst 2, 1) := by decide +kernel
theorem dL_restore_13 : decode cL_restore 13 = .ok (.ireturn, 1) := by decide +kernel
theorem dL_restore_14 : decode cL_restore 14 = .ok (.iconst 0, 1) := by decide +kernel
theorem dL_restore_15 : decode cL_restore 15 = .ok (.ireturn, 1) := by decide +kernel
