theorem dL_court_0 : decode cL_court 0 = .ok (.aload_n 1, 1) := by decide +kernel
theorem dL_court_1 : decode cL_court 1 = .ok (.iconst 0, 1) := by decide +kernel
theorem dL_court_2 : decode cL_court 2 = .ok (.aload_n 0, 1) := by decide +kernel
theorem dL_court_3 : decode cL_court 3 = .ok (.invokevirtual 7, 3) := by decide +kernel
theorem dL_court_6 : decode cL_court 6 = .ok (.i2l, 1) := by decide +kernel
theorem dL_court_7 : decode cL_court 7 = .ok (.lastore, 1) := by decide +kernel
theorem dL_court_8 : decode cL_court 8 = .ok (.goto 9, 3) := by decide +kernel
theorem dL_court_11 : decode cL_court 11 = .ok (.astore_n 2, 1) := by decide +kernel
theorem dL_court_12 : decode cL_court 12 = .ok (.iconst 1, 1) := by decide +kernel
theorem dL_court_13 : decode cL_court 13 = .ok (.ireturn, 1) := by decide +kernel
theorem dL_court_14 : decode cL_court 14 = .ok (.astore_n 2, 1) := by decide +kernel
theorem dL_court_15 : decode cL_court 15 = .ok (.iconst 2, 1) := by decide +kernel
theorem dL_court_16 : decode cL_court 16 = .ok (.ireturn, 1) := by decide +kernel
theorem dL_court_17 : decode cL_court 17 = .ok (.iconst 0, 1) := by decide +kernel
theorem dL_court_18 : decode cL_court 18 = .ok (.ireturn, 1) := by decide +kernel
theorem dL_law_0 : decode cL_law 0 = .ok (.aload_n 1, 1) := by decide +kernel
theorem dL_law_1 : decode cL_law 1 = .ok (.iconst 0, 1) := by decide +kernel
theorem dL_law_2 : decode cL_law 2 = .ok (.aload_n 0, 1) := by decide +kernel
theorem dL_law_3 : decode cL_law 3 = .ok (.invokevirtual 17, 3) := by decide +kernel
theorem dL_law_6 : decode cL_law 6 = .ok (.i2l, 1) := by decide +kernel
theorem dL_law_7 : decode cL_law 7 = .ok (.lastore, 1) := by decide +kernel
theorem dL_law_8 : decode cL_law 8 = .ok (.goto 6, 3) := by decide +kernel
theorem dL_law_11 : decode cL_law 11 = .ok (.astore_n 2, 1) := by decide +kernel
theorem dL_law_12 : decode cL_law 12 = .ok (.iconst 1, 1) := by decide +kernel
theorem dL_law_13 : decode cL_law 13 = .ok (.ireturn, 1) := by decide +kernel
theorem dL_law_14 : decode cL_law 14 = .ok (.iconst 0, 1) := by decide +kernel
theorem dL_law_15 : decode cL_law 15 = .ok (.ireturn, 1) := by decide +kernel
theorem dL_prop_0 : decode cL_prop 0 = .ok (.aload_n 3, 1) := by decide +kernel
theorem dL_prop_1 : decode cL_prop 1 = .ok (.iconst 0, 1) := by decide +kernel
theorem dL_prop_2 : decode cL_prop 2 = .ok (.aload_n 0, 1) := by decide +kernel
theorem dL_prop_3 : decode cL_prop 3 = .ok (.iload_n 1, 1) := by decide +kernel
theorem dL_prop_4 : decode cL_prop 4 = .ok (.iload_n 2, 1) := by decide +kernel
theorem dL_prop_5 : decode cL_prop 5 = .ok (.invokevirtual 20, 3) := by decide +kernel
theorem dL_prop_8 : decode cL_prop 8 = .ok (.i2l, 1) := by decide +kernel
theorem dL_prop_9 : decode cL_prop 9 = .ok (.lastore, 1) := by decide +kernel
theorem dL_prop_10 : decode cL_prop 10 = .ok (.goto 11, 3) := by decide +kernel
theorem dL_prop_13 : decode cL_prop 13 = .ok (.astore 4, 2) := by decide +kernel
theorem dL_prop_15 : decode cL_prop 15 = .ok (.iconst 1, 1) := by decide +kernel
theorem dL_prop_16 : decode cL_prop 16 = .ok (.ireturn, 1) := by decide +kernel
theorem dL_prop_17 : decode cL_prop 17 = .ok (.astore 4, 2) := by decide +kernel
theorem dL_prop_19 : decode cL_prop 19 = .ok (.iconst 2, 1) := by decide +kernel
theorem dL_prop_20 : decode cL_prop 20 = .ok (.ireturn, 1) := by decide +kernel
theorem dL_prop_21 : decode cL_prop 21 = .ok (.iconst 0, 1) := by decide +kernel
theorem dL_prop_22 : decode cL_prop 22 = .ok (.ireturn, 1) := by decide +kernel
theorem dL_slot_0 : decode cL_slot 0 = .ok (.aload_n 2, 1) := by decide +kernel
theorem dL_slot_1 : decode cL_slot 1 = .ok (.iconst 0, 1) := by decide +kernel
theorem dL_slot_2 : decode cL_slot 2 = .ok (.aload_n 0, 1) := by decide +kernel
theorem dL_slot_3 : decode cL_slot 3 = .ok (.iload_n 1, 1) := by decide +kernel
theorem dL_slot_4 : decode cL_slot 4 = .ok (.invokevirtual 28, 3) := by decide +kernel
theorem dL_slot_7 : decode cL_slot 7 = .ok (.i2l, 1) := by decide +kernel
theorem dL_slot_8 : decode cL_slot 8 = .ok (.lastore, 1) := by decide +kernel
theorem dL_slot_9 : decode cL_slot 9 = .ok (.goto 6, 3) := by decide +kernel
theorem dL_slot_12 : decode cL_slot 12 = .ok (.astore_n 3, 1) := by decide +kernel
theorem dL_slot_13 : decode cL_slot 13 = .ok (.iconst 1, 1) := by decide +kernel
theorem dL_slot_14 : decode cL_slot 14 = .ok (.ireturn, 1) := by decide +kernel
theorem dL_slot_15 : decode cL_slot 15 = .ok (.iconst 0, 1) := by decide +kernel
theorem dL_slot_16 : decode cL_slot 16 = .ok (.ireturn, 1) := by decide +kernel
theorem dL_accused_0 : decode cL_accused 0 = .ok (.aload_n 3, 1) := by decide +kernel
theorem dL_accused_1 : decode cL_accused 1 = .ok (.iconst 0, 1) := by decide +kernel
theorem dL_accused_2 : decode cL_accused 2 = .ok (.aload_n 0, 1) := by decide +kernel
theorem dL_accused_3 : decode cL_accused 3 = .ok (.iload_n 1, 1) := by decide +kernel
theorem dL_accused_4 : decode cL_accused 4 = .ok (.iload_n 2, 1) := by decide +kernel
theorem dL_accused_5 : decode cL_accused 5 = .ok (.invokevirtual 32, 3) := by decide +kernel
theorem dL_accused_8 : decode cL_accused 8 = .ok (.i2l, 1) := by decide +kernel
theorem dL_accused_9 : decode cL_accused 9 = .ok (.lastore, 1) := by decide +kernel
theorem dL_accused_10 : decode cL_accused 10 = .ok (.goto 11, 3) := by decide +kernel
theorem dL_accused_13 : decode cL_accused 13 = .ok (.astore 4, 2) := by decide +kernel
theorem dL_accused_15 : decode cL_accused 15 = .ok (.iconst 1, 1) := by decide +kernel
theorem dL_accused_16 : decode cL_accused 16 = .ok (.ireturn, 1) := by decide +kernel
theorem dL_accused_17 : decode cL_accused 17 = .ok (.astore 4, 2) := by decide +kernel
theorem dL_accused_19 : decode cL_accused 19 = .ok (.iconst 2, 1) := by decide +kernel
theorem dL_accused_20 : decode cL_accused 20 = .ok (.ireturn, 1) := by decide +kernel
theorem dL_accused_21 : decode cL_accused 21 = .ok (.iconst 0, 1) := by decide +kernel
theorem dL_accused_22 : decode cL_accused 22 = .ok (.ireturn, 1) := by decide +kernel
theorem dL_fright_0 : decode cL_fright 0 = .ok (.aload 5, 2) := by decide +kernel
theorem dL_fright_2 : decode cL_fright 2 = .ok (.iconst 0, 1) := by decide +kernel
theorem dL_fright_3 : decode cL_fright 3 = .ok (.aload_n 0, 1) := by decide +kernel
theorem dL_fright_4 : decode cL_fright 4 = .ok (.iload_n 1, 1) := by decide +kernel
theorem dL_fright_5 : decode cL_fright 5 = .ok (.iload_n 2, 1) := by decide +kernel
theorem dL_fright_6 : decode cL_fright 6 = .ok (.iload_n 3, 1) := by decide +kernel
theorem dL_fright_7 : decode cL_fright 7 = .ok (.iload 4, 2) := by decide +kernel
theorem dL_fright_9 : decode cL_fright 9 = .ok (.invokevirtual 35, 3) := by decide +kernel
theorem dL_fright_12 : decode cL_fright 12 = .ok (.i2l, 1) := by decide +kernel
theorem dL_fright_13 : decode cL_fright 13 = .ok (.lastore, 1) := by decide +kernel
theorem dL_fright_14 : decode cL_fright 14 = .ok (.goto 11, 3) := by decide +kernel
theorem dL_fright_17 : decode cL_fright 17 = .ok (.astore 6, 2) := by decide +kernel
theorem dL_fright_19 : decode cL_fright 19 = .ok (.iconst 1, 1) := by decide +kernel
theorem dL_fright_20 : decode cL_fright 20 = .ok (.ireturn, 1) := by decide +kernel
theorem dL_fright_21 : decode cL_fright 21 = .ok (.astore 6, 2) := by decide +kernel
theorem dL_fright_23 : decode cL_fright 23 = .ok (.iconst 2, 1) := by decide +kernel
theorem dL_fright_24 : decode cL_fright 24 = .ok (.ireturn, 1) := by decide +kernel
theorem dL_fright_25 : decode cL_fright 25 = .ok (.iconst 0, 1) := by decide +kernel
theorem dL_fright_26 : decode cL_fright 26 = .ok (.ireturn, 1) := by decide +kernel
theorem dL_send_0 : decode cL_send 0 = .ok (.aload_n 2, 1) := by decide +kernel
theorem dL_send_1 : decode cL_send 1 = .ok (.iconst 0, 1) := by decide +kernel
theorem dL_send_2 : decode cL_send 2 = .ok (.aload_n 0, 1) := by decide +kernel
theorem dL_send_3 : decode cL_send 3 = .ok (.iload_n 1, 1) := by decide +kernel
theorem dL_send_4 : decode cL_send 4 = .ok (.invokevirtual 39, 3) := by decide +kernel
theorem dL_send_7 : decode cL_send 7 = .ok (.i2l, 1) := by decide +kernel
theorem dL_send_8 : decode cL_send 8 = .ok (.lastore, 1) := by decide +kernel
theorem dL_send_9 : decode cL_send 9 = .ok (.goto 9, 3) := by decide +kernel
theorem dL_send_12 : decode cL_send 12 = .ok (.astore_n 3, 1) := by decide +kernel
theorem dL_send_13 : decode cL_send 13 = .ok (.iconst 1, 1) := by decide +kernel
theorem dL_send_14 : decode cL_send 14 = .ok (.ireturn, 1) := by decide +kernel
theorem dL_send_15 : decode cL_send 15 = .ok (.astore_n 3, 1) := by decide +kernel
theorem dL_send_16 : decode cL_send 16 = .ok (.iconst 2, 1) := by decide +kernel
theorem dL_send_17 : decode cL_send 17 = .ok (.ireturn, 1) := by decide +kernel
theorem dL_send_18 : decode cL_send 18 = .ok (.iconst 0, 1) := by decide +kernel
theorem dL_send_19 : decode cL_send 19 = .ok (.ireturn, 1) := by decide +kernel
theorem dL_nail_0 : decode cL_nail 0 = .ok (.aload_n 0, 1) := by decide +kernel
theorem dL_nail_1 : decode cL_nail 1 = .ok (.iload_n 1, 1) := by decide +kernel
theorem dL_nail_2 : decode cL_nail 2 = .ok (.iload_n 2, 1) := by decide +kernel
theorem dL_nail_3 : decode cL_nail 3 = .ok (.invokevirtual 44, 3) := by decide +kernel
theorem dL_nail_6 : decode cL_nail 6 = .ok (.goto 9, 3) := by decide +kernel
theorem dL_nail_9 : decode cL_nail 9 = .ok (.astore_n 3, 1) := by decide +kernel
theorem dL_nail_10 : decode cL_nail 10 = .ok (.iconst 1, 1) := by decide +kernel
theorem dL_nail_11 : decode cL_nail 11 = .ok (.ireturn, 1) := by decide +kernel
theorem dL_nail_12 : decode cL_nail 12 = .ok (.astore_n 3, 1) := by decide +kernel
theorem dL_nail_13 : decode cL_nail 13 = .ok (.iconst 2, 1) := by decide +kernel
theorem dL_nail_14 : decode cL_nail 14 = .ok (.ireturn, 1) := by decide +kernel
theorem dL_nail_15 : decode cL_nail 15 = .ok (.iconst 0, 1) := by decide +kernel
theorem dL_nail_16 : decode cL_nail 16 = .ok (.ireturn, 1) := by decide +kernel
theorem dL_down_0 : decode cL_down 0 = .ok (.aload_n 2, 1) := by decide +kernel
theorem dL_down_1 : decode cL_down 1 = .ok (.iconst 0, 1) := by decide +kernel
theorem dL_down_2 : decode cL_down 2 = .ok (.aload_n 0, 1) := by decide +kernel
theorem dL_down_3 : decode cL_down 3 = .ok (.iload_n 1, 1) := by decide +kernel
theorem dL_down_4 : decode cL_down 4 = .ok (.invokevirtual 48, 3) := by decide +kernel
theorem dL_down_7 : decode cL_down 7 = .ok (.i2l, 1) := by decide +kernel
theorem dL_down_8 : decode cL_down 8 = .ok (.lastore, 1) := by decide +kernel
theorem dL_down_9 : decode cL_down 9 = .ok (.goto 9, 3) := by decide +kernel
theorem dL_down_12 : decode cL_down 12 = .ok (.astore_n 3, 1) := by decide +kernel
theorem dL_down_13 : decode cL_down 13 = .ok (.iconst 1, 1) := by decide +kernel
theorem dL_down_14 : decode cL_down 14 = .ok (.ireturn, 1) := by decide +kernel
theorem dL_down_15 : decode cL_down 15 = .ok (.astore_n 3, 1) := by decide +kernel
theorem dL_down_16 : decode cL_down 16 = .ok (.iconst 2, 1) := by decide +kernel
theorem dL_down_17 : decode cL_down 17 = .ok (.ireturn, 1) := by decide +kernel
theorem dL_down_18 : decode cL_down 18 = .ok (.iconst 0, 1) := by decide +kernel
theorem dL_down_19 : decode cL_down 19 = .ok (.ireturn, 1) := by decide +kernel
theorem dL_mend_0 : decode cL_mend 0 = .ok (.aload_n 2, 1) := by decide +kernel
theorem dL_mend_1 : decode cL_mend 1 = .ok (.iconst 0, 1) := by decide +kernel
theorem dL_mend_2 : decode cL_mend 2 = .ok (.aload_n 0, 1) := by decide +kernel
theorem dL_mend_3 : decode cL_mend 3 = .ok (.iload_n 1, 1) := by decide +kernel
theorem dL_mend_4 : decode cL_mend 4 = .ok (.invokevirtual 51, 3) := by decide +kernel
theorem dL_mend_7 : decode cL_mend 7 = .ok (.i2l, 1) := by decide +kernel
theorem dL_mend_8 : decode cL_mend 8 = .ok (.lastore, 1) := by decide +kernel
theorem dL_mend_9 : decode cL_mend 9 = .ok (.goto 6, 3) := by decide +kernel
theorem dL_mend_12 : decode cL_mend 12 = .ok (.astore_n 3, 1) := by decide +kernel
theorem dL_mend_13 : decode cL_mend 13 = .ok (.iconst 1, 1) := by decide +kernel
theorem dL_mend_14 : decode cL_mend 14 = .ok (.ireturn, 1) := by decide +kernel
theorem dL_mend_15 : decode cL_mend 15 = .ok (.iconst 0, 1) := by decide +kernel
theorem dL_mend_16 : decode cL_mend 16 = .ok (.ireturn, 1) := by decide +kernel
theorem dL_recall_0 : decode cL_recall 0 = .ok (.aload_n 0, 1) := by decide +kernel
theorem dL_recall_1 : decode cL_recall 1 = .ok (.iload_n 1, 1) := by decide +kernel
theorem dL_recall_2 : decode cL_recall 2 = .ok (.invokevirtual 54, 3) := by decide +kernel
theorem dL_recall_5 : decode cL_recall 5 = .ok (.goto 9, 3) := by decide +kernel
theorem dL_recall_8 : decode cL_recall 8 = .ok (.astore_n 2, 1) := by decide +kernel
theorem dL_recall_9 : decode cL_recall 9 = .ok (.iconst 1, 1) := by decide +kernel
theorem dL_recall_10 : decode cL_recall 10 = .ok (.ireturn, 1) := by decide +kernel
theorem dL_recall_11 : decode cL_recall 11 = .ok (.astore_n 2, 1) := by decide +kernel
theorem dL_recall_12 : decode cL_recall 12 = .ok (.iconst 2, 1) := by decide +kernel
theorem dL_recall_13 : decode cL_recall 13 = .ok (.ireturn, 1) := by decide +kernel
theorem dL_recall_14 : decode cL_recall 14 = .ok (.iconst 0, 1) := by decide +kernel
theorem dL_recall_15 : decode cL_recall 15 = .ok (.ireturn, 1) := by decide +kernel
theorem dL_inside_0 : decode cL_inside 0 = .ok (.aload_n 2, 1) := by decide +kernel
theorem dL_inside_1 : decode cL_inside 1 = .ok (.iconst 0, 1) := by decide +kernel
theorem dL_inside_2 : decode cL_inside 2 = .ok (.aload_n 0, 1) := by decide +kernel
theorem dL_inside_3 : decode cL_inside 3 = .ok (.iload_n 1, 1) := by decide +kernel
theorem dL_inside_4 : decode cL_inside 4 = .ok (.invokevirtual 58, 3) := by decide +kernel
theorem dL_inside_7 : decode cL_inside 7 = .ok (.i2l, 1) := by decide +kernel
theorem dL_inside_8 : decode cL_inside 8 = .ok (.lastore, 1) := by decide +kernel
theorem dL_inside_9 : decode cL_inside 9 = .ok (.goto 9, 3) := by decide +kernel
theorem dL_inside_12 : decode cL_inside 12 = .ok (.astore_n 3, 1) := by decide +kernel
theorem dL_inside_13 : decode cL_inside 13 = .ok (.iconst 1, 1) := by decide +kernel
theorem dL_inside_14 : decode cL_inside 14 = .ok (.ireturn, 1) := by decide +kernel
theorem dL_inside_15 : decode cL_inside 15 = .ok (.astore_n 3, 1) := by decide +kernel
theorem dL_inside_16 : decode cL_inside 16 = .ok (.iconst 2, 1) := by decide +kernel
theorem dL_inside_17 : decode cL_inside 17 = .ok (.ireturn, 1) := by decide +kernel
theorem dL_inside_18 : decode cL_inside 18 = .ok (.iconst 0, 1) := by decide +kernel
theorem dL_inside_19 : decode cL_inside 19 = .ok (.ireturn, 1) := by decide +kernel
theorem dL_calm_0 : decode cL_calm 0 = .ok (.aload_n 2, 1) := by decide +kernel
theorem dL_calm_1 : decode cL_calm 1 = .ok (.iconst 0, 1) := by decide +kernel
theorem dL_calm_2 : decode cL_calm 2 = .ok (.aload_n 0, 1) := by decide +kernel
theorem dL_calm_3 : decode cL_calm 3 = .ok (.iload_n 1, 1) := by decide +kernel
theorem dL_calm_4 : decode cL_calm 4 = .ok (.invokevirtual 61, 3) := by decide +kernel
theorem dL_calm_7 : decode cL_calm 7 = .ok (.i2l, 1) := by decide +kernel
theorem dL_calm_8 : decode cL_calm 8 = .ok (.lastore, 1) := by decide +kernel
theorem dL_calm_9 : decode cL_calm 9 = .ok (.goto 6, 3) := by decide +kernel
theorem dL_calm_12 : decode cL_calm 12 = .ok (.astore_n 3, 1) := by decide +kernel
theorem dL_calm_13 : decode cL_calm 13 = .ok (.iconst 1, 1) := by decide +kernel
theorem dL_calm_14 : decode cL_calm 14 = .ok (.ireturn, 1) := by decide +kernel
theorem dL_calm_15 : decode cL_calm 15 = .ok (.iconst 0, 1) := by decide +kernel
theorem dL_calm_16 : decode cL_calm 16 = .ok (.ireturn, 1) := by decide +kernel
theorem dL_mornings_0 : decode cL_mornings 0 = .ok (.aload_n 2, 1) := by decide +kernel
theorem dL_mornings_1 : decode cL_mornings 1 = .ok (.iconst 0, 1) := by decide +kernel
theorem dL_mornings_2 : decode cL_mornings 2 = .ok (.aload_n 0, 1) := by decide +kernel
theorem dL_mornings_3 : decode cL_mornings 3 = .ok (.iload_n 1, 1) := by decide +kernel
theorem dL_mornings_4 : decode cL_mornings 4 = .ok (.invokevirtual 64, 3) := by decide +kernel
theorem dL_mornings_7 : decode cL_mornings 7 = .ok (.i2l, 1) := by decide +kernel
theorem dL_mornings_8 : decode cL_mornings 8 = .ok (.lastore, 1) := by decide +kernel
theorem dL_mornings_9 : decode cL_mornings 9 = .ok (.goto 6, 3) := by decide +kernel
theorem dL_mornings_12 : decode cL_mornings 12 = .ok (.astore_n 3, 1) := by decide +kernel
theorem dL_mornings_13 : decode cL_mornings 13 = .ok (.iconst 1, 1) := by decide +kernel
theorem dL_mornings_14 : decode cL_mornings 14 = .ok (.ireturn, 1) := by decide +kernel
theorem dL_mornings_15 : decode cL_mornings 15 = .ok (.iconst 0, 1) := by decide +kernel
theorem dL_mornings_16 : decode cL_mornings 16 = .ok (.ireturn, 1) := by decide +kernel
theorem dL_straight_0 : decode cL_straight 0 = .ok (.aload_n 2, 1) := by decide +kernel
theorem dL_straight_1 : decode cL_straight 1 = .ok (.iconst 0, 1) := by decide +kernel
theorem dL_straight_2 : decode cL_straight 2 = .ok (.aload_n 0, 1) := by decide +kernel
theorem dL_straight_3 : decode cL_straight 3 = .ok (.iload_n 1, 1) := by decide +kernel
theorem dL_straight_4 : decode cL_straight 4 = .ok (.invokevirtual 67, 3) := by decide +kernel
theorem dL_straight_7 : decode cL_straight 7 = .ok (.i2l, 1) := by decide +kernel
theorem dL_straight_8 : decode cL_straight 8 = .ok (.lastore, 1) := by decide +kernel
theorem dL_straight_9 : decode cL_straight 9 = .ok (.goto 6, 3) := by decide +kernel
theorem dL_straight_12 : decode cL_straight 12 = .ok (.astore_n 3, 1) := by decide +kernel
theorem dL_straight_13 : decode cL_straight 13 = .ok (.iconst 1, 1) := by decide +kernel
theorem dL_straight_14 : decode cL_straight 14 = .ok (.ireturn, 1) := by decide +kernel
theorem dL_straight_15 : decode cL_straight 15 = .ok (.iconst 0, 1) := by decide +kernel
theorem dL_straight_16 : decode cL_straight 16 = .ok (.ireturn, 1) := by decide +kernel
theorem dL_tense_0 : decode cL_tense 0 = .ok (.aload_n 3, 1) := by decide +kernel
theorem dL_tense_1 : decode cL_tense 1 = .ok (.iconst 0, 1) := by decide +kernel
theorem dL_tense_2 : decode cL_tense 2 = .ok (.aload_n 0, 1) := by decide +kernel
theorem dL_tense_3 : decode cL_tense 3 = .ok (.iload_n 1, 1) := by decide +kernel
theorem dL_tense_4 : decode cL_tense 4 = .ok (.iload_n 2, 1) := by decide +kernel
theorem dL_tense_5 : decode cL_tense 5 = .ok (.invokevirtual 70, 3) := by decide +kernel
theorem dL_tense_8 : decode cL_tense 8 = .ok (.i2l, 1) := by decide +kernel
theorem dL_tense_9 : decode cL_tense 9 = .ok (.lastore, 1) := by decide +kernel
theorem dL_tense_10 : decode cL_tense 10 = .ok (.goto 7, 3) := by decide +kernel
theorem dL_tense_13 : decode cL_tense 13 = .ok (.astore 4, 2) := by decide +kernel
theorem dL_tense_15 : decode cL_tense 15 = .ok (.iconst 1, 1) := by decide +kernel
theorem dL_tense_16 : decode cL_tense 16 = .ok (.ireturn, 1) := by decide +kernel
theorem dL_tense_17 : decode cL_tense 17 = .ok (.iconst 0, 1) := by decide +kernel
theorem dL_tense_18 : decode cL_tense 18 = .ok (.ireturn, 1) := by decide +kernel
theorem dL_ways_0 : decode cL_ways 0 = .ok (.aload_n 2, 1) := by decide +kernel
theorem dL_ways_1 : decode cL_ways 1 = .ok (.iconst 0, 1) := by decide +kernel
theorem dL_ways_2 : decode cL_ways 2 = .ok (.aload_n 0, 1) := by decide +kernel
theorem dL_ways_3 : decode cL_ways 3 = .ok (.iload_n 1, 1) := by decide +kernel
theorem dL_ways_4 : decode cL_ways 4 = .ok (.invokevirtual 73, 3) := by decide +kernel
theorem dL_ways_7 : decode cL_ways 7 = .ok (.i2l, 1) := by decide +kernel
theorem dL_ways_8 : decode cL_ways 8 = .ok (.lastore, 1) := by decide +kernel
theorem dL_ways_9 : decode cL_ways 9 = .ok (.goto 6, 3) := by decide +kernel
theorem dL_ways_12 : decode cL_ways 12 = .ok (.astore_n 3, 1) := by decide +kernel
theorem dL_ways_13 : decode cL_ways 13 = .ok (.iconst 1, 1) := by decide +kernel
theorem dL_ways_14 : decode cL_ways 14 = .ok (.ireturn, 1) := by decide +kernel
theorem dL_ways_15 : decode cL_ways 15 = .ok (.iconst 0, 1) := by decide +kernel
theorem dL_ways_16 : decode cL_ways 16 = .ok (.ireturn, 1) := by decide +kernel
theorem dL_at_0 : decode cL_at 0 = .ok (.aload_n 3, 1) := by decide +kernel
theorem dL_at_1 : decode cL_at 1 = .ok (.iconst 0, 1) := by decide +kernel
theorem dL_at_2 : decode cL_at 2 = .ok (.aload_n 0, 1) := by decide +kernel
theorem dL_at_3 : decode cL_at 3 = .ok (.iload_n 1, 1) := by decide +kernel
theorem dL_at_4 : decode cL_at 4 = .ok (.iload_n 2, 1) := by decide +kernel
theorem dL_at_5 : decode cL_at 5 = .ok (.invokevirtual 76, 3) := by decide +kernel
theorem dL_at_8 : decode cL_at 8 = .ok (.i2l, 1) := by decide +kernel
theorem dL_at_9 : decode cL_at 9 = .ok (.lastore, 1) := by decide +kernel
theorem dL_at_10 : decode cL_at 10 = .ok (.goto 7, 3) := by decide +kernel
theorem dL_at_13 : decode cL_at 13 = .ok (.astore 4, 2) := by decide +kernel
theorem dL_at_15 : decode cL_at 15 = .ok (.iconst 1, 1) := by decide +kernel
theorem dL_at_16 : decode cL_at 16 = .ok (.ireturn, 1) := by decide +kernel
theorem dL_at_17 : decode cL_at 17 = .ok (.iconst 0, 1) := by decide +kernel
theorem dL_at_18 : decode cL_at 18 = .ok (.ireturn, 1) := by decide +kernel
theorem dL_odds_0 : decode cL_odds 0 = .ok (.aload_n 2, 1) := by decide +kernel
theorem dL_odds_1 : decode cL_odds 1 = .ok (.iconst 0, 1) := by decide +kernel
theorem dL_odds_2 : decode cL_odds 2 = .ok (.aload_n 0, 1) := by decide +kernel
theorem dL_odds_3 : decode cL_odds 3 = .ok (.iload_n 1, 1) := by decide +kernel
theorem dL_odds_4 : decode cL_odds 4 = .ok (.invokevirtual 79, 3) := by decide +kernel
theorem dL_odds_7 : decode cL_odds 7 = .ok (.i2l, 1) := by decide +kernel
theorem dL_odds_8 : decode cL_odds 8 = .ok (.lastore, 1) := by decide +kernel
theorem dL_odds_9 : decode cL_odds 9 = .ok (.goto 6, 3) := by decide +kernel
theorem dL_odds_12 : decode cL_odds 12 = .ok (.astore_n 3, 1) := by decide +kernel
theorem dL_odds_13 : decode cL_odds 13 = .ok (.iconst 1, 1) := by decide +kernel
theorem dL_odds_14 : decode cL_odds 14 = .ok (.ireturn, 1) := by decide +kernel
theorem dL_odds_15 : decode cL_odds 15 = .ok (.iconst 0, 1) := by decide +kernel
theorem dL_odds_16 : decode cL_odds 16 = .ok (.ireturn, 1) := by decide +kernel
theorem dL_found_0 : decode cL_found 0 = .ok (.aload_n 3, 1) := by decide +kernel
theorem dL_found_1 : decode cL_found 1 = .ok (.iconst 0, 1) := by decide +kernel
theorem dL_found_2 : decode cL_found 2 = .ok (.aload_n 0, 1) := by decide +kernel
theorem dL_found_3 : decode cL_found 3 = .ok (.iload_n 1, 1) := by decide +kernel
theorem dL_found_4 : decode cL_found 4 = .ok (.iload_n 2, 1) := by decide +kernel
theorem dL_found_5 : decode cL_found 5 = .ok (.invokevirtual 82, 3) := by decide +kernel
theorem dL_found_8 : decode cL_found 8 = .ok (.i2l, 1) := by decide +kernel
theorem dL_found_9 : decode cL_found 9 = .ok (.lastore, 1) := by decide +kernel
theorem dL_found_10 : decode cL_found 10 = .ok (.goto 7, 3) := by decide +kernel
theorem dL_found_13 : decode cL_found 13 = .ok (.astore 4, 2) := by decide +kernel
theorem dL_found_15 : decode cL_found 15 = .ok (.iconst 1, 1) := by decide +kernel
theorem dL_found_16 : decode cL_found 16 = .ok (.ireturn, 1) := by decide +kernel
theorem dL_found_17 : decode cL_found 17 = .ok (.iconst 0, 1) := by decide +kernel
theorem dL_found_18 : decode cL_found 18 = .ok (.ireturn, 1) := by decide +kernel
theorem dL_ask_0 : decode cL_ask 0 = .ok (.aload_n 2, 1) := by decide +kernel
theorem dL_ask_1 : decode cL_ask 1 = .ok (.iconst 0, 1) := by decide +kernel
theorem dL_ask_2 : decode cL_ask 2 = .ok (.aload_n 0, 1) := by decide +kernel
theorem dL_ask_3 : decode cL_ask 3 = .ok (.iload_n 1, 1) := by decide +kernel
theorem dL_ask_4 : decode cL_ask 4 = .ok (.invokevirtual 86, 3) := by decide +kernel
theorem dL_ask_7 : decode cL_ask 7 = .ok (.i2l, 1) := by decide +kernel
theorem dL_ask_8 : decode cL_ask 8 = .ok (.lastore, 1) := by decide +kernel
theorem dL_ask_9 : decode cL_ask 9 = .ok (.goto 6, 3) := by decide +kernel
theorem dL_ask_12 : decode cL_ask 12 = .ok (.astore_n 3, 1) := by decide +kernel
theorem dL_ask_13 : decode cL_ask 13 = .ok (.iconst 1, 1) := by decide +kernel
theorem dL_ask_14 : decode cL_ask 14 = .ok (.ireturn, 1) := by decide +kernel
theorem dL_ask_15 : decode cL_ask 15 = .ok (.iconst 0, 1) := by decide +kernel
theorem dL_ask_16 : decode cL_ask 16 = .ok (.ireturn, 1) := by decide +kernel
theorem dL_car_0 : decode cL_car 0 = .ok (.aload_n 3, 1) := by decide +kernel
theorem dL_car_1 : decode cL_car 1 = .ok (.iconst 0, 1) := by decide +kernel
theorem dL_car_2 : decode cL_car 2 = .ok (.aload_n 0, 1) := by decide +kernel
theorem dL_car_3 : decode cL_car 3 = .ok (.iload_n 1, 1) := by decide +kernel
theorem dL_car_4 : decode cL_car 4 = .ok (.iload_n 2, 1) := by decide +kernel
theorem dL_car_5 : decode cL_car 5 = .ok (.invokevirtual 89, 3) := by decide +kernel
theorem dL_car_8 : decode cL_car 8 = .ok (.i2l, 1) := by decide +kernel
theorem dL_car_9 : decode cL_car 9 = .ok (.lastore, 1) := by decide +kernel
theorem dL_car_10 : decode cL_car 10 = .ok (.goto 11, 3) := by decide +kernel
theorem dL_car_13 : decode cL_car 13 = .ok (.astore 4, 2) := by decide +kernel
theorem dL_car_15 : decode cL_car 15 = .ok (.iconst 1, 1) := by decide +kernel
theorem dL_car_16 : decode cL_car 16 = .ok (.ireturn, 1) := by decide +kernel
theorem dL_car_17 : decode cL_car 17 = .ok (.astore 4, 2) := by decide +kernel
theorem dL_car_19 : decode cL_car 19 = .ok (.iconst 2, 1) := by decide +kernel
theorem dL_car_20 : decode cL_car 20 = .ok (.ireturn, 1) := by decide +kernel
theorem dL_car_21 : decode cL_car 21 = .ok (.iconst 0, 1) := by decide +kernel
theorem dL_car_22 : decode cL_car 22 = .ok (.ireturn, 1) := by decide +kernel
theorem dL_corners_0 : decode cL_corners 0 = .ok (.aload_n 2, 1) := by decide +kernel
theorem dL_corners_1 : decode cL_corners 1 = .ok (.iconst 0, 1) := by decide +kernel
theorem dL_corners_2 : decode cL_corners 2 = .ok (.aload_n 0, 1) := by decide +kernel
theorem dL_corners_3 : decode cL_corners 3 = .ok (.iload_n 1, 1) := by decide +kernel
theorem dL_corners_4 : decode cL_corners 4 = .ok (.invokevirtual 92, 3) := by decide +kernel
theorem dL_corners_7 : decode cL_corners 7 = .ok (.i2l, 1) := by decide +kernel
theorem dL_corners_8 : decode cL_corners 8 = .ok (.lastore, 1) := by decide +kernel
theorem dL_corners_9 : decode cL_corners 9 = .ok (.goto 6, 3) := by decide +kernel
theorem dL_corners_12 : decode cL_corners 12 = .ok (.astore_n 3, 1) := by decide +kernel
theorem dL_corners_13 : decode cL_corners 13 = .ok (.iconst 1, 1) := by decide +kernel
theorem dL_corners_14 : decode cL_corners 14 = .ok (.ireturn, 1) := by decide +kernel
theorem dL_corners_15 : decode cL_corners 15 = .ok (.iconst 0, 1) := by decide +kernel
theorem dL_corners_16 : decode cL_corners 16 = .ok (.ireturn, 1) := by decide +kernel
theorem dL_usher_0 : decode cL_usher 0 = .ok (.aload_n 2, 1) := by decide +kernel
theorem dL_usher_1 : decode cL_usher 1 = .ok (.iconst 0, 1) := by decide +kernel
theorem dL_usher_2 : decode cL_usher 2 = .ok (.aload_n 0, 1) := by decide +kernel
theorem dL_usher_3 : decode cL_usher 3 = .ok (.iload_n 1, 1) := by decide +kernel
theorem dL_usher_4 : decode cL_usher 4 = .ok (.invokevirtual 95, 3) := by decide +kernel
theorem dL_usher_7 : decode cL_usher 7 = .ok (.i2l, 1) := by decide +kernel
theorem dL_usher_8 : decode cL_usher 8 = .ok (.lastore, 1) := by decide +kernel
theorem dL_usher_9 : decode cL_usher 9 = .ok (.goto 6, 3) := by decide +kernel
theorem dL_usher_12 : decode cL_usher 12 = .ok (.astore_n 3, 1) := by decide +kernel
theorem dL_usher_13 : decode cL_usher 13 = .ok (.iconst 1, 1) := by decide +kernel
theorem dL_usher_14 : decode cL_usher 14 = .ok (.ireturn, 1) := by decide +kernel
theorem dL_usher_15 : decode cL_usher 15 = .ok (.iconst 0, 1) := by decide +kernel
theorem dL_usher_16 : decode cL_usher 16 = .ok (.ireturn, 1) := by decide +kernel
theorem dL_lasts_0 : decode cL_lasts 0 = .ok (.aload_n 3, 1) := by decide +kernel
theorem dL_lasts_1 : decode cL_lasts 1 = .ok (.iconst 0, 1) := by decide +kernel
theorem dL_lasts_2 : decode cL_lasts 2 = .ok (.aload_n 0, 1) := by decide +kernel
theorem dL_lasts_3 : decode cL_lasts 3 = .ok (.iload_n 1, 1) := by decide +kernel
theorem dL_lasts_4 : decode cL_lasts 4 = .ok (.iload_n 2, 1) := by decide +kernel
theorem dL_lasts_5 : decode cL_lasts 5 = .ok (.invokevirtual 98, 3) := by decide +kernel
theorem dL_lasts_8 : decode cL_lasts 8 = .ok (.i2l, 1) := by decide +kernel
theorem dL_lasts_9 : decode cL_lasts 9 = .ok (.lastore, 1) := by decide +kernel
theorem dL_lasts_10 : decode cL_lasts 10 = .ok (.goto 7, 3) := by decide +kernel
theorem dL_lasts_13 : decode cL_lasts 13 = .ok (.astore 4, 2) := by decide +kernel
theorem dL_lasts_15 : decode cL_lasts 15 = .ok (.iconst 1, 1) := by decide +kernel
theorem dL_lasts_16 : decode cL_lasts 16 = .ok (.ireturn, 1) := by decide +kernel
theorem dL_lasts_17 : decode cL_lasts 17 = .ok (.iconst 0, 1) := by decide +kernel
theorem dL_lasts_18 : decode cL_lasts 18 = .ok (.ireturn, 1) := by decide +kernel
theorem dL_share_0 : decode cL_share 0 = .ok (.aload_n 3, 1) := by decide +kernel
theorem dL_share_1 : decode cL_share 1 = .ok (.iconst 0, 1) := by decide +kernel
theorem dL_share_2 : decode cL_share 2 = .ok (.aload_n 0, 1) := by decide +kernel
theorem dL_share_3 : decode cL_share 3 = .ok (.iload_n 1, 1) := by decide +kernel
theorem dL_share_4 : decode cL_share 4 = .ok (.iload_n 2, 1) := by decide +kernel
theorem dL_share_5 : decode cL_share 5 = .ok (.invokevirtual 101, 3) := by decide +kernel
theorem dL_share_8 : decode cL_share 8 = .ok (.i2l, 1) := by decide +kernel
theorem dL_share_9 : decode cL_share 9 = .ok (.lastore, 1) := by decide +kernel
theorem dL_share_10 : decode cL_share 10 = .ok (.goto 7, 3) := by decide +kernel
theorem dL_share_13 : decode cL_share 13 = .ok (.astore 4, 2) := by decide +kernel
theorem dL_share_15 : decode cL_share 15 = .ok (.iconst 1, 1) := by decide +kernel
theorem dL_share_16 : decode cL_share 16 = .ok (.ireturn, 1) := by decide +kernel
theorem dL_share_17 : decode cL_share 17 = .ok (.iconst 0, 1) := by decide +kernel
theorem dL_share_18 : decode cL_share 18 = .ok (.ireturn, 1) := by decide +kernel
theorem dL_trial_0 : decode cL_trial 0 = .ok (.aload_n 2, 1) := by decide +kernel
theorem dL_trial_1 : decode cL_trial 1 = .ok (.iconst 0, 1) := by decide +kernel
theorem dL_trial_2 : decode cL_trial 2 = .ok (.aload_n 0, 1) := by decide +kernel
theorem dL_trial_3 : decode cL_trial 3 = .ok (.iload_n 1, 1) := by decide +kernel
theorem dL_trial_4 : decode cL_trial 4 = .ok (.invokevirtual 104, 3) := by decide +kernel
theorem dL_trial_7 : decode cL_trial 7 = .ok (.i2l, 1) := by decide +kernel
theorem dL_trial_8 : decode cL_trial 8 = .ok (.lastore, 1) := by decide +kernel
theorem dL_trial_9 : decode cL_trial 9 = .ok (.goto 6, 3) := by decide +kernel
theorem dL_trial_12 : decode cL_trial 12 = .ok (.astore_n 3, 1) := by decide +kernel
theorem dL_trial_13 : decode cL_trial 13 = .ok (.iconst 1, 1) := by decide +kernel
theorem dL_trial_14 : decode cL_trial 14 = .ok (.ireturn, 1) := by decide +kernel
theorem dL_trial_15 : decode cL_trial 15 = .ok (.iconst 0, 1) := by decide +kernel
theorem dL_trial_16 : decode cL_trial 16 = .ok (.ireturn, 1) := by decide +kernel
theorem dL_span_0 : decode cL_span 0 = .ok (.aload_n 3, 1) := by decide +kernel
theorem dL_span_1 : decode cL_span 1 = .ok (.iconst 0, 1) := by decide +kernel
theorem dL_span_2 : decode cL_span 2 = .ok (.aload_n 0, 1) := by decide +kernel
theorem dL_span_3 : decode cL_span 3 = .ok (.iload_n 1, 1) := by decide +kernel
theorem dL_span_4 : decode cL_span 4 = .ok (.iload_n 2, 1) := by decide +kernel
theorem dL_span_5 : decode cL_span 5 = .ok (.invokevirtual 107, 3) := by decide +kernel
theorem dL_span_8 : decode cL_span 8 = .ok (.i2l, 1) := by decide +kernel
theorem dL_span_9 : decode cL_span 9 = .ok (.lastore, 1) := by decide +kernel
theorem dL_span_10 : decode cL_span 10 = .ok (.goto 7, 3) := by decide +kernel
theorem dL_span_13 : decode cL_span 13 = .ok (.astore 4, 2) := by decide +kernel
theorem dL_span_15 : decode cL_span 15 = .ok (.iconst 1, 1) := by decide +kernel
theorem dL_span_16 : decode cL_span 16 = .ok (.ireturn, 1) := by decide +kernel
theorem dL_span_17 : decode cL_span 17 = .ok (.iconst 0, 1) := by decide +kernel
theorem dL_span_18 : decode cL_span 18 = .ok (.ireturn, 1) := by decide +kernel
theorem dL_led_0 : decode cL_led 0 = .ok (.aload_n 3, 1) := by decide +kernel
theorem dL_led_1 : decode cL_led 1 = .ok (.iconst 0, 1) := by decide +kernel
theorem dL_led_2 : decode cL_led 2 = .ok (.aload_n 0, 1) := by decide +kernel
theorem dL_led_3 : decode cL_led 3 = .ok (.iload_n 1, 1) := by decide +kernel
theorem dL_led_4 : decode cL_led 4 = .ok (.iload_n 2, 1) := by decide +kernel
theorem dL_led_5 : decode cL_led 5 = .ok (.invokevirtual 110, 3) := by decide +kernel
theorem dL_led_8 : decode cL_led 8 = .ok (.i2l, 1) := by decide +kernel
theorem dL_led_9 : decode cL_led 9 = .ok (.lastore, 1) := by decide +kernel
theorem dL_led_10 : decode cL_led 10 = .ok (.goto 7, 3) := by decide +kernel
theorem dL_led_13 : decode cL_led 13 = .ok (.astore 4, 2) := by decide +kernel
theorem dL_led_15 : decode cL_led 15 = .ok (.iconst 1, 1) := by decide +kernel
theorem dL_led_16 : decode cL_led 16 = .ok (.ireturn, 1) := by decide +kernel
theorem dL_led_17 : decode cL_led 17 = .ok (.iconst 0, 1) := by decide +kernel
theorem dL_led_18 : decode cL_led 18 = .ok (.ireturn, 1) := by decide +kernel
theorem dL_log_0 : decode cL_log 0 = .ok (.aload_n 3, 1) := by decide +kernel
theorem dL_log_1 : decode cL_log 1 = .ok (.iconst 0, 1) := by decide +kernel
theorem dL_log_2 : decode cL_log 2 = .ok (.aload_n 0, 1) := by decide +kernel
theorem dL_log_3 : decode cL_log 3 = .ok (.iload_n 1, 1) := by decide +kernel
theorem dL_log_4 : decode cL_log 4 = .ok (.iload_n 2, 1) := by decide +kernel
theorem dL_log_5 : decode cL_log 5 = .ok (.invokevirtual 113, 3) := by decide +kernel
theorem dL_log_8 : decode cL_log 8 = .ok (.i2l, 1) := by decide +kernel
theorem dL_log_9 : decode cL_log 9 = .ok (.lastore, 1) := by decide +kernel
theorem dL_log_10 : decode cL_log 10 = .ok (.goto 7, 3) := by decide +kernel
theorem dL_log_13 : decode cL_log 13 = .ok (.astore 4, 2) := by decide +kernel
theorem dL_log_15 : decode cL_log 15 = .ok (.iconst 1, 1) := by decide +kernel
theorem dL_log_16 : decode cL_log 16 = .ok (.ireturn, 1) := by decide +kernel
theorem dL_log_17 : decode cL_log 17 = .ok (.iconst 0, 1) := by decide +kernel
theorem dL_log_18 : decode cL_log 18 = .ok (.ireturn, 1) := by decide +kernel
