theorem dL_court_0 : decode cL_court 0 = .ok (.aload_n 1, 1) := by decide +kernel
theorem dL_court_1 : decode cL_court 1 = .ok (.iconst 0, 1) := by decide +kernel
theorem dL_court_2 : decode cL_court 2 = .ok (.aload_n 0, 1) := by decide +kernel
theorem dL_court_3 : decode cL_court 3 = .ok (.invokevirtual 7, 3) := by decide +kernel
theorem dL_court_6 : decode cL_court 6 = .ok (.i2l, 1) := by decide +kernel
theorem dL_court_7 : decode cL_court 7 = .ok (.lastore, 1) := by decide +kernel
theorem dL_court_8 : decode cL_court 8 = .ok (.goto 9, 3) := by decide +kernel
theorem dL_court_11 : decode cL_court 11 = .ok (.astore_n 2, 1) := by decide +kernel
theorem dL_court_12 : decode cL_court 12 = .ok (.iconst 1, 1) := by decide +kernel
theorem dL_court_13 : decode cL_court 13 = .ok (.ireturn, 1) := by decide +kernel
theorem dL_court_14 : decode cL_court 14 = .ok (.astore_n 2, 1) := by decide +kernel
theorem dL_court_15 : decode cL_court 15 = .ok (.iconst 2, 1) := by decide +kernel
theorem dL_court_16 : decode cL_court 16 = .ok (.ireturn, 1) := by decide +kernel
theorem dL_court_17 : decode cL_court 17 = .ok (.iconst 0, 1) := by decide +kernel
theorem dL_court_18 : decode cL_court 18 = .ok (.ireturn, 1) := by decide +kernel
theorem dL_law_0 : decode cL_law 0 = .ok (.aload_n 1, 1) := by decide +kernel
theorem dL_law_1 : decode cL_law 1 = .ok (.iconst 0, 1) := by decide +kernel
theorem dL_law_2 : decode cL_law 2 = .ok (.aload_n 0, 1) := by decide +kernel
theorem dL_law_3 : decode cL_law 3 = .ok (.invokevirtual 17, 3) := by decide +kernel
theorem dL_law_6 : decode cL_law 6 = .ok (.i2l, 1) := by decide +kernel
theorem dL_law_7 : decode cL_law 7 = .ok (.lastore, 1) := by decide +kernel
theorem dL_law_8 : decode cL_law 8 = .ok (.goto 6, 3) := by decide +kernel
theorem dL_law_11 : decode cL_law 11 = .ok (.astore_n 2, 1) := by decide +kernel
theorem dL_law_12 : decode cL_law 12 = .ok (.iconst 1, 1) := by decide +kernel
theorem dL_law_13 : decode cL_law 13 = .ok (.ireturn, 1) := by decide +kernel
theorem dL_law_14 : decode cL_law 14 = .ok (.iconst 0, 1) := by decide +kernel
theorem dL_law_15 : decode cL_law 15 = .ok (.ireturn, 1) := by decide +kernel
theorem dL_prop_0 : decode cL_prop 0 = .ok (.aload_n 3, 1) := by decide +kernel
theorem dL_prop_1 : decode cL_prop 1 = .ok (.iconst 0, 1) := by decide +kernel
theorem dL_prop_2 : decode cL_prop 2 = .ok (.aload_n 0, 1) := by decide +kernel
theorem dL_prop_3 : decode cL_prop 3 = .ok (.iload_n 1, 1) := by decide +kernel
theorem dL_prop_4 : decode cL_prop 4 = .ok (.iload_n 2, 1) := by decide +kernel
theorem dL_prop_5 : decode cL_prop 5 = .ok (.invokevirtual 20, 3) := by decide +kernel
theorem dL_prop_8 : decode cL_prop 8 = .ok (.i2l, 1) := by decide +kernel
theorem dL_prop_9 : decode cL_prop 9 = .ok (.lastore, 1) := by decide +kernel
theorem dL_prop_10 : decode cL_prop 10 = .ok (.goto 11, 3) := by decide +kernel
theorem dL_prop_13 : decode cL_prop 13 = .ok (.astore 4, 2) := by decide +kernel
theorem dL_prop_15 : decode cL_prop 15 = .ok (.iconst 1, 1) := by decide +kernel
theorem dL_prop_16 : decode cL_prop 16 = .ok (.ireturn, 1) := by decide +kernel
theorem dL_prop_17 : decode cL_prop 17 = .ok (.astore 4, 2) := by decide +kernel
theorem dL_prop_19 : decode cL_prop 19 = .ok (.iconst 2, 1) := by decide +kernel
theorem dL_prop_20 : decode cL_prop 20 = .ok (.ireturn, 1) := by decide +kernel
theorem dL_prop_21 : decode cL_prop 21 = .ok (.iconst 0, 1) := by decide +kernel
theorem dL_prop_22 : decode cL_prop 22 = .ok (.ireturn, 1) := by decide +kernel
theorem dL_slot_0 : decode cL_slot 0 = .ok (.aload_n 2, 1) := by decide +kernel
theorem dL_slot_1 : decode cL_slot 1 = .ok (.iconst 0, 1) := by decide +kernel
theorem dL_slot_2 : decode cL_slot 2 = .ok (.aload_n 0, 1) := by decide +kernel
theorem dL_slot_3 : decode cL_slot 3 = .ok (.iload_n 1, 1) := by decide +kernel
theorem dL_slot_4 : decode cL_slot 4 = .ok (.invokevirtual 28, 3) := by decide +kernel
theorem dL_slot_7 : decode cL_slot 7 = .ok (.i2l, 1) := by decide +kernel
theorem dL_slot_8 : decode cL_slot 8 = .ok (.lastore, 1) := by decide +kernel
theorem dL_slot_9 : decode cL_slot 9 = .ok (.goto 6, 3) := by decide +kernel
theorem dL_slot_12 : decode cL_slot 12 = .ok (.astore_n 3, 1) := by decide +kernel
theorem dL_slot_13 : decode cL_slot 13 = .ok (.iconst 1, 1) := by decide +kernel
theorem dL_slot_14 : decode cL_slot 14 = .ok (.ireturn, 1) := by decide +kernel
theorem dL_slot_15 : decode cL_slot 15 = .ok (.iconst 0, 1) := by decide +kernel
theorem dL_slot_16 : decode cL_slot 16 = .ok (.ireturn, 1) := by decide +kernel
theorem dL_accused_0 : decode cL_accused 0 = .ok (.aload_n 3, 1) := by decide +kernel
theorem dL_accused_1 : decode cL_accused 1 = .ok (.iconst 0, 1) := by decide +kernel
theorem dL_accused_2 : decode cL_accused 2 = .ok (.aload_n 0, 1) := by decide +kernel
theorem dL_accused_3 : decode cL_accused 3 = .ok (.iload_n 1, 1) := by decide +kernel
theorem dL_accused_4 : decode cL_accused 4 = .ok (.iload_n 2, 1) := by decide +kernel
theorem dL_accused_5 : decode cL_accused 5 = .ok (.invokevirtual 32, 3) := by decide +kernel
theorem dL_accused_8 : decode cL_accused 8 = .ok (.i2l, 1) := by decide +kernel
theorem dL_accused_9 : decode cL_accused 9 = .ok (.lastore, 1) := by decide +kernel
theorem dL_accused_10 : decode cL_accused 10 = .ok (.goto 11, 3) := by decide +kernel
theorem dL_accused_13 : decode cL_accused 13 = .ok (.astore 4, 2) := by decide +kernel
theorem dL_accused_15 : decode cL_accused 15 = .ok (.iconst 1, 1) := by decide +kernel
theorem dL_accused_16 : decode cL_accused 16 = .ok (.ireturn, 1) := by decide +kernel
theorem dL_accused_17 : decode cL_accused 17 = .ok (.astore 4, 2) := by decide +kernel
theorem dL_accused_19 : decode cL_accused 19 = .ok (.iconst 2, 1) := by decide +kernel
theorem dL_accused_20 : decode cL_accused 20 = .ok (.ireturn, 1) := by decide +kernel
theorem dL_accused_21 : decode cL_accused 21 = .ok (.iconst 0, 1) := by decide +kernel
theorem dL_accused_22 : decode cL_accused 22 = .ok (.ireturn, 1) := by decide +kernel
theorem dL_fright_0 : decode cL_fright 0 = .ok (.aload 5, 2) := by decide +kernel
theorem dL_fright_2 : decode cL_fright 2 = .ok (.iconst 0, 1) := by decide +kernel
theorem dL_fright_3 : decode cL_fright 3 = .ok (.aload_n 0, 1) := by decide +kernel
theorem dL_fright_4 : decode cL_fright 4 = .ok (.iload_n 1, 1) := by decide +kernel
theorem dL_fright_5 : decode cL_fright 5 = .ok (.iload_n 2, 1) := by decide +kernel
theorem dL_fright_6 : decode cL_fright 6 = .ok (.iload_n 3, 1) := by decide +kernel
theorem dL_fright_7 : decode cL_fright 7 = .ok (.iload 4, 2) := by decide +kernel
theorem dL_fright_9 : decode cL_fright 9 = .ok (.invokevirtual 35, 3) := by decide +kernel
theorem dL_fright_12 : decode cL_fright 12 = .ok (.i2l, 1) := by decide +kernel
theorem dL_fright_13 : decode cL_fright 13 = .ok (.lastore, 1) := by decide +kernel
theorem dL_fright_14 : decode cL_fright 14 = .ok (.goto 11, 3) := by decide +kernel
theorem dL_fright_17 : decode cL_fright 17 = .ok (.astore 6, 2) := by decide +kernel
theorem dL_fright_19 : decode cL_fright 19 = .ok (.iconst 1, 1) := by decide +kernel
theorem dL_fright_20 : decode cL_fright 20 = .ok (.ireturn, 1) := by decide +kernel
theorem dL_fright_21 : decode cL_fright 21 = .ok (.astore 6, 2) := by decide +kernel
theorem dL_fright_23 : decode cL_fright 23 = .ok (.iconst 2, 1) := by decide +kernel
theorem dL_fright_24 : decode cL_fright 24 = .ok (.ireturn, 1) := by decide +kernel
theorem dL_fright_25 : decode cL_fright 25 = .ok (.iconst 0, 1) := by decide +kernel
theorem dL_fright_26 : decode cL_fright 26 = .ok (.ireturn, 1) := by decide +kernel
theorem dL_send_0 : decode cL_send 0 = .ok (.aload_n 2, 1) := by decide +kernel
theorem dL_send_1 : decode cL_send 1 = .ok (.iconst 0, 1) := by decide +kernel
theorem dL_send_2 : decode cL_send 2 = .ok (.aload_n 0, 1) := by decide +kernel
theorem dL_send_3 : decode cL_send 3 = .ok (.iload_n 1, 1) := by decide +kernel
theorem dL_send_4 : decode cL_send 4 = .ok (.invokevirtual 39, 3) := by decide +kernel
theorem dL_send_7 : decode cL_send 7 = .ok (.i2l, 1) := by decide +kernel
theorem dL_send_8 : decode cL_send 8 = .ok (.lastore, 1) := by decide +kernel
theorem dL_send_9 : decode cL_send 9 = .ok (.goto 9, 3) := by decide +kernel
theorem dL_send_12 : decode cL_send 12 = .ok (.astore_n 3, 1) := by decide +kernel
theorem dL_send_13 : decode cL_send 13 = .ok (.iconst 1, 1) := by decide +kernel
theorem dL_send_14 : decode cL_send 14 = .ok (.ireturn, 1) := by decide +kernel
theorem dL_send_15 : decode cL_send 15 = .ok (.astore_n 3, 1) := by decide +kernel
theorem dL_send_16 : decode cL_send 16 = .ok (.iconst 2, 1) := by decide +kernel
theorem dL_send_17 : decode cL_send 17 = .ok (.ireturn, 1) := by decide +kernel
theorem dL_send_18 : decode cL_send 18 = .ok (.iconst 0, 1) := by decide +kernel
theorem dL_send_19 : decode cL_send 19 = .ok (.ireturn, 1) := by decide +kernel
theorem dL_nail_0 : decode cL_nail 0 = .ok (.aload_n 0, 1) := by decide +kernel
theorem dL_nail_1 : decode cL_nail 1 = .ok (.iload_n 1, 1) := by decide +kernel
theorem dL_nail_2 : decode cL_nail 2 = .ok (.iload_n 2, 1) := by decide +kernel
theorem dL_nail_3 : decode cL_nail 3 = .ok (.invokevirtual 44, 3) := by decide +kernel
theorem dL_nail_6 : decode cL_nail 6 = .ok (.goto 9, 3) := by decide +kernel
theorem dL_nail_9 : decode cL_nail 9 = .ok (.astore_n 3, 1) := by decide +kernel
theorem dL_nail_10 : decode cL_nail 10 = .ok (.iconst 1, 1) := by decide +kernel
theorem dL_nail_11 : decode cL_nail 11 = .ok (.ireturn, 1) := by decide +kernel
theorem dL_nail_12 : decode cL_nail 12 = .ok (.astore_n 3, 1) := by decide +kernel
theorem dL_nail_13 : decode cL_nail 13 = .ok (.iconst 2, 1) := by decide +kernel
theorem dL_nail_14 : decode cL_nail 14 = .ok (.ireturn, 1) := by decide +kernel
theorem dL_nail_15 : decode cL_nail 15 = .ok (.iconst 0, 1) := by decide +kernel
theorem dL_nail_16 : decode cL_nail 16 = .ok (.ireturn, 1) := by decide +kernel
theorem dL_down_0 : decode cL_down 0 = .ok (.aload_n 2, 1) := by decide +kernel
theorem dL_down_1 : decode cL_down 1 = .ok (.iconst 0, 1) := by decide +kernel
theorem dL_down_2 : decode cL_down 2 = .ok (.aload_n 0, 1) := by decide +kernel
theorem dL_down_3 : decode cL_down 3 = .ok (.iload_n 1, 1) := by decide +kernel
theorem dL_down_4 : decode cL_down 4 = .ok (.invokevirtual 48, 3) := by decide +kernel
theorem dL_down_7 : decode cL_down 7 = .ok (.i2l, 1) := by decide +kernel
theorem dL_down_8 : decode cL_down 8 = .ok (.lastore, 1) := by decide +kernel
theorem dL_down_9 : decode cL_down 9 = .ok (.goto 9, 3) := by decide +kernel
theorem dL_down_12 : decode cL_down 12 = .ok (.astore_n 3, 1) := by decide +kernel
theorem dL_down_13 : decode cL_down 13 = .ok (.iconst 1, 1) := by decide +kernel
theorem dL_down_14 : decode cL_down 14 = .ok (.ireturn, 1) := by decide +kernel
theorem dL_down_15 : decode cL_down 15 = .ok (.astore_n 3, 1) := by decide +kernel
theorem dL_down_16 : decode cL_down 16 = .ok (.iconst 2, 1) := by decide +kernel
theorem dL_down_17 : decode cL_down 17 = .ok (.ireturn, 1) := by decide +kernel
theorem dL_down_18 : decode cL_down 18 = .ok (.iconst 0, 1) := by decide +kernel
theorem dL_down_19 : decode cL_down 19 = .ok (.ireturn, 1) := by decide +kernel
theorem dL_mend_0 : decode cL_mend 0 = .ok (.aload_n 2, 1) := by decide +kernel
theorem dL_mend_1 : decode cL_mend 1 = .ok (.iconst 0, 1) := by decide +kernel
theorem dL_mend_2 : decode cL_mend 2 = .ok (.aload_n 0, 1) := by decide +kernel
theorem dL_mend_3 : decode cL_mend 3 = .ok (.iload_n 1, 1) := by decide +kernel
theorem dL_mend_4 : decode cL_mend 4 = .ok (.invokevirtual 51, 3) := by decide +kernel
theorem dL_mend_7 : decode cL_mend 7 = .ok (.i2l, 1) := by decide +kernel
theorem dL_mend_8 : decode cL_mend 8 = .ok (.lastore, 1) := by decide +kernel
theorem dL_mend_9 : decode cL_mend 9 = .ok (.goto 6, 3) := by decide +kernel
theorem dL_mend_12 : decode cL_mend 12 = .ok (.astore_n 3, 1) := by decide +kernel
theorem dL_mend_13 : decode cL_mend 13 = .ok (.iconst 1, 1) := by decide +kernel
theorem dL_mend_14 : decode cL_mend 14 = .ok (.ireturn, 1) := by decide +kernel
theorem dL_mend_15 : decode cL_mend 15 = .ok (.iconst 0, 1) := by decide +kernel
theorem dL_mend_16 : decode cL_mend 16 = .ok (.ireturn, 1) := by decide +kernel
theorem dL_recall_0 : decode cL_recall 0 = .ok (.aload_n 0, 1) := by decide +kernel
theorem dL_recall_1 : decode cL_recall 1 = .ok (.iload_n 1, 1) := by decide +kernel
theorem dL_recall_2 : decode cL_recall 2 = .ok (.invokevirtual 54, 3) := by decide +kernel
theorem dL_recall_5 : decode cL_recall 5 = .ok (.goto 9, 3) := by decide +kernel
theorem dL_recall_8 : decode cL_recall 8 = .ok (.astore_n 2, 1) := by decide +kernel
theorem dL_recall_9 : decode cL_recall 9 = .ok (.iconst 1, 1) := by decide +kernel
theorem dL_recall_10 : decode cL_recall 10 = .ok (.ireturn, 1) := by decide +kernel
theorem dL_recall_11 : decode cL_recall 11 = .ok (.astore_n 2, 1) := by decide +kernel
theorem dL_recall_12 : decode cL_recall 12 = .ok (.iconst 2, 1) := by decide +kernel
theorem dL_recall_13 : decode cL_recall 13 = .ok (.ireturn, 1) := by decide +kernel
theorem dL_recall_14 : decode cL_recall 14 = .ok (.iconst 0, 1) := by decide +kernel
theorem dL_recall_15 : decode cL_recall 15 = .ok (.ireturn, 1) := by decide +kernel
theorem dL_inside_0 : decode cL_inside 0 = .ok (.aload_n 2, 1) := by decide +kernel
theorem dL_inside_1 : decode cL_inside 1 = .ok (.iconst 0, 1) := by decide +kernel
theorem dL_inside_2 : decode cL_inside 2 = .ok (.aload_n 0, 1) := by decide +kernel
theorem dL_inside_3 : decode cL_inside 3 = .ok (.iload_n 1, 1) := by decide +kernel
theorem dL_inside_4 : decode cL_inside 4 = .ok (.invokevirtual 58, 3) := by decide +kernel
theorem dL_inside_7 : decode cL_inside 7 = .ok (.i2l, 1) := by decide +kernel
theorem dL_inside_8 : decode cL_inside 8 = .ok (.lastore, 1) := by decide +kernel
theorem dL_inside_9 : decode cL_inside 9 = .ok (.goto 9, 3) := by decide +kernel
theorem dL_inside_12 : decode cL_inside 12 = .ok (.astore_n 3, 1) := by decide +kernel
theorem dL_inside_13 : decode cL_inside 13 = .ok (.iconst 1, 1) := by decide +kernel
theorem dL_inside_14 : decode cL_inside 14 = .ok (.ireturn, 1) := by decide +kernel
theorem dL_inside_15 : decode cL_inside 15 = .ok (.astore_n 3, 1) := by decide +kernel
theorem dL_inside_16 : decode cL_inside 16 = .ok (.iconst 2, 1) := by decide +kernel
theorem dL_inside_17 : decode cL_inside 17 = .ok (.ireturn, 1) := by decide +kernel
theorem dL_inside_18 : decode cL_inside 18 = .ok (.iconst 0, 1) := by decide +kernel
theorem dL_inside_19 : decode cL_inside 19 = .ok (.ireturn, 1) := by decide +kernel
theorem dL_calm_0 : decode cL_calm 0 = .ok (.aload_n 2, 1) := by decide +kernel
theorem dL_calm_1 : decode cL_calm 1 = .ok (.iconst 0, 1) := by decide +kernel
theorem dL_calm_2 : decode cL_calm 2 = .ok (.aload_n 0, 1) := by decide +kernel
theorem dL_calm_3 : decode cL_calm 3 = .ok (.iload_n 1, 1) := by decide +kernel
theorem dL_calm_4 : decode cL_calm 4 = .ok (.invokevirtual 61, 3) := by decide +kernel
theorem dL_calm_7 : decode cL_calm 7 = .ok (.i2l, 1) := by decide +kernel
theorem dL_calm_8 : decode cL_calm 8 = .ok (.lastore, 1) := by decide +kernel
theorem dL_calm_9 : decode cL_calm 9 = .ok (.goto 6, 3) := by decide +kernel
theorem dL_calm_12 : decode cL_calm 12 = .ok (.astore_n 3, 1) := by decide +kernel
theorem dL_calm_13 : decode cL_calm 13 = .ok (.iconst 1, 1) := by decide +kernel
theorem dL_calm_14 : decode cL_calm 14 = .ok (.ireturn, 1) := by decide +kernel
theorem dL_calm_15 : decode cL_calm 15 = .ok (.iconst 0, 1) := by decide +kernel
theorem dL_calm_16 : decode cL_calm 16 = .ok (.ireturn, 1) := by decide +kernel
theorem dL_mornings_0 : decode cL_mornings 0 = .ok (.aload_n 2, 1) := by decide +kernel
theorem dL_mornings_1 : decode cL_mornings 1 = .ok (.iconst 0, 1) := by decide +kernel
theorem dL_mornings_2 : decode cL_mornings 2 = .ok (.aload_n 0, 1) := by decide +kernel
theorem dL_mornings_3 : decode cL_mornings 3 = .ok (.iload_n 1, 1) := by decide +kernel
theorem dL_mornings_4 : decode cL_mornings 4 = .ok (.invokevirtual 64, 3) := by decide +kernel
theorem dL_mornings_7 : decode cL_mornings 7 = .ok (.i2l, 1) := by decide +kernel
theorem dL_mornings_8 : decode cL_mornings 8 = .ok (.lastore, 1) := by decide +kernel
theorem dL_mornings_9 : decode cL_mornings 9 = .ok (.goto 6, 3) := by decide +kernel
theorem dL_mornings_12 : decode cL_mornings 12 = .ok (.astore_n 3, 1) := by decide +kernel
theorem dL_mornings_13 : decode cL_mornings 13 = .ok (.iconst 1, 1) := by decide +kernel
theorem dL_mornings_14 : decode cL_mornings 14 = .ok (.ireturn, 1) := by decide +kernel
theorem dL_mornings_15 : decode cL_mornings 15 = .ok (.iconst 0, 1) := by decide +kernel
theorem dL_mornings_16 : decode cL_mornings 16 = .ok (.ireturn, 1) := by decide +kernel
theorem dL_straight_0 : decode cL_straight 0 = .ok (.aload_n 2, 1) := by decide +kernel
theorem dL_straight_1 : decode cL_straight 1 = .ok (.iconst 0, 1) := by decide +kernel
theorem dL_straight_2 : decode cL_straight 2 = .ok (.aload_n 0, 1) := by decide +kernel
theorem dL_straight_3 : decode cL_straight 3 = .ok (.iload_n 1, 1) := by decide +kernel
theorem dL_straight_4 : decode cL_straight 4 = .ok (.invokevirtual 67, 3) := by decide +kernel
theorem dL_straight_7 : decode cL_straight 7 = .ok (.i2l, 1) := by decide +kernel
theorem dL_straight_8 : decode cL_straight 8 = .ok (.lastore, 1) := by decide +kernel
theorem dL_straight_9 : decode cL_straight 9 = .ok (.goto 6, 3) := by decide +kernel
theorem dL_straight_12 : decode cL_straight 12 = .ok (.astore_n 3, 1) := by decide +kernel
theorem dL_straight_13 : decode cL_straight 13 = .ok (.iconst 1, 1) := by decide +kernel
theorem dL_straight_14 : decode cL_straight 14 = .ok (.ireturn, 1) := by decide +kernel
theorem dL_straight_15 : decode cL_straight 15 = .ok (.iconst 0, 1) := by decide +kernel
theorem dL_straight_16 : decode cL_straight 16 = .ok (.ireturn, 1) := by decide +kernel
theorem dL_tense_0 : decode cL_tense 0 = .ok (.aload_n 3, 1) := by decide +kernel
theorem dL_tense_1 : decode cL_tense 1 = .ok (.iconst 0, 1) := by decide +kernel
theorem dL_tense_2 : decode cL_tense 2 = .ok (.aload_n 0, 1) := by decide +kernel
theorem dL_tense_3 : decode cL_tense 3 = .ok (.iload_n 1, 1) := by decide +kernel
theorem dL_tense_4 : decode cL_tense 4 = .ok (.iload_n 2, 1) := by decide +kernel
theorem dL_tense_5 : decode cL_tense 5 = .ok (.invokevirtual 70, 3) := by decide +kernel
theorem dL_tense_8 : decode cL_tense 8 = .ok (.i2l, 1) := by decide +kernel
theorem dL_tense_9 : decode cL_tense 9 = .ok (.lastore, 1) := by decide +kernel
theorem dL_tense_10 : decode cL_tense 10 = .ok (.goto 7, 3) := by decide +kernel
theorem dL_tense_13 : decode cL_tense 13 = .ok (.astore 4, 2) := by decide +kernel
theorem dL_tense_15 : decode cL_tense 15 = .ok (.iconst 1, 1) := by decide +kernel
theorem dL_tense_16 : decode cL_tense 16 = .ok (.ireturn, 1) := by decide +kernel
theorem dL_tense_17 : decode cL_tense 17 = .ok (.iconst 0, 1) := by decide +kernel
theorem dL_tense_18 : decode cL_tense 18 = .ok (.ireturn, 1) := by decide +kernel
theorem dL_ways_0 : decode cL_ways 0 = .ok (.aload_n 2, 1) := by decide +kernel
theorem dL_ways_1 : decode cL_ways 1 = .ok (.iconst 0, 1) := by decide +kernel
theorem dL_ways_2 : decode cL_ways 2 = .ok (.aload_n 0, 1) := by decide +kernel
theorem dL_ways_3 : decode cL_ways 3 = .ok (.iload_n 1, 1) := by decide +kernel
theorem dL_ways_4 : decode cL_ways 4 = .ok (.invokevirtual 73, 3) := by decide +kernel
theorem dL_ways_7 : decode cL_ways 7 = .ok (.i2l, 1) := by decide +kernel
theorem dL_ways_8 : decode cL_ways 8 = .ok (.lastore, 1) := by decide +kernel
theorem dL_ways_9 : decode cL_ways 9 = .ok (.goto 6, 3) := by decide +kernel
theorem dL_ways_12 : decode cL_ways 12 = .ok (.astore_n 3, 1) := by decide +kernel
theorem dL_ways_13 : decode cL_ways 13 = .ok (.iconst 1, 1) := by decide +kernel
theorem dL_ways_14 : decode cL_ways 14 = .ok (.ireturn, 1) := by decide +kernel
theorem dL_ways_15 : decode cL_ways 15 = .ok (.iconst 0, 1) := by decide +kernel
theorem dL_ways_16 : decode cL_ways 16 = .ok (.ireturn, 1) := by decide +kernel
theorem dL_at_0 : decode cL_at 0 = .ok (.aload_n 3, 1) := by decide +kernel
theorem dL_at_1 : decode cL_at 1 = .ok (.iconst 0, 1) := by decide +kernel
theorem dL_at_2 : decode cL_at 2 = .ok (.aload_n 0, 1) := by decide +kernel
theorem dL_at_3 : decode cL_at 3 = .ok (.iload_n 1, 1) := by decide +kernel
theorem dL_at_4 : decode cL_at 4 = .ok (.iload_n 2, 1) := by decide +kernel
theorem dL_at_5 : decode cL_at 5 = .ok (.invokevirtual 76, 3) := by decide +kernel
theorem dL_at_8 : decode cL_at 8 = .ok (.i2l, 1) := by decide +kernel
theorem dL_at_9 : decode cL_at 9 = .ok (.lastore, 1) := by decide +kernel
theorem dL_at_10 : decode cL_at 10 = .ok (.goto 7, 3) := by decide +kernel
theorem dL_at_13 : decode cL_at 13 = .ok (.astore 4, 2) := by decide +kernel
theorem dL_at_15 : decode cL_at 15 = .ok (.iconst 1, 1) := by decide +kernel
theorem dL_at_16 : decode cL_at 16 = .ok (.ireturn, 1) := by decide +kernel
theorem dL_at_17 : decode cL_at 17 = .ok (.iconst 0, 1) := by decide +kernel
theorem dL_at_18 : decode cL_at 18 = .ok (.ireturn, 1) := by decide +kernel
theorem dL_odds_0 : decode cL_odds 0 = .ok (.aload_n 2, 1) := by decide +kernel
theorem dL_odds_1 : decode cL_odds 1 = .ok (.iconst 0, 1) := by decide +kernel
theorem dL_odds_2 : decode cL_odds 2 = .ok (.aload_n 0, 1) := by decide +kernel
theorem dL_odds_3 : decode cL_odds 3 = .ok (.iload_n 1, 1) := by decide +kernel
theorem dL_odds_4 : decode cL_odds 4 = .ok (.invokevirtual 79, 3) := by decide +kernel
theorem dL_odds_7 : decode cL_odds 7 = .ok (.i2l, 1) := by decide +kernel
theorem dL_odds_8 : decode cL_odds 8 = .ok (.lastore, 1) := by decide +kernel
theorem dL_odds_9 : decode cL_odds 9 = .ok (.goto 6, 3) := by decide +kernel
theorem dL_odds_12 : decode cL_odds 12 = .ok (.astore_n 3, 1) := by decide +kernel
theorem dL_odds_13 : decode cL_odds 13 = .ok (.iconst 1, 1) := by decide +kernel
theorem dL_odds_14 : decode cL_odds 14 = .ok (.ireturn, 1) := by decide +kernel
theorem dL_odds_15 : decode cL_odds 15 = .ok (.iconst 0, 1) := by decide +kernel
theorem dL_odds_16 : decode cL_odds 16 = .ok (.ireturn, 1) := by decide +kernel
theorem dL_found_0 : decode cL_found 0 = .ok (.aload_n 3, 1) := by decide +kernel
theorem dL_found_1 : decode cL_found 1 = .ok (.iconst 0, 1) := by decide +kernel
theorem dL_found_2 : decode cL_found 2 = .ok (.aload_n 0, 1) := by decide +kernel
theorem dL_found_3 : decode cL_found 3 = .ok (.iload_n 1, 1) := by decide +kernel
theorem dL_found_4 : decode cL_found 4 = .ok (.iload_n 2, 1) := by decide +kernel
theorem dL_found_5 : decode cL_found 5 = .ok (.invokevirtual 82, 3) := by decide +kernel
theorem dL_found_8 : decode cL_found 8 = .ok (.i2l, 1) := by decide +kernel
theorem dL_found_9 : decode cL_found 9 = .ok (.lastore, 1) := by decide +kernel
theorem dL_found_10 : decode cL_found 10 = .ok (.goto 7, 3) := by decide +kernel
theorem dL_found_13 : decode cL_found 13 = .ok (.astore 4, 2) := by decide +kernel
theorem dL_found_15 : decode cL_found 15 = .ok (.iconst 1, 1) := by decide +kernel
theorem dL_found_16 : decode cL_found 16 = .ok (.ireturn, 1) := by decide +kernel
theorem dL_found_17 : decode cL_found 17 = .ok (.iconst 0, 1) := by decide +kernel
theorem dL_found_18 : decode cL_found 18 = .ok (.ireturn, 1) := by decide +kernel
theorem dL_ask_0 : decode cL_ask 0 = .ok (.aload_n 2, 1) := by decide +kernel
theorem dL_ask_1 : decode cL_ask 1 = .ok (.iconst 0, 1) := by decide +kernel
theorem dL_ask_2 : decode cL_ask 2 = .ok (.aload_n 0, 1) := by decide +kernel
theorem dL_ask_3 : decode cL_ask 3 = .ok (.iload_n 1, 1) := by decide +kernel
theorem dL_ask_4 : decode cL_ask 4 = .ok (.invokevirtual 86, 3) := by decide +kernel
theorem dL_ask_7 : decode cL_ask 7 = .ok (.i2l, 1) := by decide +kernel
theorem dL_ask_8 : decode cL_ask 8 = .ok (.lastore, 1) := by decide +kernel
theorem dL_ask_9 : decode cL_ask 9 = .ok (.goto 6, 3) := by decide +kernel
theorem dL_ask_12 : decode cL_ask 12 = .ok (.astore_n 3, 1) := by decide +kernel
theorem dL_ask_13 : decode cL_ask 13 = .ok (.iconst 1, 1) := by decide +kernel
theorem dL_ask_14 : decode cL_ask 14 = .ok (.ireturn, 1) := by decide +kernel
theorem dL_ask_15 : decode cL_ask 15 = .ok (.iconst 0, 1) := by decide +kernel
theorem dL_ask_16 : decode cL_ask 16 = .ok (.ireturn, 1) := by decide +kernel
theorem dL_car_0 : decode cL_car 0 = .ok (.aload_n 3, 1) := by decide +kernel
theorem dL_car_1 : decode cL_car 1 = .ok (.iconst 0, 1) := by decide +kernel
theorem dL_car_2 : decode cL_car 2 = .ok (.aload_n 0, 1) := by decide +kernel
theorem dL_car_3 : decode cL_car 3 = .ok (.iload_n 1, 1) := by decide +kernel
theorem dL_car_4 : decode cL_car 4 = .ok (.iload_n 2, 1) := by decide +kernel
theorem dL_car_5 : decode cL_car 5 = .ok (.invokevirtual 89, 3) := by decide +kernel
theorem dL_car_8 : decode cL_car 8 = .ok (.i2l, 1) := by decide +kernel
theorem dL_car_9 : decode cL_car 9 = .ok (.lastore, 1) := by decide +kernel
theorem dL_car_10 : decode cL_car 10 = .ok (.goto 11, 3) := by decide +kernel
theorem dL_car_13 : decode cL_car 13 = .ok (.astore 4, 2) := by decide +kernel
theorem dL_car_15 : decode cL_car 15 = .ok (.iconst 1, 1) := by decide +kernel
theorem dL_car_16 : decode cL_car 16 = .ok (.ireturn, 1) := by decide +kernel
theorem dL_car_17 : decode cL_car 17 = .ok (.astore 4, 2) := by decide +kernel
theorem dL_car_19 : decode cL_car 19 = .ok (.iconst 2, 1) := by decide +kernel
theorem dL_car_20 : decode cL_car 20 = .ok (.ireturn, 1) := by decide +kernel
theorem dL_car_21 : decode cL_car 21 = .ok (.iconst 0, 1) := by decide +kernel
theorem dL_car_22 : decode cL_car 22 = .ok (.ireturn, 1) := by decide +kernel
theorem dL_corners_0 : decode cL_corners 0 = .ok (.aload_n 2, 1) := by decide +kernel
theorem dL_corners_1 : decode cL_corners 1 = .ok (.iconst 0, 1) := by decide +kernel
theorem dL_corners_2 : decode cL_corners 2 = .ok (.aload_n 0, 1) := by decide +kernel
theorem dL_corners_3 : decode cL_corners 3 = .ok (.iload_n 1, 1) := by decide +kernel
theorem dL_corners_4 : decode cL_corners 4 = .ok (.invokevirtual 92, 3) := by decide +kernel
theorem dL_corners_7 : decode cL_corners 7 = .ok (.i2l, 1) := by decide +kernel
theorem dL_corners_8 : decode cL_corners 8 = .ok (.lastore, 1) := by decide +kernel
theorem dL_corners_9 : decode cL_corners 9 = .ok (.goto 6, 3) := by decide +kernel
theorem dL_corners_12 : decode cL_corners 12 = .ok (.astore_n 3, 1) := by decide +kernel
theorem dL_corners_13 : decode cL_corners 13 = .ok (.iconst 1, 1) := by decide +kernel
theorem dL_corners_14 : decode cL_corners 14 = .ok (.ireturn, 1) := by decide +kernel
theorem dL_corners_15 : decode cL_corners 15 = .ok (.iconst 0, 1) := by decide +kernel
theorem dL_corners_16 : decode cL_corners 16 = .ok (.ireturn, 1) := by decide +kernel
theorem dL_usher_0 : decode cL_usher 0 = .ok (.aload_n 2, 1) := by decide +kernel
theorem dL_usher_1 : decode cL_usher 1 = .ok (.iconst 0, 1) := by decide +kernel
theorem dL_usher_2 : decode cL_usher 2 = .ok (.aload_n 0, 1) := by decide +kernel
theorem dL_usher_3 : decode cL_usher 3 = .ok (.iload_n 1, 1) := by decide +kernel
theorem dL_usher_4 : decode cL_usher 4 = .ok (.invokevirtual 95, 3) := by decide +kernel
theorem dL_usher_7 : decode cL_usher 7 = .ok (.i2l, 1) := by decide +kernel
theorem dL_usher_8 : decode cL_usher 8 = .ok (.lastore, 1) := by decide +kernel
theorem dL_usher_9 : decode cL_usher 9 = .ok (.goto 6, 3) := by decide +kernel
theorem dL_usher_12 : decode cL_usher 12 = .ok (.astore_n 3, 1) := by decide +kernel
theorem dL_usher_13 : decode cL_usher 13 = .ok (.iconst 1, 1) := by decide +kernel
theorem dL_usher_14 : decode cL_usher 14 = .ok (.ireturn, 1) := by decide +kernel
theorem dL_usher_15 : decode cL_usher 15 = .ok (.iconst 0, 1) := by decide +kernel
theorem dL_usher_16 : decode cL_usher 16 = .ok (.ireturn, 1) := by decide +kernel
theorem dL_lasts_0 : decode cL_lasts 0 = .ok (.aload_n 3, 1) := by decide +kernel
theorem dL_lasts_1 : decode cL_lasts 1 = .ok (.iconst 0, 1) := by decide +kernel
theorem dL_lasts_2 : decode cL_lasts 2 = .ok (.aload_n 0, 1) := by decide +kernel
theorem dL_lasts_3 : decode cL_lasts 3 = .ok (.iload_n 1, 1) := by decide +kernel
theorem dL_lasts_4 : decode cL_lasts 4 = .ok (.iload_n 2, 1) := by decide +kernel
theorem dL_lasts_5 : decode cL_lasts 5 = .ok (.invokevirtual 98, 3) := by decide +kernel
theorem dL_lasts_8 : decode cL_lasts 8 = .ok (.i2l, 1) := by decide +kernel
theorem dL_lasts_9 : decode cL_lasts 9 = .ok (.lastore, 1) := by decide +kernel
theorem dL_lasts_10 : decode cL_lasts 10 = .ok (.goto 7, 3) := by decide +kernel
theorem dL_lasts_13 : decode cL_lasts 13 = .ok (.astore 4, 2) := by decide +kernel
theorem dL_lasts_15 : decode cL_lasts 15 = .ok (.iconst 1, 1) := by decide +kernel
theorem dL_lasts_16 : decode cL_lasts 16 = .ok (.ireturn, 1) := by decide +kernel
theorem dL_lasts_17 : decode cL_lasts 17 = .ok (.iconst 0, 1) := by decide +kernel
theorem dL_lasts_18 : decode cL_lasts 18 = .ok (.ireturn, 1) := by decide +kernel
theorem dL_share_0 : decode cL_share 0 = .ok (.aload_n 3, 1) := by decide +kernel
theorem dL_share_1 : decode cL_share 1 = .ok (.iconst 0, 1) := by decide +kernel
theorem dL_share_2 : decode cL_share 2 = .ok (.aload_n 0, 1) := by decide +kernel
theorem dL_share_3 : decode cL_share 3 = .ok (.iload_n 1, 1) := by decide +kernel
theorem dL_share_4 : decode cL_share 4 = .ok (.iload_n 2, 1) := by decide +kernel
theorem dL_share_5 : decode cL_share 5 = .ok (.invokevirtual 101, 3) := by decide +kernel
theorem dL_share_8 : decode cL_share 8 = .ok (.i2l, 1) := by decide +kernel
theorem dL_share_9 : decode cL_share 9 = .ok (.lastore, 1) := by decide +kernel
theorem dL_share_10 : decode cL_share 10 = .ok (.goto 7, 3) := by decide +kernel
theorem dL_share_13 : decode cL_share 13 = .ok (.astore 4, 2) := by decide +kernel
theorem dL_share_15 : decode cL_share 15 = .ok (.iconst 1, 1) := by decide +kernel
theorem dL_share_16 : decode cL_share 16 = .ok (.ireturn, 1) := by decide +kernel
theorem dL_share_17 : decode cL_share 17 = .ok (.iconst 0, 1) := by decide +kernel
theorem dL_share_18 : decode cL_share 18 = .ok (.ireturn, 1) := by decide +kernel
theorem dL_trial_0 : decode cL_trial 0 = .ok (.aload_n 2, 1) := by decide +kernel
theorem dL_trial_1 : decode cL_trial 1 = .ok (.iconst 0, 1) := by decide +kernel
theorem dL_trial_2 : decode cL_trial 2 = .ok (.aload_n 0, 1) := by decide +kernel
theorem dL_trial_3 : decode cL_trial 3 = .ok (.iload_n 1, 1) := by decide +kernel
theorem dL_trial_4 : decode cL_trial 4 = .ok (.invokevirtual 104, 3) := by decide +kernel
theorem dL_trial_7 : decode cL_trial 7 = .ok (.i2l, 1) := by decide +kernel
theorem dL_trial_8 : decode cL_trial 8 = .ok (.lastore, 1) := by decide +kernel
theorem dL_trial_9 : decode cL_trial 9 = .ok (.goto 6, 3) := by decide +kernel
theorem dL_trial_12 : decode cL_trial 12 = .ok (.astore_n 3, 1) := by decide +kernel
theorem dL_trial_13 : decode cL_trial 13 = .ok (.iconst 1, 1) := by decide +kernel
theorem dL_trial_14 : decode cL_trial 14 = .ok (.ireturn, 1) := by decide +kernel
theorem dL_trial_15 : decode cL_trial 15 = .ok (.iconst 0, 1) := by decide +kernel
theorem dL_trial_16 : decode cL_trial 16 = .ok (.ireturn, 1) := by decide +kernel
theorem dL_span_0 : decode cL_span 0 = .ok (.aload_n 3, 1) := by decide +kernel
theorem dL_span_1 : decode cL_span 1 = .ok (.iconst 0, 1) := by decide +kernel
theorem dL_span_2 : decode cL_span 2 = .ok (.aload_n 0, 1) := by decide +kernel
theorem dL_span_3 : decode cL_span 3 = .ok (.iload_n 1, 1) := by decide +kernel
theorem dL_span_4 : decode cL_span 4 = .ok (.iload_n 2, 1) := by decide +kernel
theorem dL_span_5 : decode cL_span 5 = .ok (.invokevirtual 107, 3) := by decide +kernel
theorem dL_span_8 : decode cL_span 8 = .ok (.i2l, 1) := by decide +kernel
theorem dL_span_9 : decode cL_span 9 = .ok (.lastore, 1) := by decide +kernel
theorem dL_span_10 : decode cL_span 10 = .ok (.goto 7, 3) := by decide +kernel
theorem dL_span_13 : decode cL_span 13 = .ok (.astore 4, 2) := by decide +kernel
theorem dL_span_15 : decode cL_span 15 = .ok (.iconst 1, 1) := by decide +kernel
theorem dL_span_16 : decode cL_span 16 = .ok (.ireturn, 1) := by decide +kernel
theorem dL_span_17 : decode cL_span 17 = .ok (.iconst 0, 1) := by decide +kernel
theorem dL_span_18 : decode cL_span 18 = .ok (.ireturn, 1) := by decide +kernel
theorem dL_led_0 : decode cL_led 0 = .ok (.aload_n 3, 1) := by decide +kernel
theorem dL_led_1 : decode cL_led 1 = .ok (.iconst 0, 1) := by decide +kernel
theorem dL_led_2 : decode cL_led 2 = .ok (.aload_n 0, 1) := by decide +kernel
theorem dL_led_3 : decode cL_led 3 = .ok (.iload_n 1, 1) := by decide +kernel
theorem dL_led_4 : decode cL_led 4 = .ok (.iload_n 2, 1) := by decide +kernel
theorem dL_led_5 : decode cL_led 5 = .ok (.invokevirtual 110, 3) := by decide +kernel
theorem dL_led_8 : decode cL_led 8 = .ok (.i2l, 1) := by decide +kernel
theorem dL_led_9 : decode cL_led 9 = .ok (.lastore, 1) := by decide +kernel
theorem dL_led_10 : decode cL_led 10 = .ok (.goto 7, 3) := by decide +kernel
theorem dL_led_13 : decode cL_led 13 = .ok (.astore 4, 2) := by decide +kernel
theorem dL_led_15 : decode cL_led 15 = .ok (.iconst 1, 1) := by decide +kernel
theorem dL_led_16 : decode cL_led 16 = .ok (.ireturn, 1) := by decide +kernel
theorem dL_led_17 : decode cL_led 17 = .ok (.iconst 0, 1) := by decide +kernel
theorem dL_led_18 : decode cL_led 18 = .ok (.ireturn, 1) := by decide +kernel
theorem dL_log_0 : decode cL_log 0 = .ok (.aload_n 3, 1) := by decide +kernel
theorem dL_log_1 : decode cL_log 1 = .ok (.iconst 0, 1) := by decide +kernel
theorem dL_log_2 : decode cL_log 2 = .ok (.aload_n 0, 1) := by decide +kernel
theorem dL_log_3 : decode cL_log 3 = .ok (.iload_n 1, 1) := by decide +kernel
theorem dL_log_4 : decode cL_log 4 = .ok (.iload_n 2, 1) := by decide +kernel
theorem dL_log_5 : decode cL_log 5 = .ok (.invokevirtual 113, 3) := by decide +kernel
theorem dL_log_8 : decode cL_log 8 = .ok (.i2l, 1) := by decide +kernel
theorem dL_log_9 : decode cL_log 9 = .ok (.lastore, 1) := by decide +kernel
theorem dL_log_10 : decode cL_log 10 = .ok (.goto 7, 3) := by decide +kernel
theorem dL_log_13 : decode cL_log 13 = .ok (.astore 4, 2) := by decide +kernel
theorem dL_log_15 : decode cL_log 15 = .ok (.iconst 1, 1) := by decide +kernel
theorem dL_log_16 : decode cL_log 16 = .ok (.ireturn, 1) := by decide +kernel
theorem dL_log_17 : decode cL_log 17 = .ok (.iconst 0, 1) := by decide +kernel
theorem dL_log_18 : decode cL_log 18 = .ok (.ireturn, 1) := by decide +kernel
theorem wd_785 : Cond.codeWith yL_court cL_court 3 (some .int) [(0, 8, 11, 13), (0, 8, 14, 15)] ∈ g_T := g_T_ix 785 (by decide +kernel) rfl
theorem mw_130 : g_Mw RL 130 yL_court cL_court 3 (some .int) [(0, 8, 11, 13), (0, 8, 14, 15)] 2 := ⟨by decide +kernel, by decide, wd_783, wd_784, wd_110, wd_785⟩
theorem wd_965 : Cond.codeWith yL_law cL_law 3 (some .int) [(0, 8, 11, 13)] ∈ g_T := g_T_ix 965 (by decide +kernel) rfl
theorem mw_139 : g_Mw RL 139 yL_law cL_law 3 (some .int) [(0, 8, 11, 13)] 2 := ⟨by decide +kernel, by decide, wd_963, wd_964, wd_110, wd_965⟩
theorem wd_1042 : Cond.codeWith yL_prop cL_prop 5 (some .int) [(0, 10, 13, 24), (0, 10, 17, 26)] ∈ g_T := g_T_ix 1042 (by decide +kernel) rfl
theorem mw_146 : g_Mw RL 146 yL_prop cL_prop 5 (some .int) [(0, 10, 13, 24), (0, 10, 17, 26)] 4 := ⟨by decide +kernel, by decide, wd_1040, wd_1041, wd_110, wd_1042⟩
theorem wd_1087 : Cond.codeWith yL_slot cL_slot 4 (some .int) [(0, 9, 12, 24)] ∈ g_T := g_T_ix 1087 (by decide +kernel) rfl
theorem mw_150 : g_Mw RL 150 yL_slot cL_slot 4 (some .int) [(0, 9, 12, 24)] 3 := ⟨by decide +kernel, by decide, wd_1085, wd_1086, wd_110, wd_1087⟩
theorem wd_1099 : Cond.codeWith yL_accused cL_accused 5 (some .int) [(0, 10, 13, 24), (0, 10, 17, 26)] ∈ g_T := g_T_ix 1099 (by decide +kernel) rfl
theorem mw_154 : g_Mw RL 154 yL_accused cL_accused 5 (some .int) [(0, 10, 13, 24), (0, 10, 17, 26)] 4 := ⟨by decide +kernel, by decide, wd_1097, wd_1098, wd_110, wd_1099⟩
theorem wd_1112 : Cond.codeWith yL_fright cL_fright 7 (some .int) [(0, 14, 17, 24), (0, 14, 21, 13)] ∈ g_T := g_T_ix 1112 (by decide +kernel) rfl
theorem mw_157 : g_Mw RL 157 yL_fright cL_fright 7 (some .int) [(0, 14, 17, 24), (0, 14, 21, 13)] 6 := ⟨by decide +kernel, by decide, wd_1110, wd_1111, wd_110, wd_1112⟩
theorem wd_1123 : Cond.codeWith yL_send cL_send 4 (some .int) [(0, 9, 12, 24), (0, 9, 15, 42)] ∈ g_T := g_T_ix 1123 (by decide +kernel) rfl
theorem mw_161 : g_Mw RL 161 yL_send cL_send 4 (some .int) [(0, 9, 12, 24), (0, 9, 15, 42)] 3 := ⟨by decide +kernel, by decide, wd_1121, wd_1122, wd_110, wd_1123⟩
theorem wd_1166 : Cond.codeWith yL_nail cL_nail 4 (some .int) [(0, 6, 9, 24), (0, 6, 12, 42)] ∈ g_T := g_T_ix 1166 (by decide +kernel) rfl
theorem mw_164 : g_Mw RL 164 yL_nail cL_nail 4 (some .int) [(0, 6, 9, 24), (0, 6, 12, 42)] 3 := ⟨by decide +kernel, by decide, wd_1164, wd_1165, wd_110, wd_1166⟩
theorem wd_1175 : Cond.codeWith yL_down cL_down 4 (some .int) [(0, 9, 12, 24), (0, 9, 15, 42)] ∈ g_T := g_T_ix 1175 (by decide +kernel) rfl
theorem mw_168 : g_Mw RL 168 yL_down cL_down 4 (some .int) [(0, 9, 12, 24), (0, 9, 15, 42)] 3 := ⟨by decide +kernel, by decide, wd_1173, wd_1174, wd_110, wd_1175⟩
theorem wd_1183 : Cond.codeWith yL_mend cL_mend 4 (some .int) [(0, 9, 12, 24)] ∈ g_T := g_T_ix 1183 (by decide +kernel) rfl
theorem mw_171 : g_Mw RL 171 yL_mend cL_mend 4 (some .int) [(0, 9, 12, 24)] 3 := ⟨by decide +kernel, by decide, wd_1181, wd_1182, wd_110, wd_1183⟩
theorem wd_1190 : Cond.codeWith yL_recall cL_recall 3 (some .int) [(0, 5, 8, 24), (0, 5, 11, 42)] ∈ g_T := g_T_ix 1190 (by decide +kernel) rfl
theorem mw_174 : g_Mw RL 174 yL_recall cL_recall 3 (some .int) [(0, 5, 8, 24), (0, 5, 11, 42)] 2 := ⟨by decide +kernel, by decide, wd_1188, wd_1189, wd_110, wd_1190⟩
theorem wd_1197 : Cond.codeWith yL_inside cL_inside 4 (some .int) [(0, 9, 12, 24), (0, 9, 15, 42)] ∈ g_T := g_T_ix 1197 (by decide +kernel) rfl
theorem mw_178 : g_Mw RL 178 yL_inside cL_inside 4 (some .int) [(0, 9, 12, 24), (0, 9, 15, 42)] 3 := ⟨by decide +kernel, by decide, wd_1195, wd_1196, wd_110, wd_1197⟩
theorem wd_1204 : Cond.codeWith yL_calm cL_calm 4 (some .int) [(0, 9, 12, 13)] ∈ g_T := g_T_ix 1204 (by decide +kernel) rfl
theorem mw_181 : g_Mw RL 181 yL_calm cL_calm 4 (some .int) [(0, 9, 12, 13)] 3 := ⟨by decide +kernel, by decide, wd_1202, wd_1203, wd_110, wd_1204⟩
theorem wd_1212 : Cond.codeWith yL_mornings cL_mornings 4 (some .int) [(0, 9, 12, 13)] ∈ g_T := g_T_ix 1212 (by decide +kernel) rfl
theorem mw_184 : g_Mw RL 184 yL_mornings cL_mornings 4 (some .int) [(0, 9, 12, 13)] 3 := ⟨by decide +kernel, by decide, wd_1210, wd_1211, wd_110, wd_1212⟩
theorem wd_1222 : Cond.codeWith yL_straight cL_straight 4 (some .int) [(0, 9, 12, 24)] ∈ g_T := g_T_ix 1222 (by decide +kernel) rfl
theorem mw_187 : g_Mw RL 187 yL_straight cL_straight 4 (some .int) [(0, 9, 12, 24)] 3 := ⟨by decide +kernel, by decide, wd_1220, wd_1221, wd_110, wd_1222⟩
theorem wd_1233 : Cond.codeWith yL_tense cL_tense 5 (some .int) [(0, 10, 13, 24)] ∈ g_T := g_T_ix 1233 (by decide +kernel) rfl
theorem mw_190 : g_Mw RL 190 yL_tense cL_tense 5 (some .int) [(0, 10, 13, 24)] 4 := ⟨by decide +kernel, by decide, wd_1231, wd_1232, wd_110, wd_1233⟩
theorem wd_1240 : Cond.codeWith yL_ways cL_ways 4 (some .int) [(0, 9, 12, 24)] ∈ g_T := g_T_ix 1240 (by decide +kernel) rfl
theorem mw_193 : g_Mw RL 193 yL_ways cL_ways 4 (some .int) [(0, 9, 12, 24)] 3 := ⟨by decide +kernel, by decide, wd_1238, wd_1239, wd_110, wd_1240⟩
theorem wd_1247 : Cond.codeWith yL_at cL_at 5 (some .int) [(0, 10, 13, 24)] ∈ g_T := g_T_ix 1247 (by decide +kernel) rfl
theorem mw_196 : g_Mw RL 196 yL_at cL_at 5 (some .int) [(0, 10, 13, 24)] 4 := ⟨by decide +kernel, by decide, wd_1245, wd_1246, wd_110, wd_1247⟩
theorem wd_1254 : Cond.codeWith yL_odds cL_odds 4 (some .int) [(0, 9, 12, 24)] ∈ g_T := g_T_ix 1254 (by decide +kernel) rfl
theorem mw_199 : g_Mw RL 199 yL_odds cL_odds 4 (some .int) [(0, 9, 12, 24)] 3 := ⟨by decide +kernel, by decide, wd_1252, wd_1253, wd_110, wd_1254⟩
theorem wd_1261 : Cond.codeWith yL_found cL_found 5 (some .int) [(0, 10, 13, 13)] ∈ g_T := g_T_ix 1261 (by decide +kernel) rfl
theorem mw_219 : g_Mw RL 219 yL_found cL_found 5 (some .int) [(0, 10, 13, 13)] 4 := ⟨by decide +kernel, by decide, wd_1259, wd_1260, wd_110, wd_1261⟩
theorem wd_1299 : Cond.codeWith yL_ask cL_ask 4 (some .int) [(0, 9, 12, 13)] ∈ g_T := g_T_ix 1299 (by decide +kernel) rfl
theorem mw_223 : g_Mw RL 223 yL_ask cL_ask 4 (some .int) [(0, 9, 12, 13)] 3 := ⟨by decide +kernel, by decide, wd_1297, wd_1298, wd_110, wd_1299⟩
theorem wd_1317 : Cond.codeWith yL_car cL_car 5 (some .int) [(0, 10, 13, 24), (0, 10, 17, 13)] ∈ g_T := g_T_ix 1317 (by decide +kernel) rfl
theorem mw_226 : g_Mw RL 226 yL_car cL_car 5 (some .int) [(0, 10, 13, 24), (0, 10, 17, 13)] 4 := ⟨by decide +kernel, by decide, wd_1315, wd_1316, wd_110, wd_1317⟩
theorem wd_1331 : Cond.codeWith yL_corners cL_corners 4 (some .int) [(0, 9, 12, 24)] ∈ g_T := g_T_ix 1331 (by decide +kernel) rfl
theorem mw_229 : g_Mw RL 229 yL_corners cL_corners 4 (some .int) [(0, 9, 12, 24)] 3 := ⟨by decide +kernel, by decide, wd_1329, wd_1330, wd_110, wd_1331⟩
theorem wd_1338 : Cond.codeWith yL_usher cL_usher 4 (some .int) [(0, 9, 12, 24)] ∈ g_T := g_T_ix 1338 (by decide +kernel) rfl
theorem mw_248 : g_Mw RL 248 yL_usher cL_usher 4 (some .int) [(0, 9, 12, 24)] 3 := ⟨by decide +kernel, by decide, wd_1336, wd_1337, wd_110, wd_1338⟩
theorem wd_1349 : Cond.codeWith yL_lasts cL_lasts 5 (some .int) [(0, 10, 13, 24)] ∈ g_T := g_T_ix 1349 (by decide +kernel) rfl
theorem mw_251 : g_Mw RL 251 yL_lasts cL_lasts 5 (some .int) [(0, 10, 13, 24)] 4 := ⟨by decide +kernel, by decide, wd_1347, wd_1348, wd_110, wd_1349⟩
theorem wd_1356 : Cond.codeWith yL_share cL_share 5 (some .int) [(0, 10, 13, 24)] ∈ g_T := g_T_ix 1356 (by decide +kernel) rfl
theorem mw_258 : g_Mw RL 258 yL_share cL_share 5 (some .int) [(0, 10, 13, 24)] 4 := ⟨by decide +kernel, by decide, wd_1354, wd_1355, wd_110, wd_1356⟩
theorem wd_1363 : Cond.codeWith yL_trial cL_trial 4 (some .int) [(0, 9, 12, 13)] ∈ g_T := g_T_ix 1363 (by decide +kernel) rfl
theorem mw_265 : g_Mw RL 265 yL_trial cL_trial 4 (some .int) [(0, 9, 12, 13)] 3 := ⟨by decide +kernel, by decide, wd_1361, wd_1362, wd_110, wd_1363⟩
theorem wd_1379 : Cond.codeWith yL_span cL_span 5 (some .int) [(0, 10, 13, 13)] ∈ g_T := g_T_ix 1379 (by decide +kernel) rfl
theorem mw_268 : g_Mw RL 268 yL_span cL_span 5 (some .int) [(0, 10, 13, 13)] 4 := ⟨by decide +kernel, by decide, wd_1377, wd_1378, wd_110, wd_1379⟩
theorem wd_1386 : Cond.codeWith yL_led cL_led 5 (some .int) [(0, 10, 13, 24)] ∈ g_T := g_T_ix 1386 (by decide +kernel) rfl
theorem mw_271 : g_Mw RL 271 yL_led cL_led 5 (some .int) [(0, 10, 13, 24)] 4 := ⟨by decide +kernel, by decide, wd_1384, wd_1385, wd_110, wd_1386⟩
theorem wd_1397 : Cond.codeWith yL_log cL_log 5 (some .int) [(0, 10, 13, 26)] ∈ g_T := g_T_ix 1397 (by decide +kernel) rfl
theorem mw_274 : g_Mw RL 274 yL_log cL_log 5 (some .int) [(0, 10, 13, 26)] 4 := ⟨by decide +kernel, by decide, wd_1395, wd_1396, wd_110, wd_1397⟩
def cOw (ω : OW) (a ci : Nat) (k : Option (Int32 × OW)) : Option (Int32 × OW) := match ω a with
  | some (.inr (c, _)) => if c = ci then k else none
  | _ => none
theorem cOw_inv {ω : OW} {a ci : Nat} {k : Option (Int32 × OW)} {r : Int32 × OW} (h : cOw ω a ci k = some r) : ∃ fs, ω a = some (.inr (ci, fs)) ∧ k = some r := by
  unfold cOw at h
  split at h
  · split at h
    · rename_i hc; subst hc; exact ⟨_, by assumption, h⟩
    · cases h
  · cases h
def wrJ (Θ : GP) (out : Nat) (E1 : String) (R : RO) : Option (Int32 × OW) := match R with
  | some (.inl (some (.int x), ω, _)) => (match ω out with
    | some (.inl (c, len, .inr (.inl f))) => if c = gJ Θ ∧ 0 < len then some (0, g_upd ω out (.inl (gJ Θ, len, .inr (.inl (vp_updL f 0 x.toInt64))))) else none
    | _ => none)
  | some (.inr (E, ω)) => if E = E1 then some (1, ω) else none
  | _ => none
theorem wrJ_inv {Θ : GP} {out : Nat} {E1 : String} {R : RO} {x : Int32} {ω' : OW} (h : wrJ Θ out E1 R = some (x, ω')) : (∃ v ω n len f, R = some (.inl (some (.int v), ω, n)) ∧ ω out = some (.inl (gJ Θ, len, .inr (.inl f))) ∧ 0 < len ∧ x = 0 ∧ ω' = g_upd ω out (.inl (gJ Θ, len, .inr (.inl (vp_updL f 0 v.toInt64))))) ∨ (R = some (.inr (E1, ω')) ∧ x = 1) := by
  unfold wrJ at h
  split at h
  · split at h
    · split at h
      · rename_i hc
        obtain ⟨rfl, hl⟩ := hc
        cases h
        exact Or.inl ⟨_, _, _, _, _, rfl, by assumption, hl, rfl, rfl⟩
      · cases h
    · cases h
  · split at h
    · rename_i hc
      subst hc
      cases h
      exact Or.inr ⟨rfl, rfl⟩
    · cases h
  · cases h
def W_court (Θ : GP) (l0 : Nat) (l1 : Nat) (ω : OW) (n : Nat) : Option (Int32 × OW) := cOw ω l0 10 (wrI Θ l1 "java/lang/IllegalArgumentException" "java/lang/UnsupportedOperationException" (F_X10_court Θ l0 ω n))
theorem okW_court (Θ : GP) (l0 : Nat) (l1 : Nat) (ω : OW) (n : Nat) (x : Int32) (ω' : OW) (h : W_court Θ l0 l1 ω n = some (x, ω')) : ConW Θ 7 1 6 yL_court cL_court 3 (some .int) [(0, 8, 11, 13), (0, 8, 14, 15)] [.ref l0, .ref l1] ω n (qw x ω') := by
  unfold W_court at h
  obtain ⟨fs, ha, h⟩ := cOw_inv h
  refine ConW.of (by decide +kernel) (Nat.le_of_ble_eq_true rfl) ?_
  show G Θ yL_court cL_court 3 (some .int) 7 (tableOf [(0, 8, 11, 13), (0, 8, 14, 15)]) (qw x ω') noX (1, 6) 0 [(0, .ref l0), (1, .ref l1)] [] ω n
  refine g_aload_n dL_court_0 rfl 1 rfl ?_
  refine g_iconst (v := 0) dL_court_1 (by decide) ?_
  refine g_aload_n dL_court_2 rfl 0 rfl ?_
  rcases wrI_inv h with ⟨v1, ω1, n1, len, f, e1, e2, e3, rfl, rfl⟩ | ⟨e1, rfl⟩ | ⟨e1, rfl⟩
  · refine g_callVT (ci := 10) (As := []) mv_L_7 dL_court_3 rfl ha rfl rfl (Nat.le_of_ble_eq_true rfl) ((ok_X10_court Θ l0 _ _) _ e1) (by decide) (by decide) (by decide) (fun E ω' n' hq => by cases hq) ?_
    intro v ω' n' hv
    cases hv
    refine G.less (B' := (0, 0)) (by decide) (by decide) ?_
    refine g_i2l dL_court_6 ?_
    refine g_last dL_court_7 e2 (by unfold vp_in; simp; omega) ?_
    refine g_goto (tgt := 17) dL_court_8 (by decide) ?_
    refine g_iconst (v := 0) dL_court_17 (by decide) ?_
    exact g_iret rfl dL_court_18 ⟨rfl, rfl⟩
  · refine g_callVT (ci := 10) (As := []) mv_L_7 dL_court_3 rfl ha rfl rfl (Nat.le_of_ble_eq_true rfl) ((ok_X10_court Θ l0 _ _) _ e1) (by decide) (by decide) (by decide) ?_ (fun v ω' n' hv => by cases hv)
    intro E ω' n' hq
    cases hq
    refine ⟨[], _, _, "java/lang/IllegalArgumentException", rfl, (fun z hz => by cases hz), by decide, by decide, wd_786, by decide +kernel, fun q => ?_⟩
    refine G.less (B' := (0, 0)) (by decide) (by decide) ?_
    refine g_astore_n (lv' := [(2, .ref q), (0, .ref l0), (1, .ref l1)]) dL_court_11 rfl (by decide) rfl ?_
    refine g_iconst (v := 1) dL_court_12 (by decide) ?_
    exact g_iret rfl dL_court_13 ⟨rfl, rfl⟩
  · refine g_callVT (ci := 10) (As := []) mv_L_7 dL_court_3 rfl ha rfl rfl (Nat.le_of_ble_eq_true rfl) ((ok_X10_court Θ l0 _ _) _ e1) (by decide) (by decide) (by decide) ?_ (fun v ω' n' hv => by cases hv)
    intro E ω' n' hq
    cases hq
    refine ⟨[_], _, _, "java/lang/UnsupportedOperationException", rfl, (fun z hz => by cases List.mem_singleton.mp hz; exact Or.inr ⟨by decide, "java/lang/IllegalArgumentException", wd_786, by decide⟩), by decide, by decide, wd_787, by decide +kernel, fun q => ?_⟩
    refine G.less (B' := (0, 0)) (by decide) (by decide) ?_
    refine g_astore_n (lv' := [(2, .ref q), (0, .ref l0), (1, .ref l1)]) dL_court_14 rfl (by decide) rfl ?_
    refine g_iconst (v := 2) dL_court_15 (by decide) ?_
    exact g_iret rfl dL_court_16 ⟨rfl, rfl⟩
def W_slot (Θ : GP) (l0 : Nat) (l1 : Int32) (l2 : Nat) (ω : OW) (n : Nat) : Option (Int32 × OW) := cOw ω l0 10 (wrJ Θ l2 "java/lang/IndexOutOfBoundsException"  (F_X10_slot Θ l0 l1 ω n))
theorem okW_slot (Θ : GP) (l0 : Nat) (l1 : Int32) (l2 : Nat) (ω : OW) (n : Nat) (x : Int32) (ω' : OW) (h : W_slot Θ l0 l1 l2 ω n = some (x, ω')) : ConW Θ 8 1 6 yL_slot cL_slot 4 (some .int) [(0, 9, 12, 24)] [.ref l0, .int l1, .ref l2] ω n (qw x ω') := by
  unfold W_slot at h
  obtain ⟨fs, ha, h⟩ := cOw_inv h
  refine ConW.of (by decide +kernel) (Nat.le_of_ble_eq_true rfl) ?_
  show G Θ yL_slot cL_slot 4 (some .int) 8 (tableOf [(0, 9, 12, 24)]) (qw x ω') noX (1, 6) 0 [(0, .ref l0), (1, .int l1), (2, .ref l2)] [] ω n
  refine g_aload_n dL_slot_0 rfl 2 rfl ?_
  refine g_iconst (v := 0) dL_slot_1 (by decide) ?_
  refine g_aload_n dL_slot_2 rfl 0 rfl ?_
  refine g_iload_n dL_slot_3 rfl 1 rfl ?_
  rcases wrJ_inv h with ⟨v1, ω1, n1, len, f, e1, e2, e3, rfl, rfl⟩ | ⟨e1, rfl⟩
  · refine g_callVT (ci := 10) (As := [.int l1]) mv_L_28 dL_slot_4 rfl ha rfl rfl (Nat.le_of_ble_eq_true rfl) ((ok_X10_slot Θ l0 l1 _ _) _ e1) (by decide) (by decide) (by decide) (fun E ω' n' hq => by cases hq) ?_
    intro v ω' n' hv
    cases hv
    refine G.less (B' := (0, 0)) (by decide) (by decide) ?_
    refine g_i2l dL_slot_7 ?_
    refine g_last dL_slot_8 e2 (by unfold vp_in; simp; omega) ?_
    refine g_goto (tgt := 15) dL_slot_9 (by decide) ?_
    refine g_iconst (v := 0) dL_slot_15 (by decide) ?_
    exact g_iret rfl dL_slot_16 ⟨rfl, rfl⟩
  · refine g_callVT (ci := 10) (As := [.int l1]) mv_L_28 dL_slot_4 rfl ha rfl rfl (Nat.le_of_ble_eq_true rfl) ((ok_X10_slot Θ l0 l1 _ _) _ e1) (by decide) (by decide) (by decide) ?_ (fun v ω' n' hv => by cases hv)
    intro E ω' n' hq
    cases hq
    refine ⟨[], _, _, "java/lang/IndexOutOfBoundsException", rfl, (fun z hz => by cases hz), by decide, by decide, wd_1043, by decide +kernel, fun q => ?_⟩
    refine G.less (B' := (0, 0)) (by decide) (by decide) ?_
    refine g_astore_n (lv' := [(3, .ref q), (0, .ref l0), (1, .int l1), (2, .ref l2)]) dL_slot_12 rfl (by decide) rfl ?_
    refine g_iconst (v := 1) dL_slot_13 (by decide) ?_
    exact g_iret rfl dL_slot_14 ⟨rfl, rfl⟩
def W_fright (Θ : GP) (l0 : Nat) (l1 : Int32) (l2 : Int32) (l3 : Int32) (l4 : Int32) (l5 : Nat) (ω : OW) (n : Nat) : Option (Int32 × OW) := cOw ω l0 10 (wrI Θ l5 "java/lang/IndexOutOfBoundsException" "java/lang/IllegalArgumentException" (F_X10_fright Θ l0 l1 l2 l3 l4 ω n))
theorem okW_fright (Θ : GP) (l0 : Nat) (l1 : Int32) (l2 : Int32) (l3 : Int32) (l4 : Int32) (l5 : Nat) (ω : OW) (n : Nat) (x : Int32) (ω' : OW) (h : W_fright Θ l0 l1 l2 l3 l4 l5 ω n = some (x, ω')) : ConW Θ 8 3 18 yL_fright cL_fright 7 (some .int) [(0, 14, 17, 24), (0, 14, 21, 13)] [.ref l0, .int l1, .int l2, .int l3, .int l4, .ref l5] ω n (qw x ω') := by
  unfold W_fright at h
  obtain ⟨fs, ha, h⟩ := cOw_inv h
  refine ConW.of (by decide +kernel) (Nat.le_of_ble_eq_true rfl) ?_
  show G Θ yL_fright cL_fright 7 (some .int) 8 (tableOf [(0, 14, 17, 24), (0, 14, 21, 13)]) (qw x ω') noX (3, 18) 0 [(0, .ref l0), (1, .int l1), (2, .int l2), (3, .int l3), (4, .int l4), (5, .ref l5)] [] ω n
  refine g_aload dL_fright_0 5 rfl ?_
  refine g_iconst (v := 0) dL_fright_2 (by decide) ?_
  refine g_aload_n dL_fright_3 rfl 0 rfl ?_
  refine g_iload_n dL_fright_4 rfl 1 rfl ?_
  refine g_iload_n dL_fright_5 rfl 2 rfl ?_
  refine g_iload_n dL_fright_6 rfl 3 rfl ?_
  refine g_iload dL_fright_7 4 rfl ?_
  rcases wrI_inv h with ⟨v1, ω1, n1, len, f, e1, e2, e3, rfl, rfl⟩ | ⟨e1, rfl⟩ | ⟨e1, rfl⟩
  · refine g_callVT (ci := 10) (As := [.int l1, .int l2, .int l3, .int l4]) mv_L_35 dL_fright_9 rfl ha rfl rfl (Nat.le_of_ble_eq_true rfl) ((ok_X10_fright Θ l0 l1 l2 l3 l4 _ _) _ e1) (by decide) (by decide) (by decide) (fun E ω' n' hq => by cases hq) ?_
    intro v ω' n' hv
    cases hv
    refine G.less (B' := (0, 0)) (by decide) (by decide) ?_
    refine g_i2l dL_fright_12 ?_
    refine g_last dL_fright_13 e2 (by unfold vp_in; simp; omega) ?_
    refine g_goto (tgt := 25) dL_fright_14 (by decide) ?_
    refine g_iconst (v := 0) dL_fright_25 (by decide) ?_
    exact g_iret rfl dL_fright_26 ⟨rfl, rfl⟩
  · refine g_callVT (ci := 10) (As := [.int l1, .int l2, .int l3, .int l4]) mv_L_35 dL_fright_9 rfl ha rfl rfl (Nat.le_of_ble_eq_true rfl) ((ok_X10_fright Θ l0 l1 l2 l3 l4 _ _) _ e1) (by decide) (by decide) (by decide) ?_ (fun v ω' n' hv => by cases hv)
    intro E ω' n' hq
    cases hq
    refine ⟨[], _, _, "java/lang/IndexOutOfBoundsException", rfl, (fun z hz => by cases hz), by decide, by decide, wd_1043, by decide +kernel, fun q => ?_⟩
    refine G.less (B' := (0, 0)) (by decide) (by decide) ?_
    refine g_astore (lv' := [(6, .ref q), (0, .ref l0), (1, .int l1), (2, .int l2), (3, .int l3), (4, .int l4), (5, .ref l5)]) dL_fright_17 (by decide) rfl ?_
    refine g_iconst (v := 1) dL_fright_19 (by decide) ?_
    exact g_iret rfl dL_fright_20 ⟨rfl, rfl⟩
  · refine g_callVT (ci := 10) (As := [.int l1, .int l2, .int l3, .int l4]) mv_L_35 dL_fright_9 rfl ha rfl rfl (Nat.le_of_ble_eq_true rfl) ((ok_X10_fright Θ l0 l1 l2 l3 l4 _ _) _ e1) (by decide) (by decide) (by decide) ?_ (fun v ω' n' hv => by cases hv)
    intro E ω' n' hq
    cases hq
    refine ⟨[_], _, _, "java/lang/IllegalArgumentException", rfl, (fun z hz => by cases List.mem_singleton.mp hz; exact Or.inr ⟨by decide, "java/lang/IndexOutOfBoundsException", wd_1043, by decide⟩), by decide, by decide, wd_786, by decide +kernel, fun q => ?_⟩
    refine G.less (B' := (0, 0)) (by decide) (by decide) ?_
    refine g_astore (lv' := [(6, .ref q), (0, .ref l0), (1, .int l1), (2, .int l2), (3, .int l3), (4, .int l4), (5, .ref l5)]) dL_fright_21 (by decide) rfl ?_
    refine g_iconst (v := 2) dL_fright_23 (by decide) ?_
    exact g_iret rfl dL_fright_24 ⟨rfl, rfl⟩
def W_send (Θ : GP) (l0 : Nat) (l1 : Int32) (l2 : Nat) (ω : OW) (n : Nat) : Option (Int32 × OW) := cOw ω l0 10 (wrI Θ l2 "java/lang/IndexOutOfBoundsException" "java/lang/IllegalStateException" (F_X10_send Θ l0 l1 ω n))
theorem okW_send (Θ : GP) (l0 : Nat) (l1 : Int32) (l2 : Nat) (ω : OW) (n : Nat) (x : Int32) (ω' : OW) (h : W_send Θ l0 l1 l2 ω n = some (x, ω')) : ConW Θ 8 2 12 yL_send cL_send 4 (some .int) [(0, 9, 12, 24), (0, 9, 15, 42)] [.ref l0, .int l1, .ref l2] ω n (qw x ω') := by
  unfold W_send at h
  obtain ⟨fs, ha, h⟩ := cOw_inv h
  refine ConW.of (by decide +kernel) (Nat.le_of_ble_eq_true rfl) ?_
  show G Θ yL_send cL_send 4 (some .int) 8 (tableOf [(0, 9, 12, 24), (0, 9, 15, 42)]) (qw x ω') noX (2, 12) 0 [(0, .ref l0), (1, .int l1), (2, .ref l2)] [] ω n
  refine g_aload_n dL_send_0 rfl 2 rfl ?_
  refine g_iconst (v := 0) dL_send_1 (by decide) ?_
  refine g_aload_n dL_send_2 rfl 0 rfl ?_
  refine g_iload_n dL_send_3 rfl 1 rfl ?_
  rcases wrI_inv h with ⟨v1, ω1, n1, len, f, e1, e2, e3, rfl, rfl⟩ | ⟨e1, rfl⟩ | ⟨e1, rfl⟩
  · refine g_callVT (ci := 10) (As := [.int l1]) mv_L_39 dL_send_4 rfl ha rfl rfl (Nat.le_of_ble_eq_true rfl) ((ok_X10_send Θ l0 l1 _ _) _ e1) (by decide) (by decide) (by decide) (fun E ω' n' hq => by cases hq) ?_
    intro v ω' n' hv
    cases hv
    refine G.less (B' := (0, 0)) (by decide) (by decide) ?_
    refine g_i2l dL_send_7 ?_
    refine g_last dL_send_8 e2 (by unfold vp_in; simp; omega) ?_
    refine g_goto (tgt := 18) dL_send_9 (by decide) ?_
    refine g_iconst (v := 0) dL_send_18 (by decide) ?_
    exact g_iret rfl dL_send_19 ⟨rfl, rfl⟩
  · refine g_callVT (ci := 10) (As := [.int l1]) mv_L_39 dL_send_4 rfl ha rfl rfl (Nat.le_of_ble_eq_true rfl) ((ok_X10_send Θ l0 l1 _ _) _ e1) (by decide) (by decide) (by decide) ?_ (fun v ω' n' hv => by cases hv)
    intro E ω' n' hq
    cases hq
    refine ⟨[], _, _, "java/lang/IndexOutOfBoundsException", rfl, (fun z hz => by cases hz), by decide, by decide, wd_1043, by decide +kernel, fun q => ?_⟩
    refine G.less (B' := (0, 0)) (by decide) (by decide) ?_
    refine g_astore_n (lv' := [(3, .ref q), (0, .ref l0), (1, .int l1), (2, .ref l2)]) dL_send_12 rfl (by decide) rfl ?_
    refine g_iconst (v := 1) dL_send_13 (by decide) ?_
    exact g_iret rfl dL_send_14 ⟨rfl, rfl⟩
  · refine g_callVT (ci := 10) (As := [.int l1]) mv_L_39 dL_send_4 rfl ha rfl rfl (Nat.le_of_ble_eq_true rfl) ((ok_X10_send Θ l0 l1 _ _) _ e1) (by decide) (by decide) (by decide) ?_ (fun v ω' n' hv => by cases hv)
    intro E ω' n' hq
    cases hq
    refine ⟨[_], _, _, "java/lang/IllegalStateException", rfl, (fun z hz => by cases List.mem_singleton.mp hz; exact Or.inr ⟨by decide, "java/lang/IndexOutOfBoundsException", wd_1043, by decide⟩), by decide, by decide, wd_1124, by decide +kernel, fun q => ?_⟩
    refine G.less (B' := (0, 0)) (by decide) (by decide) ?_
    refine g_astore_n (lv' := [(3, .ref q), (0, .ref l0), (1, .int l1), (2, .ref l2)]) dL_send_15 rfl (by decide) rfl ?_
    refine g_iconst (v := 2) dL_send_16 (by decide) ?_
    exact g_iret rfl dL_send_17 ⟨rfl, rfl⟩
def W_nail (Θ : GP) (l0 : Nat) (l1 : Int32) (l2 : Int32) (ω : OW) (n : Nat) : Option (Int32 × OW) := cOw ω l0 10 (wrV "java/lang/IndexOutOfBoundsException" "java/lang/IllegalStateException" (F_X10_nail Θ l0 l1 l2 ω n))
theorem okW_nail (Θ : GP) (l0 : Nat) (l1 : Int32) (l2 : Int32) (ω : OW) (n : Nat) (x : Int32) (ω' : OW) (h : W_nail Θ l0 l1 l2 ω n = some (x, ω')) : ConW Θ 8 3 18 yL_nail cL_nail 4 (some .int) [(0, 6, 9, 24), (0, 6, 12, 42)] [.ref l0, .int l1, .int l2] ω n (qw x ω') := by
  unfold W_nail at h
  obtain ⟨fs, ha, h⟩ := cOw_inv h
  refine ConW.of (by decide +kernel) (Nat.le_of_ble_eq_true rfl) ?_
  show G Θ yL_nail cL_nail 4 (some .int) 8 (tableOf [(0, 6, 9, 24), (0, 6, 12, 42)]) (qw x ω') noX (3, 18) 0 [(0, .ref l0), (1, .int l1), (2, .int l2)] [] ω n
  refine g_aload_n dL_nail_0 rfl 0 rfl ?_
  refine g_iload_n dL_nail_1 rfl 1 rfl ?_
  refine g_iload_n dL_nail_2 rfl 2 rfl ?_
  rcases wrV_inv h with ⟨n1, e1, rfl⟩ | ⟨e1, rfl⟩ | ⟨e1, rfl⟩
  · refine g_callVT (ci := 10) (As := [.int l1, .int l2]) mv_L_44 dL_nail_3 rfl ha rfl rfl (Nat.le_of_ble_eq_true rfl) ((ok_X10_nail Θ l0 l1 l2 _ _) _ e1) (by decide) (by decide) (by decide) (fun E ω' n' hq => by cases hq) ?_
    intro v ω' n' hv
    cases hv
    refine G.less (B' := (0, 0)) (by decide) (by decide) ?_
    refine g_goto (tgt := 15) dL_nail_6 (by decide) ?_
    refine g_iconst (v := 0) dL_nail_15 (by decide) ?_
    exact g_iret rfl dL_nail_16 ⟨rfl, rfl⟩
  · refine g_callVT (ci := 10) (As := [.int l1, .int l2]) mv_L_44 dL_nail_3 rfl ha rfl rfl (Nat.le_of_ble_eq_true rfl) ((ok_X10_nail Θ l0 l1 l2 _ _) _ e1) (by decide) (by decide) (by decide) ?_ (fun v ω' n' hv => by cases hv)
    intro E ω' n' hq
    cases hq
    refine ⟨[], _, _, "java/lang/IndexOutOfBoundsException", rfl, (fun z hz => by cases hz), by decide, by decide, wd_1043, by decide +kernel, fun q => ?_⟩
    refine G.less (B' := (0, 0)) (by decide) (by decide) ?_
    refine g_astore_n (lv' := [(3, .ref q), (0, .ref l0), (1, .int l1), (2, .int l2)]) dL_nail_9 rfl (by decide) rfl ?_
    refine g_iconst (v := 1) dL_nail_10 (by decide) ?_
    exact g_iret rfl dL_nail_11 ⟨rfl, rfl⟩
  · refine g_callVT (ci := 10) (As := [.int l1, .int l2]) mv_L_44 dL_nail_3 rfl ha rfl rfl (Nat.le_of_ble_eq_true rfl) ((ok_X10_nail Θ l0 l1 l2 _ _) _ e1) (by decide) (by decide) (by decide) ?_ (fun v ω' n' hv => by cases hv)
    intro E ω' n' hq
    cases hq
    refine ⟨[_], _, _, "java/lang/IllegalStateException", rfl, (fun z hz => by cases List.mem_singleton.mp hz; exact Or.inr ⟨by decide, "java/lang/IndexOutOfBoundsException", wd_1043, by decide⟩), by decide, by decide, wd_1124, by decide +kernel, fun q => ?_⟩
    refine G.less (B' := (0, 0)) (by decide) (by decide) ?_
    refine g_astore_n (lv' := [(3, .ref q), (0, .ref l0), (1, .int l1), (2, .int l2)]) dL_nail_12 rfl (by decide) rfl ?_
    refine g_iconst (v := 2) dL_nail_13 (by decide) ?_
    exact g_iret rfl dL_nail_14 ⟨rfl, rfl⟩
def W_down (Θ : GP) (l0 : Nat) (l1 : Int32) (l2 : Nat) (ω : OW) (n : Nat) : Option (Int32 × OW) := cOw ω l0 10 (wrI Θ l2 "java/lang/IndexOutOfBoundsException" "java/lang/IllegalStateException" (F_X10_down Θ l0 l1 ω n))
theorem okW_down (Θ : GP) (l0 : Nat) (l1 : Int32) (l2 : Nat) (ω : OW) (n : Nat) (x : Int32) (ω' : OW) (h : W_down Θ l0 l1 l2 ω n = some (x, ω')) : ConW Θ 8 2 12 yL_down cL_down 4 (some .int) [(0, 9, 12, 24), (0, 9, 15, 42)] [.ref l0, .int l1, .ref l2] ω n (qw x ω') := by
  unfold W_down at h
  obtain ⟨fs, ha, h⟩ := cOw_inv h
  refine ConW.of (by decide +kernel) (Nat.le_of_ble_eq_true rfl) ?_
  show G Θ yL_down cL_down 4 (some .int) 8 (tableOf [(0, 9, 12, 24), (0, 9, 15, 42)]) (qw x ω') noX (2, 12) 0 [(0, .ref l0), (1, .int l1), (2, .ref l2)] [] ω n
  refine g_aload_n dL_down_0 rfl 2 rfl ?_
  refine g_iconst (v := 0) dL_down_1 (by decide) ?_
  refine g_aload_n dL_down_2 rfl 0 rfl ?_
  refine g_iload_n dL_down_3 rfl 1 rfl ?_
  rcases wrI_inv h with ⟨v1, ω1, n1, len, f, e1, e2, e3, rfl, rfl⟩ | ⟨e1, rfl⟩ | ⟨e1, rfl⟩
  · refine g_callVT (ci := 10) (As := [.int l1]) mv_L_48 dL_down_4 rfl ha rfl rfl (Nat.le_of_ble_eq_true rfl) ((ok_X10_down Θ l0 l1 _ _) _ e1) (by decide) (by decide) (by decide) (fun E ω' n' hq => by cases hq) ?_
    intro v ω' n' hv
    cases hv
    refine G.less (B' := (0, 0)) (by decide) (by decide) ?_
    refine g_i2l dL_down_7 ?_
    refine g_last dL_down_8 e2 (by unfold vp_in; simp; omega) ?_
    refine g_goto (tgt := 18) dL_down_9 (by decide) ?_
    refine g_iconst (v := 0) dL_down_18 (by decide) ?_
    exact g_iret rfl dL_down_19 ⟨rfl, rfl⟩
  · refine g_callVT (ci := 10) (As := [.int l1]) mv_L_48 dL_down_4 rfl ha rfl rfl (Nat.le_of_ble_eq_true rfl) ((ok_X10_down Θ l0 l1 _ _) _ e1) (by decide) (by decide) (by decide) ?_ (fun v ω' n' hv => by cases hv)
    intro E ω' n' hq
    cases hq
    refine ⟨[], _, _, "java/lang/IndexOutOfBoundsException", rfl, (fun z hz => by cases hz), by decide, by decide, wd_1043, by decide +kernel, fun q => ?_⟩
    refine G.less (B' := (0, 0)) (by decide) (by decide) ?_
    refine g_astore_n (lv' := [(3, .ref q), (0, .ref l0), (1, .int l1), (2, .ref l2)]) dL_down_12 rfl (by decide) rfl ?_
    refine g_iconst (v := 1) dL_down_13 (by decide) ?_
    exact g_iret rfl dL_down_14 ⟨rfl, rfl⟩
  · refine g_callVT (ci := 10) (As := [.int l1]) mv_L_48 dL_down_4 rfl ha rfl rfl (Nat.le_of_ble_eq_true rfl) ((ok_X10_down Θ l0 l1 _ _) _ e1) (by decide) (by decide) (by decide) ?_ (fun v ω' n' hv => by cases hv)
    intro E ω' n' hq
    cases hq
    refine ⟨[_], _, _, "java/lang/IllegalStateException", rfl, (fun z hz => by cases List.mem_singleton.mp hz; exact Or.inr ⟨by decide, "java/lang/IndexOutOfBoundsException", wd_1043, by decide⟩), by decide, by decide, wd_1124, by decide +kernel, fun q => ?_⟩
    refine G.less (B' := (0, 0)) (by decide) (by decide) ?_
    refine g_astore_n (lv' := [(3, .ref q), (0, .ref l0), (1, .int l1), (2, .ref l2)]) dL_down_15 rfl (by decide) rfl ?_
    refine g_iconst (v := 2) dL_down_16 (by decide) ?_
    exact g_iret rfl dL_down_17 ⟨rfl, rfl⟩
def W_mend (Θ : GP) (l0 : Nat) (l1 : Int32) (l2 : Nat) (ω : OW) (n : Nat) : Option (Int32 × OW) := cOw ω l0 10 (wrJ Θ l2 "java/lang/IndexOutOfBoundsException"  (F_X10_mend Θ l0 l1 ω n))
theorem okW_mend (Θ : GP) (l0 : Nat) (l1 : Int32) (l2 : Nat) (ω : OW) (n : Nat) (x : Int32) (ω' : OW) (h : W_mend Θ l0 l1 l2 ω n = some (x, ω')) : ConW Θ 8 1 6 yL_mend cL_mend 4 (some .int) [(0, 9, 12, 24)] [.ref l0, .int l1, .ref l2] ω n (qw x ω') := by
  unfold W_mend at h
  obtain ⟨fs, ha, h⟩ := cOw_inv h
  refine ConW.of (by decide +kernel) (Nat.le_of_ble_eq_true rfl) ?_
  show G Θ yL_mend cL_mend 4 (some .int) 8 (tableOf [(0, 9, 12, 24)]) (qw x ω') noX (1, 6) 0 [(0, .ref l0), (1, .int l1), (2, .ref l2)] [] ω n
  refine g_aload_n dL_mend_0 rfl 2 rfl ?_
  refine g_iconst (v := 0) dL_mend_1 (by decide) ?_
  refine g_aload_n dL_mend_2 rfl 0 rfl ?_
  refine g_iload_n dL_mend_3 rfl 1 rfl ?_
  rcases wrJ_inv h with ⟨v1, ω1, n1, len, f, e1, e2, e3, rfl, rfl⟩ | ⟨e1, rfl⟩
  · refine g_callVT (ci := 10) (As := [.int l1]) mv_L_51 dL_mend_4 rfl ha rfl rfl (Nat.le_of_ble_eq_true rfl) ((ok_X10_mend Θ l0 l1 _ _) _ e1) (by decide) (by decide) (by decide) (fun E ω' n' hq => by cases hq) ?_
    intro v ω' n' hv
    cases hv
    refine G.less (B' := (0, 0)) (by decide) (by decide) ?_
    refine g_i2l dL_mend_7 ?_
    refine g_last dL_mend_8 e2 (by unfold vp_in; simp; omega) ?_
    refine g_goto (tgt := 15) dL_mend_9 (by decide) ?_
    refine g_iconst (v := 0) dL_mend_15 (by decide) ?_
    exact g_iret rfl dL_mend_16 ⟨rfl, rfl⟩
  · refine g_callVT (ci := 10) (As := [.int l1]) mv_L_51 dL_mend_4 rfl ha rfl rfl (Nat.le_of_ble_eq_true rfl) ((ok_X10_mend Θ l0 l1 _ _) _ e1) (by decide) (by decide) (by decide) ?_ (fun v ω' n' hv => by cases hv)
    intro E ω' n' hq
    cases hq
    refine ⟨[], _, _, "java/lang/IndexOutOfBoundsException", rfl, (fun z hz => by cases hz), by decide, by decide, wd_1043, by decide +kernel, fun q => ?_⟩
    refine G.less (B' := (0, 0)) (by decide) (by decide) ?_
    refine g_astore_n (lv' := [(3, .ref q), (0, .ref l0), (1, .int l1), (2, .ref l2)]) dL_mend_12 rfl (by decide) rfl ?_
    refine g_iconst (v := 1) dL_mend_13 (by decide) ?_
    exact g_iret rfl dL_mend_14 ⟨rfl, rfl⟩
def W_recall (Θ : GP) (l0 : Nat) (l1 : Int32) (ω : OW) (n : Nat) : Option (Int32 × OW) := cOw ω l0 10 (wrV "java/lang/IndexOutOfBoundsException" "java/lang/IllegalStateException" (F_X10_recall Θ l0 l1 ω n))
theorem okW_recall (Θ : GP) (l0 : Nat) (l1 : Int32) (ω : OW) (n : Nat) (x : Int32) (ω' : OW) (h : W_recall Θ l0 l1 ω n = some (x, ω')) : ConW Θ 8 2 12 yL_recall cL_recall 3 (some .int) [(0, 5, 8, 24), (0, 5, 11, 42)] [.ref l0, .int l1] ω n (qw x ω') := by
  unfold W_recall at h
  obtain ⟨fs, ha, h⟩ := cOw_inv h
  refine ConW.of (by decide +kernel) (Nat.le_of_ble_eq_true rfl) ?_
  show G Θ yL_recall cL_recall 3 (some .int) 8 (tableOf [(0, 5, 8, 24), (0, 5, 11, 42)]) (qw x ω') noX (2, 12) 0 [(0, .ref l0), (1, .int l1)] [] ω n
  refine g_aload_n dL_recall_0 rfl 0 rfl ?_
  refine g_iload_n dL_recall_1 rfl 1 rfl ?_
  rcases wrV_inv h with ⟨n1, e1, rfl⟩ | ⟨e1, rfl⟩ | ⟨e1, rfl⟩
  · refine g_callVT (ci := 10) (As := [.int l1]) mv_L_54 dL_recall_2 rfl ha rfl rfl (Nat.le_of_ble_eq_true rfl) ((ok_X10_recall Θ l0 l1 _ _) _ e1) (by decide) (by decide) (by decide) (fun E ω' n' hq => by cases hq) ?_
    intro v ω' n' hv
    cases hv
    refine G.less (B' := (0, 0)) (by decide) (by decide) ?_
    refine g_goto (tgt := 14) dL_recall_5 (by decide) ?_
    refine g_iconst (v := 0) dL_recall_14 (by decide) ?_
    exact g_iret rfl dL_recall_15 ⟨rfl, rfl⟩
  · refine g_callVT (ci := 10) (As := [.int l1]) mv_L_54 dL_recall_2 rfl ha rfl rfl (Nat.le_of_ble_eq_true rfl) ((ok_X10_recall Θ l0 l1 _ _) _ e1) (by decide) (by decide) (by decide) ?_ (fun v ω' n' hv => by cases hv)
    intro E ω' n' hq
    cases hq
    refine ⟨[], _, _, "java/lang/IndexOutOfBoundsException", rfl, (fun z hz => by cases hz), by decide, by decide, wd_1043, by decide +kernel, fun q => ?_⟩
    refine G.less (B' := (0, 0)) (by decide) (by decide) ?_
    refine g_astore_n (lv' := [(2, .ref q), (0, .ref l0), (1, .int l1)]) dL_recall_8 rfl (by decide) rfl ?_
    refine g_iconst (v := 1) dL_recall_9 (by decide) ?_
    exact g_iret rfl dL_recall_10 ⟨rfl, rfl⟩
  · refine g_callVT (ci := 10) (As := [.int l1]) mv_L_54 dL_recall_2 rfl ha rfl rfl (Nat.le_of_ble_eq_true rfl) ((ok_X10_recall Θ l0 l1 _ _) _ e1) (by decide) (by decide) (by decide) ?_ (fun v ω' n' hv => by cases hv)
    intro E ω' n' hq
    cases hq
    refine ⟨[_], _, _, "java/lang/IllegalStateException", rfl, (fun z hz => by cases List.mem_singleton.mp hz; exact Or.inr ⟨by decide, "java/lang/IndexOutOfBoundsException", wd_1043, by decide⟩), by decide, by decide, wd_1124, by decide +kernel, fun q => ?_⟩
    refine G.less (B' := (0, 0)) (by decide) (by decide) ?_
    refine g_astore_n (lv' := [(2, .ref q), (0, .ref l0), (1, .int l1)]) dL_recall_11 rfl (by decide) rfl ?_
    refine g_iconst (v := 2) dL_recall_12 (by decide) ?_
    exact g_iret rfl dL_recall_13 ⟨rfl, rfl⟩
def W_inside (Θ : GP) (l0 : Nat) (l1 : Int32) (l2 : Nat) (ω : OW) (n : Nat) : Option (Int32 × OW) := cOw ω l0 10 (wrI Θ l2 "java/lang/IndexOutOfBoundsException" "java/lang/IllegalStateException" (F_X10_inside Θ l0 l1 ω n))
theorem okW_inside (Θ : GP) (l0 : Nat) (l1 : Int32) (l2 : Nat) (ω : OW) (n : Nat) (x : Int32) (ω' : OW) (h : W_inside Θ l0 l1 l2 ω n = some (x, ω')) : ConW Θ 8 2 12 yL_inside cL_inside 4 (some .int) [(0, 9, 12, 24), (0, 9, 15, 42)] [.ref l0, .int l1, .ref l2] ω n (qw x ω') := by
  unfold W_inside at h
  obtain ⟨fs, ha, h⟩ := cOw_inv h
  refine ConW.of (by decide +kernel) (Nat.le_of_ble_eq_true rfl) ?_
  show G Θ yL_inside cL_inside 4 (some .int) 8 (tableOf [(0, 9, 12, 24), (0, 9, 15, 42)]) (qw x ω') noX (2, 12) 0 [(0, .ref l0), (1, .int l1), (2, .ref l2)] [] ω n
  refine g_aload_n dL_inside_0 rfl 2 rfl ?_
  refine g_iconst (v := 0) dL_inside_1 (by decide) ?_
  refine g_aload_n dL_inside_2 rfl 0 rfl ?_
  refine g_iload_n dL_inside_3 rfl 1 rfl ?_
  rcases wrI_inv h with ⟨v1, ω1, n1, len, f, e1, e2, e3, rfl, rfl⟩ | ⟨e1, rfl⟩ | ⟨e1, rfl⟩
  · refine g_callVT (ci := 10) (As := [.int l1]) mv_L_58 dL_inside_4 rfl ha rfl rfl (Nat.le_of_ble_eq_true rfl) ((ok_X10_inside Θ l0 l1 _ _) _ e1) (by decide) (by decide) (by decide) (fun E ω' n' hq => by cases hq) ?_
    intro v ω' n' hv
    cases hv
    refine G.less (B' := (0, 0)) (by decide) (by decide) ?_
    refine g_i2l dL_inside_7 ?_
    refine g_last dL_inside_8 e2 (by unfold vp_in; simp; omega) ?_
    refine g_goto (tgt := 18) dL_inside_9 (by decide) ?_
    refine g_iconst (v := 0) dL_inside_18 (by decide) ?_
    exact g_iret rfl dL_inside_19 ⟨rfl, rfl⟩
  · refine g_callVT (ci := 10) (As := [.int l1]) mv_L_58 dL_inside_4 rfl ha rfl rfl (Nat.le_of_ble_eq_true rfl) ((ok_X10_inside Θ l0 l1 _ _) _ e1) (by decide) (by decide) (by decide) ?_ (fun v ω' n' hv => by cases hv)
    intro E ω' n' hq
    cases hq
    refine ⟨[], _, _, "java/lang/IndexOutOfBoundsException", rfl, (fun z hz => by cases hz), by decide, by decide, wd_1043, by decide +kernel, fun q => ?_⟩
    refine G.less (B' := (0, 0)) (by decide) (by decide) ?_
    refine g_astore_n (lv' := [(3, .ref q), (0, .ref l0), (1, .int l1), (2, .ref l2)]) dL_inside_12 rfl (by decide) rfl ?_
    refine g_iconst (v := 1) dL_inside_13 (by decide) ?_
    exact g_iret rfl dL_inside_14 ⟨rfl, rfl⟩
  · refine g_callVT (ci := 10) (As := [.int l1]) mv_L_58 dL_inside_4 rfl ha rfl rfl (Nat.le_of_ble_eq_true rfl) ((ok_X10_inside Θ l0 l1 _ _) _ e1) (by decide) (by decide) (by decide) ?_ (fun v ω' n' hv => by cases hv)
    intro E ω' n' hq
    cases hq
    refine ⟨[_], _, _, "java/lang/IllegalStateException", rfl, (fun z hz => by cases List.mem_singleton.mp hz; exact Or.inr ⟨by decide, "java/lang/IndexOutOfBoundsException", wd_1043, by decide⟩), by decide, by decide, wd_1124, by decide +kernel, fun q => ?_⟩
    refine G.less (B' := (0, 0)) (by decide) (by decide) ?_
    refine g_astore_n (lv' := [(3, .ref q), (0, .ref l0), (1, .int l1), (2, .ref l2)]) dL_inside_15 rfl (by decide) rfl ?_
    refine g_iconst (v := 2) dL_inside_16 (by decide) ?_
    exact g_iret rfl dL_inside_17 ⟨rfl, rfl⟩
def W_calm (Θ : GP) (l0 : Nat) (l1 : Int32) (l2 : Nat) (ω : OW) (n : Nat) : Option (Int32 × OW) := cOw ω l0 10 (wrJ Θ l2 "java/lang/IllegalArgumentException"  (F_X10_calm Θ l0 l1 ω n))
theorem okW_calm (Θ : GP) (l0 : Nat) (l1 : Int32) (l2 : Nat) (ω : OW) (n : Nat) (x : Int32) (ω' : OW) (h : W_calm Θ l0 l1 l2 ω n = some (x, ω')) : ConW Θ 7 1 6 yL_calm cL_calm 4 (some .int) [(0, 9, 12, 13)] [.ref l0, .int l1, .ref l2] ω n (qw x ω') := by
  unfold W_calm at h
  obtain ⟨fs, ha, h⟩ := cOw_inv h
  refine ConW.of (by decide +kernel) (Nat.le_of_ble_eq_true rfl) ?_
  show G Θ yL_calm cL_calm 4 (some .int) 7 (tableOf [(0, 9, 12, 13)]) (qw x ω') noX (1, 6) 0 [(0, .ref l0), (1, .int l1), (2, .ref l2)] [] ω n
  refine g_aload_n dL_calm_0 rfl 2 rfl ?_
  refine g_iconst (v := 0) dL_calm_1 (by decide) ?_
  refine g_aload_n dL_calm_2 rfl 0 rfl ?_
  refine g_iload_n dL_calm_3 rfl 1 rfl ?_
  rcases wrJ_inv h with ⟨v1, ω1, n1, len, f, e1, e2, e3, rfl, rfl⟩ | ⟨e1, rfl⟩
  · refine g_callVT (ci := 10) (As := [.int l1]) mv_L_61 dL_calm_4 rfl ha rfl rfl (Nat.le_of_ble_eq_true rfl) ((ok_X10_calm Θ l0 l1 _ _) _ e1) (by decide) (by decide) (by decide) (fun E ω' n' hq => by cases hq) ?_
    intro v ω' n' hv
    cases hv
    refine G.less (B' := (0, 0)) (by decide) (by decide) ?_
    refine g_i2l dL_calm_7 ?_
    refine g_last dL_calm_8 e2 (by unfold vp_in; simp; omega) ?_
    refine g_goto (tgt := 15) dL_calm_9 (by decide) ?_
    refine g_iconst (v := 0) dL_calm_15 (by decide) ?_
    exact g_iret rfl dL_calm_16 ⟨rfl, rfl⟩
  · refine g_callVT (ci := 10) (As := [.int l1]) mv_L_61 dL_calm_4 rfl ha rfl rfl (Nat.le_of_ble_eq_true rfl) ((ok_X10_calm Θ l0 l1 _ _) _ e1) (by decide) (by decide) (by decide) ?_ (fun v ω' n' hv => by cases hv)
    intro E ω' n' hq
    cases hq
    refine ⟨[], _, _, "java/lang/IllegalArgumentException", rfl, (fun z hz => by cases hz), by decide, by decide, wd_786, by decide +kernel, fun q => ?_⟩
    refine G.less (B' := (0, 0)) (by decide) (by decide) ?_
    refine g_astore_n (lv' := [(3, .ref q), (0, .ref l0), (1, .int l1), (2, .ref l2)]) dL_calm_12 rfl (by decide) rfl ?_
    refine g_iconst (v := 1) dL_calm_13 (by decide) ?_
    exact g_iret rfl dL_calm_14 ⟨rfl, rfl⟩
def W_mornings (Θ : GP) (l0 : Nat) (l1 : Int32) (l2 : Nat) (ω : OW) (n : Nat) : Option (Int32 × OW) := cOw ω l0 10 (wrJ Θ l2 "java/lang/IllegalArgumentException"  (F_X10_mornings Θ l0 l1 ω n))
theorem okW_mornings (Θ : GP) (l0 : Nat) (l1 : Int32) (l2 : Nat) (ω : OW) (n : Nat) (x : Int32) (ω' : OW) (h : W_mornings Θ l0 l1 l2 ω n = some (x, ω')) : ConW Θ 7 1 6 yL_mornings cL_mornings 4 (some .int) [(0, 9, 12, 13)] [.ref l0, .int l1, .ref l2] ω n (qw x ω') := by
  unfold W_mornings at h
  obtain ⟨fs, ha, h⟩ := cOw_inv h
  refine ConW.of (by decide +kernel) (Nat.le_of_ble_eq_true rfl) ?_
  show G Θ yL_mornings cL_mornings 4 (some .int) 7 (tableOf [(0, 9, 12, 13)]) (qw x ω') noX (1, 6) 0 [(0, .ref l0), (1, .int l1), (2, .ref l2)] [] ω n
  refine g_aload_n dL_mornings_0 rfl 2 rfl ?_
  refine g_iconst (v := 0) dL_mornings_1 (by decide) ?_
  refine g_aload_n dL_mornings_2 rfl 0 rfl ?_
  refine g_iload_n dL_mornings_3 rfl 1 rfl ?_
  rcases wrJ_inv h with ⟨v1, ω1, n1, len, f, e1, e2, e3, rfl, rfl⟩ | ⟨e1, rfl⟩
  · refine g_callVT (ci := 10) (As := [.int l1]) mv_L_64 dL_mornings_4 rfl ha rfl rfl (Nat.le_of_ble_eq_true rfl) ((ok_X10_mornings Θ l0 l1 _ _) _ e1) (by decide) (by decide) (by decide) (fun E ω' n' hq => by cases hq) ?_
    intro v ω' n' hv
    cases hv
    refine G.less (B' := (0, 0)) (by decide) (by decide) ?_
    refine g_i2l dL_mornings_7 ?_
    refine g_last dL_mornings_8 e2 (by unfold vp_in; simp; omega) ?_
    refine g_goto (tgt := 15) dL_mornings_9 (by decide) ?_
    refine g_iconst (v := 0) dL_mornings_15 (by decide) ?_
    exact g_iret rfl dL_mornings_16 ⟨rfl, rfl⟩
  · refine g_callVT (ci := 10) (As := [.int l1]) mv_L_64 dL_mornings_4 rfl ha rfl rfl (Nat.le_of_ble_eq_true rfl) ((ok_X10_mornings Θ l0 l1 _ _) _ e1) (by decide) (by decide) (by decide) ?_ (fun v ω' n' hv => by cases hv)
    intro E ω' n' hq
    cases hq
    refine ⟨[], _, _, "java/lang/IllegalArgumentException", rfl, (fun z hz => by cases hz), by decide, by decide, wd_786, by decide +kernel, fun q => ?_⟩
    refine G.less (B' := (0, 0)) (by decide) (by decide) ?_
    refine g_astore_n (lv' := [(3, .ref q), (0, .ref l0), (1, .int l1), (2, .ref l2)]) dL_mornings_12 rfl (by decide) rfl ?_
    refine g_iconst (v := 1) dL_mornings_13 (by decide) ?_
    exact g_iret rfl dL_mornings_14 ⟨rfl, rfl⟩
def W_straight (Θ : GP) (l0 : Nat) (l1 : Int32) (l2 : Nat) (ω : OW) (n : Nat) : Option (Int32 × OW) := cOw ω l0 10 (wrJ Θ l2 "java/lang/IndexOutOfBoundsException"  (F_X10_straight Θ l0 l1 ω n))
theorem okW_straight (Θ : GP) (l0 : Nat) (l1 : Int32) (l2 : Nat) (ω : OW) (n : Nat) (x : Int32) (ω' : OW) (h : W_straight Θ l0 l1 l2 ω n = some (x, ω')) : ConW Θ 8 1 6 yL_straight cL_straight 4 (some .int) [(0, 9, 12, 24)] [.ref l0, .int l1, .ref l2] ω n (qw x ω') := by
  unfold W_straight at h
  obtain ⟨fs, ha, h⟩ := cOw_inv h
  refine ConW.of (by decide +kernel) (Nat.le_of_ble_eq_true rfl) ?_
  show G Θ yL_straight cL_straight 4 (some .int) 8 (tableOf [(0, 9, 12, 24)]) (qw x ω') noX (1, 6) 0 [(0, .ref l0), (1, .int l1), (2, .ref l2)] [] ω n
  refine g_aload_n dL_straight_0 rfl 2 rfl ?_
  refine g_iconst (v := 0) dL_straight_1 (by decide) ?_
  refine g_aload_n dL_straight_2 rfl 0 rfl ?_
  refine g_iload_n dL_straight_3 rfl 1 rfl ?_
  rcases wrJ_inv h with ⟨v1, ω1, n1, len, f, e1, e2, e3, rfl, rfl⟩ | ⟨e1, rfl⟩
  · refine g_callVT (ci := 10) (As := [.int l1]) mv_L_67 dL_straight_4 rfl ha rfl rfl (Nat.le_of_ble_eq_true rfl) ((ok_X10_straight Θ l0 l1 _ _) _ e1) (by decide) (by decide) (by decide) (fun E ω' n' hq => by cases hq) ?_
    intro v ω' n' hv
    cases hv
    refine G.less (B' := (0, 0)) (by decide) (by decide) ?_
    refine g_i2l dL_straight_7 ?_
    refine g_last dL_straight_8 e2 (by unfold vp_in; simp; omega) ?_
    refine g_goto (tgt := 15) dL_straight_9 (by decide) ?_
    refine g_iconst (v := 0) dL_straight_15 (by decide) ?_
    exact g_iret rfl dL_straight_16 ⟨rfl, rfl⟩
  · refine g_callVT (ci := 10) (As := [.int l1]) mv_L_67 dL_straight_4 rfl ha rfl rfl (Nat.le_of_ble_eq_true rfl) ((ok_X10_straight Θ l0 l1 _ _) _ e1) (by decide) (by decide) (by decide) ?_ (fun v ω' n' hv => by cases hv)
    intro E ω' n' hq
    cases hq
    refine ⟨[], _, _, "java/lang/IndexOutOfBoundsException", rfl, (fun z hz => by cases hz), by decide, by decide, wd_1043, by decide +kernel, fun q => ?_⟩
    refine G.less (B' := (0, 0)) (by decide) (by decide) ?_
    refine g_astore_n (lv' := [(3, .ref q), (0, .ref l0), (1, .int l1), (2, .ref l2)]) dL_straight_12 rfl (by decide) rfl ?_
    refine g_iconst (v := 1) dL_straight_13 (by decide) ?_
    exact g_iret rfl dL_straight_14 ⟨rfl, rfl⟩
def W_tense (Θ : GP) (l0 : Nat) (l1 : Int32) (l2 : Int32) (l3 : Nat) (ω : OW) (n : Nat) : Option (Int32 × OW) := cOw ω l0 10 (wrJ Θ l3 "java/lang/IndexOutOfBoundsException"  (F_X10_tense Θ l0 l1 l2 ω n))
theorem okW_tense (Θ : GP) (l0 : Nat) (l1 : Int32) (l2 : Int32) (l3 : Nat) (ω : OW) (n : Nat) (x : Int32) (ω' : OW) (h : W_tense Θ l0 l1 l2 l3 ω n = some (x, ω')) : ConW Θ 8 2 12 yL_tense cL_tense 5 (some .int) [(0, 10, 13, 24)] [.ref l0, .int l1, .int l2, .ref l3] ω n (qw x ω') := by
  unfold W_tense at h
  obtain ⟨fs, ha, h⟩ := cOw_inv h
  refine ConW.of (by decide +kernel) (Nat.le_of_ble_eq_true rfl) ?_
  show G Θ yL_tense cL_tense 5 (some .int) 8 (tableOf [(0, 10, 13, 24)]) (qw x ω') noX (2, 12) 0 [(0, .ref l0), (1, .int l1), (2, .int l2), (3, .ref l3)] [] ω n
  refine g_aload_n dL_tense_0 rfl 3 rfl ?_
  refine g_iconst (v := 0) dL_tense_1 (by decide) ?_
  refine g_aload_n dL_tense_2 rfl 0 rfl ?_
  refine g_iload_n dL_tense_3 rfl 1 rfl ?_
  refine g_iload_n dL_tense_4 rfl 2 rfl ?_
  rcases wrJ_inv h with ⟨v1, ω1, n1, len, f, e1, e2, e3, rfl, rfl⟩ | ⟨e1, rfl⟩
  · refine g_callVT (ci := 10) (As := [.int l1, .int l2]) mv_L_70 dL_tense_5 rfl ha rfl rfl (Nat.le_of_ble_eq_true rfl) ((ok_X10_tense Θ l0 l1 l2 _ _) _ e1) (by decide) (by decide) (by decide) (fun E ω' n' hq => by cases hq) ?_
    intro v ω' n' hv
    cases hv
    refine G.less (B' := (0, 0)) (by decide) (by decide) ?_
    refine g_i2l dL_tense_8 ?_
    refine g_last dL_tense_9 e2 (by unfold vp_in; simp; omega) ?_
    refine g_goto (tgt := 17) dL_tense_10 (by decide) ?_
    refine g_iconst (v := 0) dL_tense_17 (by decide) ?_
    exact g_iret rfl dL_tense_18 ⟨rfl, rfl⟩
  · refine g_callVT (ci := 10) (As := [.int l1, .int l2]) mv_L_70 dL_tense_5 rfl ha rfl rfl (Nat.le_of_ble_eq_true rfl) ((ok_X10_tense Θ l0 l1 l2 _ _) _ e1) (by decide) (by decide) (by decide) ?_ (fun v ω' n' hv => by cases hv)
    intro E ω' n' hq
    cases hq
    refine ⟨[], _, _, "java/lang/IndexOutOfBoundsException", rfl, (fun z hz => by cases hz), by decide, by decide, wd_1043, by decide +kernel, fun q => ?_⟩
    refine G.less (B' := (0, 0)) (by decide) (by decide) ?_
    refine g_astore (lv' := [(4, .ref q), (0, .ref l0), (1, .int l1), (2, .int l2), (3, .ref l3)]) dL_tense_13 (by decide) rfl ?_
    refine g_iconst (v := 1) dL_tense_15 (by decide) ?_
    exact g_iret rfl dL_tense_16 ⟨rfl, rfl⟩
def W_ways (Θ : GP) (l0 : Nat) (l1 : Int32) (l2 : Nat) (ω : OW) (n : Nat) : Option (Int32 × OW) := cOw ω l0 10 (wrJ Θ l2 "java/lang/IndexOutOfBoundsException"  (F_X10_ways Θ l0 l1 ω n))
theorem okW_ways (Θ : GP) (l0 : Nat) (l1 : Int32) (l2 : Nat) (ω : OW) (n : Nat) (x : Int32) (ω' : OW) (h : W_ways Θ l0 l1 l2 ω n = some (x, ω')) : ConW Θ 8 1 6 yL_ways cL_ways 4 (some .int) [(0, 9, 12, 24)] [.ref l0, .int l1, .ref l2] ω n (qw x ω') := by
  unfold W_ways at h
  obtain ⟨fs, ha, h⟩ := cOw_inv h
  refine ConW.of (by decide +kernel) (Nat.le_of_ble_eq_true rfl) ?_
  show G Θ yL_ways cL_ways 4 (some .int) 8 (tableOf [(0, 9, 12, 24)]) (qw x ω') noX (1, 6) 0 [(0, .ref l0), (1, .int l1), (2, .ref l2)] [] ω n
  refine g_aload_n dL_ways_0 rfl 2 rfl ?_
  refine g_iconst (v := 0) dL_ways_1 (by decide) ?_
  refine g_aload_n dL_ways_2 rfl 0 rfl ?_
  refine g_iload_n dL_ways_3 rfl 1 rfl ?_
  rcases wrJ_inv h with ⟨v1, ω1, n1, len, f, e1, e2, e3, rfl, rfl⟩ | ⟨e1, rfl⟩
  · refine g_callVT (ci := 10) (As := [.int l1]) mv_L_73 dL_ways_4 rfl ha rfl rfl (Nat.le_of_ble_eq_true rfl) ((ok_X10_ways Θ l0 l1 _ _) _ e1) (by decide) (by decide) (by decide) (fun E ω' n' hq => by cases hq) ?_
    intro v ω' n' hv
    cases hv
    refine G.less (B' := (0, 0)) (by decide) (by decide) ?_
    refine g_i2l dL_ways_7 ?_
    refine g_last dL_ways_8 e2 (by unfold vp_in; simp; omega) ?_
    refine g_goto (tgt := 15) dL_ways_9 (by decide) ?_
    refine g_iconst (v := 0) dL_ways_15 (by decide) ?_
    exact g_iret rfl dL_ways_16 ⟨rfl, rfl⟩
  · refine g_callVT (ci := 10) (As := [.int l1]) mv_L_73 dL_ways_4 rfl ha rfl rfl (Nat.le_of_ble_eq_true rfl) ((ok_X10_ways Θ l0 l1 _ _) _ e1) (by decide) (by decide) (by decide) ?_ (fun v ω' n' hv => by cases hv)
    intro E ω' n' hq
    cases hq
    refine ⟨[], _, _, "java/lang/IndexOutOfBoundsException", rfl, (fun z hz => by cases hz), by decide, by decide, wd_1043, by decide +kernel, fun q => ?_⟩
    refine G.less (B' := (0, 0)) (by decide) (by decide) ?_
    refine g_astore_n (lv' := [(3, .ref q), (0, .ref l0), (1, .int l1), (2, .ref l2)]) dL_ways_12 rfl (by decide) rfl ?_
    refine g_iconst (v := 1) dL_ways_13 (by decide) ?_
    exact g_iret rfl dL_ways_14 ⟨rfl, rfl⟩
def W_at (Θ : GP) (l0 : Nat) (l1 : Int32) (l2 : Int32) (l3 : Nat) (ω : OW) (n : Nat) : Option (Int32 × OW) := cOw ω l0 10 (wrJ Θ l3 "java/lang/IndexOutOfBoundsException"  (F_X10_at Θ l0 l1 l2 ω n))
theorem okW_at (Θ : GP) (l0 : Nat) (l1 : Int32) (l2 : Int32) (l3 : Nat) (ω : OW) (n : Nat) (x : Int32) (ω' : OW) (h : W_at Θ l0 l1 l2 l3 ω n = some (x, ω')) : ConW Θ 8 2 12 yL_at cL_at 5 (some .int) [(0, 10, 13, 24)] [.ref l0, .int l1, .int l2, .ref l3] ω n (qw x ω') := by
  unfold W_at at h
  obtain ⟨fs, ha, h⟩ := cOw_inv h
  refine ConW.of (by decide +kernel) (Nat.le_of_ble_eq_true rfl) ?_
  show G Θ yL_at cL_at 5 (some .int) 8 (tableOf [(0, 10, 13, 24)]) (qw x ω') noX (2, 12) 0 [(0, .ref l0), (1, .int l1), (2, .int l2), (3, .ref l3)] [] ω n
  refine g_aload_n dL_at_0 rfl 3 rfl ?_
  refine g_iconst (v := 0) dL_at_1 (by decide) ?_
  refine g_aload_n dL_at_2 rfl 0 rfl ?_
  refine g_iload_n dL_at_3 rfl 1 rfl ?_
  refine g_iload_n dL_at_4 rfl 2 rfl ?_
  rcases wrJ_inv h with ⟨v1, ω1, n1, len, f, e1, e2, e3, rfl, rfl⟩ | ⟨e1, rfl⟩
  · refine g_callVT (ci := 10) (As := [.int l1, .int l2]) mv_L_76 dL_at_5 rfl ha rfl rfl (Nat.le_of_ble_eq_true rfl) ((ok_X10_at Θ l0 l1 l2 _ _) _ e1) (by decide) (by decide) (by decide) (fun E ω' n' hq => by cases hq) ?_
    intro v ω' n' hv
    cases hv
    refine G.less (B' := (0, 0)) (by decide) (by decide) ?_
    refine g_i2l dL_at_8 ?_
    refine g_last dL_at_9 e2 (by unfold vp_in; simp; omega) ?_
    refine g_goto (tgt := 17) dL_at_10 (by decide) ?_
    refine g_iconst (v := 0) dL_at_17 (by decide) ?_
    exact g_iret rfl dL_at_18 ⟨rfl, rfl⟩
  · refine g_callVT (ci := 10) (As := [.int l1, .int l2]) mv_L_76 dL_at_5 rfl ha rfl rfl (Nat.le_of_ble_eq_true rfl) ((ok_X10_at Θ l0 l1 l2 _ _) _ e1) (by decide) (by decide) (by decide) ?_ (fun v ω' n' hv => by cases hv)
    intro E ω' n' hq
    cases hq
    refine ⟨[], _, _, "java/lang/IndexOutOfBoundsException", rfl, (fun z hz => by cases hz), by decide, by decide, wd_1043, by decide +kernel, fun q => ?_⟩
    refine G.less (B' := (0, 0)) (by decide) (by decide) ?_
    refine g_astore (lv' := [(4, .ref q), (0, .ref l0), (1, .int l1), (2, .int l2), (3, .ref l3)]) dL_at_13 (by decide) rfl ?_
    refine g_iconst (v := 1) dL_at_15 (by decide) ?_
    exact g_iret rfl dL_at_16 ⟨rfl, rfl⟩
def W_odds (Θ : GP) (l0 : Nat) (l1 : Int32) (l2 : Nat) (ω : OW) (n : Nat) : Option (Int32 × OW) := cOw ω l0 10 (wrJ Θ l2 "java/lang/IndexOutOfBoundsException"  (F_X10_odds Θ l0 l1 ω n))
theorem okW_odds (Θ : GP) (l0 : Nat) (l1 : Int32) (l2 : Nat) (ω : OW) (n : Nat) (x : Int32) (ω' : OW) (h : W_odds Θ l0 l1 l2 ω n = some (x, ω')) : ConW Θ 8 1 6 yL_odds cL_odds 4 (some .int) [(0, 9, 12, 24)] [.ref l0, .int l1, .ref l2] ω n (qw x ω') := by
  unfold W_odds at h
  obtain ⟨fs, ha, h⟩ := cOw_inv h
  refine ConW.of (by decide +kernel) (Nat.le_of_ble_eq_true rfl) ?_
  show G Θ yL_odds cL_odds 4 (some .int) 8 (tableOf [(0, 9, 12, 24)]) (qw x ω') noX (1, 6) 0 [(0, .ref l0), (1, .int l1), (2, .ref l2)] [] ω n
  refine g_aload_n dL_odds_0 rfl 2 rfl ?_
  refine g_iconst (v := 0) dL_odds_1 (by decide) ?_
  refine g_aload_n dL_odds_2 rfl 0 rfl ?_
  refine g_iload_n dL_odds_3 rfl 1 rfl ?_
  rcases wrJ_inv h with ⟨v1, ω1, n1, len, f, e1, e2, e3, rfl, rfl⟩ | ⟨e1, rfl⟩
  · refine g_callVT (ci := 10) (As := [.int l1]) mv_L_79 dL_odds_4 rfl ha rfl rfl (Nat.le_of_ble_eq_true rfl) ((ok_X10_odds Θ l0 l1 _ _) _ e1) (by decide) (by decide) (by decide) (fun E ω' n' hq => by cases hq) ?_
    intro v ω' n' hv
    cases hv
    refine G.less (B' := (0, 0)) (by decide) (by decide) ?_
    refine g_i2l dL_odds_7 ?_
    refine g_last dL_odds_8 e2 (by unfold vp_in; simp; omega) ?_
    refine g_goto (tgt := 15) dL_odds_9 (by decide) ?_
    refine g_iconst (v := 0) dL_odds_15 (by decide) ?_
    exact g_iret rfl dL_odds_16 ⟨rfl, rfl⟩
  · refine g_callVT (ci := 10) (As := [.int l1]) mv_L_79 dL_odds_4 rfl ha rfl rfl (Nat.le_of_ble_eq_true rfl) ((ok_X10_odds Θ l0 l1 _ _) _ e1) (by decide) (by decide) (by decide) ?_ (fun v ω' n' hv => by cases hv)
    intro E ω' n' hq
    cases hq
    refine ⟨[], _, _, "java/lang/IndexOutOfBoundsException", rfl, (fun z hz => by cases hz), by decide, by decide, wd_1043, by decide +kernel, fun q => ?_⟩
    refine G.less (B' := (0, 0)) (by decide) (by decide) ?_
    refine g_astore_n (lv' := [(3, .ref q), (0, .ref l0), (1, .int l1), (2, .ref l2)]) dL_odds_12 rfl (by decide) rfl ?_
    refine g_iconst (v := 1) dL_odds_13 (by decide) ?_
    exact g_iret rfl dL_odds_14 ⟨rfl, rfl⟩
def W_found (Θ : GP) (l0 : Nat) (l1 : Int32) (l2 : Int32) (l3 : Nat) (ω : OW) (n : Nat) : Option (Int32 × OW) := cOw ω l0 10 (wrJ Θ l3 "java/lang/IllegalArgumentException"  (F_X10_found Θ l0 l1 l2 ω n))
theorem okW_found (Θ : GP) (l0 : Nat) (l1 : Int32) (l2 : Int32) (l3 : Nat) (ω : OW) (n : Nat) (x : Int32) (ω' : OW) (h : W_found Θ l0 l1 l2 l3 ω n = some (x, ω')) : ConW Θ 9 1 6 yL_found cL_found 5 (some .int) [(0, 10, 13, 13)] [.ref l0, .int l1, .int l2, .ref l3] ω n (qw x ω') := by
  unfold W_found at h
  obtain ⟨fs, ha, h⟩ := cOw_inv h
  refine ConW.of (by decide +kernel) (Nat.le_of_ble_eq_true rfl) ?_
  show G Θ yL_found cL_found 5 (some .int) 9 (tableOf [(0, 10, 13, 13)]) (qw x ω') noX (1, 6) 0 [(0, .ref l0), (1, .int l1), (2, .int l2), (3, .ref l3)] [] ω n
  refine g_aload_n dL_found_0 rfl 3 rfl ?_
  refine g_iconst (v := 0) dL_found_1 (by decide) ?_
  refine g_aload_n dL_found_2 rfl 0 rfl ?_
  refine g_iload_n dL_found_3 rfl 1 rfl ?_
  refine g_iload_n dL_found_4 rfl 2 rfl ?_
  rcases wrJ_inv h with ⟨v1, ω1, n1, len, f, e1, e2, e3, rfl, rfl⟩ | ⟨e1, rfl⟩
  · refine g_callVT (ci := 10) (As := [.int l1, .int l2]) mv_L_82 dL_found_5 rfl ha rfl rfl (Nat.le_of_ble_eq_true rfl) ((ok_X10_found Θ l0 l1 l2 _ _) _ e1) (by decide) (by decide) (by decide) (fun E ω' n' hq => by cases hq) ?_
    intro v ω' n' hv
    cases hv
    refine G.less (B' := (0, 0)) (by decide) (by decide) ?_
    refine g_i2l dL_found_8 ?_
    refine g_last dL_found_9 e2 (by unfold vp_in; simp; omega) ?_
    refine g_goto (tgt := 17) dL_found_10 (by decide) ?_
    refine g_iconst (v := 0) dL_found_17 (by decide) ?_
    exact g_iret rfl dL_found_18 ⟨rfl, rfl⟩
  · refine g_callVT (ci := 10) (As := [.int l1, .int l2]) mv_L_82 dL_found_5 rfl ha rfl rfl (Nat.le_of_ble_eq_true rfl) ((ok_X10_found Θ l0 l1 l2 _ _) _ e1) (by decide) (by decide) (by decide) ?_ (fun v ω' n' hv => by cases hv)
    intro E ω' n' hq
    cases hq
    refine ⟨[], _, _, "java/lang/IllegalArgumentException", rfl, (fun z hz => by cases hz), by decide, by decide, wd_786, by decide +kernel, fun q => ?_⟩
    refine G.less (B' := (0, 0)) (by decide) (by decide) ?_
    refine g_astore (lv' := [(4, .ref q), (0, .ref l0), (1, .int l1), (2, .int l2), (3, .ref l3)]) dL_found_13 (by decide) rfl ?_
    refine g_iconst (v := 1) dL_found_15 (by decide) ?_
    exact g_iret rfl dL_found_16 ⟨rfl, rfl⟩
def W_ask (Θ : GP) (l0 : Nat) (l1 : Int32) (l2 : Nat) (ω : OW) (n : Nat) : Option (Int32 × OW) := cOw ω l0 10 (wrJ Θ l2 "java/lang/IllegalArgumentException"  (F_X10_ask Θ l0 l1 ω n))
theorem okW_ask (Θ : GP) (l0 : Nat) (l1 : Int32) (l2 : Nat) (ω : OW) (n : Nat) (x : Int32) (ω' : OW) (h : W_ask Θ l0 l1 l2 ω n = some (x, ω')) : ConW Θ 9 1 6 yL_ask cL_ask 4 (some .int) [(0, 9, 12, 13)] [.ref l0, .int l1, .ref l2] ω n (qw x ω') := by
  unfold W_ask at h
  obtain ⟨fs, ha, h⟩ := cOw_inv h
  refine ConW.of (by decide +kernel) (Nat.le_of_ble_eq_true rfl) ?_
  show G Θ yL_ask cL_ask 4 (some .int) 9 (tableOf [(0, 9, 12, 13)]) (qw x ω') noX (1, 6) 0 [(0, .ref l0), (1, .int l1), (2, .ref l2)] [] ω n
  refine g_aload_n dL_ask_0 rfl 2 rfl ?_
  refine g_iconst (v := 0) dL_ask_1 (by decide) ?_
  refine g_aload_n dL_ask_2 rfl 0 rfl ?_
  refine g_iload_n dL_ask_3 rfl 1 rfl ?_
  rcases wrJ_inv h with ⟨v1, ω1, n1, len, f, e1, e2, e3, rfl, rfl⟩ | ⟨e1, rfl⟩
  · refine g_callVT (ci := 10) (As := [.int l1]) mv_L_86 dL_ask_4 rfl ha rfl rfl (Nat.le_of_ble_eq_true rfl) ((ok_X10_ask Θ l0 l1 _ _) _ e1) (by decide) (by decide) (by decide) (fun E ω' n' hq => by cases hq) ?_
    intro v ω' n' hv
    cases hv
    refine G.less (B' := (0, 0)) (by decide) (by decide) ?_
    refine g_i2l dL_ask_7 ?_
    refine g_last dL_ask_8 e2 (by unfold vp_in; simp; omega) ?_
    refine g_goto (tgt := 15) dL_ask_9 (by decide) ?_
    refine g_iconst (v := 0) dL_ask_15 (by decide) ?_
    exact g_iret rfl dL_ask_16 ⟨rfl, rfl⟩
  · refine g_callVT (ci := 10) (As := [.int l1]) mv_L_86 dL_ask_4 rfl ha rfl rfl (Nat.le_of_ble_eq_true rfl) ((ok_X10_ask Θ l0 l1 _ _) _ e1) (by decide) (by decide) (by decide) ?_ (fun v ω' n' hv => by cases hv)
    intro E ω' n' hq
    cases hq
    refine ⟨[], _, _, "java/lang/IllegalArgumentException", rfl, (fun z hz => by cases hz), by decide, by decide, wd_786, by decide +kernel, fun q => ?_⟩
    refine G.less (B' := (0, 0)) (by decide) (by decide) ?_
    refine g_astore_n (lv' := [(3, .ref q), (0, .ref l0), (1, .int l1), (2, .ref l2)]) dL_ask_12 rfl (by decide) rfl ?_
    refine g_iconst (v := 1) dL_ask_13 (by decide) ?_
    exact g_iret rfl dL_ask_14 ⟨rfl, rfl⟩
def W_car (Θ : GP) (l0 : Nat) (l1 : Int32) (l2 : Int32) (l3 : Nat) (ω : OW) (n : Nat) : Option (Int32 × OW) := cOw ω l0 10 (wrI Θ l3 "java/lang/IndexOutOfBoundsException" "java/lang/IllegalArgumentException" (F_X10_car Θ l0 l1 l2 ω n))
theorem okW_car (Θ : GP) (l0 : Nat) (l1 : Int32) (l2 : Int32) (l3 : Nat) (ω : OW) (n : Nat) (x : Int32) (ω' : OW) (h : W_car Θ l0 l1 l2 l3 ω n = some (x, ω')) : ConW Θ 8 3 18 yL_car cL_car 5 (some .int) [(0, 10, 13, 24), (0, 10, 17, 13)] [.ref l0, .int l1, .int l2, .ref l3] ω n (qw x ω') := by
  unfold W_car at h
  obtain ⟨fs, ha, h⟩ := cOw_inv h
  refine ConW.of (by decide +kernel) (Nat.le_of_ble_eq_true rfl) ?_
  show G Θ yL_car cL_car 5 (some .int) 8 (tableOf [(0, 10, 13, 24), (0, 10, 17, 13)]) (qw x ω') noX (3, 18) 0 [(0, .ref l0), (1, .int l1), (2, .int l2), (3, .ref l3)] [] ω n
  refine g_aload_n dL_car_0 rfl 3 rfl ?_
  refine g_iconst (v := 0) dL_car_1 (by decide) ?_
  refine g_aload_n dL_car_2 rfl 0 rfl ?_
  refine g_iload_n dL_car_3 rfl 1 rfl ?_
  refine g_iload_n dL_car_4 rfl 2 rfl ?_
  rcases wrI_inv h with ⟨v1, ω1, n1, len, f, e1, e2, e3, rfl, rfl⟩ | ⟨e1, rfl⟩ | ⟨e1, rfl⟩
  · refine g_callVT (ci := 10) (As := [.int l1, .int l2]) mv_L_89 dL_car_5 rfl ha rfl rfl (Nat.le_of_ble_eq_true rfl) ((ok_X10_car Θ l0 l1 l2 _ _) _ e1) (by decide) (by decide) (by decide) (fun E ω' n' hq => by cases hq) ?_
    intro v ω' n' hv
    cases hv
    refine G.less (B' := (0, 0)) (by decide) (by decide) ?_
    refine g_i2l dL_car_8 ?_
    refine g_last dL_car_9 e2 (by unfold vp_in; simp; omega) ?_
    refine g_goto (tgt := 21) dL_car_10 (by decide) ?_
    refine g_iconst (v := 0) dL_car_21 (by decide) ?_
    exact g_iret rfl dL_car_22 ⟨rfl, rfl⟩
  · refine g_callVT (ci := 10) (As := [.int l1, .int l2]) mv_L_89 dL_car_5 rfl ha rfl rfl (Nat.le_of_ble_eq_true rfl) ((ok_X10_car Θ l0 l1 l2 _ _) _ e1) (by decide) (by decide) (by decide) ?_ (fun v ω' n' hv => by cases hv)
    intro E ω' n' hq
    cases hq
    refine ⟨[], _, _, "java/lang/IndexOutOfBoundsException", rfl, (fun z hz => by cases hz), by decide, by decide, wd_1043, by decide +kernel, fun q => ?_⟩
    refine G.less (B' := (0, 0)) (by decide) (by decide) ?_
    refine g_astore (lv' := [(4, .ref q), (0, .ref l0), (1, .int l1), (2, .int l2), (3, .ref l3)]) dL_car_13 (by decide) rfl ?_
    refine g_iconst (v := 1) dL_car_15 (by decide) ?_
    exact g_iret rfl dL_car_16 ⟨rfl, rfl⟩
  · refine g_callVT (ci := 10) (As := [.int l1, .int l2]) mv_L_89 dL_car_5 rfl ha rfl rfl (Nat.le_of_ble_eq_true rfl) ((ok_X10_car Θ l0 l1 l2 _ _) _ e1) (by decide) (by decide) (by decide) ?_ (fun v ω' n' hv => by cases hv)
    intro E ω' n' hq
    cases hq
    refine ⟨[_], _, _, "java/lang/IllegalArgumentException", rfl, (fun z hz => by cases List.mem_singleton.mp hz; exact Or.inr ⟨by decide, "java/lang/IndexOutOfBoundsException", wd_1043, by decide⟩), by decide, by decide, wd_786, by decide +kernel, fun q => ?_⟩
    refine G.less (B' := (0, 0)) (by decide) (by decide) ?_
    refine g_astore (lv' := [(4, .ref q), (0, .ref l0), (1, .int l1), (2, .int l2), (3, .ref l3)]) dL_car_17 (by decide) rfl ?_
    refine g_iconst (v := 2) dL_car_19 (by decide) ?_
    exact g_iret rfl dL_car_20 ⟨rfl, rfl⟩
def W_corners (Θ : GP) (l0 : Nat) (l1 : Int32) (l2 : Nat) (ω : OW) (n : Nat) : Option (Int32 × OW) := cOw ω l0 10 (wrJ Θ l2 "java/lang/IndexOutOfBoundsException"  (F_X10_corners Θ l0 l1 ω n))
theorem okW_corners (Θ : GP) (l0 : Nat) (l1 : Int32) (l2 : Nat) (ω : OW) (n : Nat) (x : Int32) (ω' : OW) (h : W_corners Θ l0 l1 l2 ω n = some (x, ω')) : ConW Θ 8 1 6 yL_corners cL_corners 4 (some .int) [(0, 9, 12, 24)] [.ref l0, .int l1, .ref l2] ω n (qw x ω') := by
  unfold W_corners at h
  obtain ⟨fs, ha, h⟩ := cOw_inv h
  refine ConW.of (by decide +kernel) (Nat.le_of_ble_eq_true rfl) ?_
  show G Θ yL_corners cL_corners 4 (some .int) 8 (tableOf [(0, 9, 12, 24)]) (qw x ω') noX (1, 6) 0 [(0, .ref l0), (1, .int l1), (2, .ref l2)] [] ω n
  refine g_aload_n dL_corners_0 rfl 2 rfl ?_
  refine g_iconst (v := 0) dL_corners_1 (by decide) ?_
  refine g_aload_n dL_corners_2 rfl 0 rfl ?_
  refine g_iload_n dL_corners_3 rfl 1 rfl ?_
  rcases wrJ_inv h with ⟨v1, ω1, n1, len, f, e1, e2, e3, rfl, rfl⟩ | ⟨e1, rfl⟩
  · refine g_callVT (ci := 10) (As := [.int l1]) mv_L_92 dL_corners_4 rfl ha rfl rfl (Nat.le_of_ble_eq_true rfl) ((ok_X10_corners Θ l0 l1 _ _) _ e1) (by decide) (by decide) (by decide) (fun E ω' n' hq => by cases hq) ?_
    intro v ω' n' hv
    cases hv
    refine G.less (B' := (0, 0)) (by decide) (by decide) ?_
    refine g_i2l dL_corners_7 ?_
    refine g_last dL_corners_8 e2 (by unfold vp_in; simp; omega) ?_
    refine g_goto (tgt := 15) dL_corners_9 (by decide) ?_
    refine g_iconst (v := 0) dL_corners_15 (by decide) ?_
    exact g_iret rfl dL_corners_16 ⟨rfl, rfl⟩
  · refine g_callVT (ci := 10) (As := [.int l1]) mv_L_92 dL_corners_4 rfl ha rfl rfl (Nat.le_of_ble_eq_true rfl) ((ok_X10_corners Θ l0 l1 _ _) _ e1) (by decide) (by decide) (by decide) ?_ (fun v ω' n' hv => by cases hv)
    intro E ω' n' hq
    cases hq
    refine ⟨[], _, _, "java/lang/IndexOutOfBoundsException", rfl, (fun z hz => by cases hz), by decide, by decide, wd_1043, by decide +kernel, fun q => ?_⟩
    refine G.less (B' := (0, 0)) (by decide) (by decide) ?_
    refine g_astore_n (lv' := [(3, .ref q), (0, .ref l0), (1, .int l1), (2, .ref l2)]) dL_corners_12 rfl (by decide) rfl ?_
    refine g_iconst (v := 1) dL_corners_13 (by decide) ?_
    exact g_iret rfl dL_corners_14 ⟨rfl, rfl⟩
def W_usher (Θ : GP) (l0 : Nat) (l1 : Int32) (l2 : Nat) (ω : OW) (n : Nat) : Option (Int32 × OW) := cOw ω l0 10 (wrJ Θ l2 "java/lang/IndexOutOfBoundsException"  (F_X10_usher Θ l0 l1 ω n))
theorem okW_usher (Θ : GP) (l0 : Nat) (l1 : Int32) (l2 : Nat) (ω : OW) (n : Nat) (x : Int32) (ω' : OW) (h : W_usher Θ l0 l1 l2 ω n = some (x, ω')) : ConW Θ 8 1 6 yL_usher cL_usher 4 (some .int) [(0, 9, 12, 24)] [.ref l0, .int l1, .ref l2] ω n (qw x ω') := by
  unfold W_usher at h
  obtain ⟨fs, ha, h⟩ := cOw_inv h
  refine ConW.of (by decide +kernel) (Nat.le_of_ble_eq_true rfl) ?_
  show G Θ yL_usher cL_usher 4 (some .int) 8 (tableOf [(0, 9, 12, 24)]) (qw x ω') noX (1, 6) 0 [(0, .ref l0), (1, .int l1), (2, .ref l2)] [] ω n
  refine g_aload_n dL_usher_0 rfl 2 rfl ?_
  refine g_iconst (v := 0) dL_usher_1 (by decide) ?_
  refine g_aload_n dL_usher_2 rfl 0 rfl ?_
  refine g_iload_n dL_usher_3 rfl 1 rfl ?_
  rcases wrJ_inv h with ⟨v1, ω1, n1, len, f, e1, e2, e3, rfl, rfl⟩ | ⟨e1, rfl⟩
  · refine g_callVT (ci := 10) (As := [.int l1]) mv_L_95 dL_usher_4 rfl ha rfl rfl (Nat.le_of_ble_eq_true rfl) ((ok_X10_usher Θ l0 l1 _ _) _ e1) (by decide) (by decide) (by decide) (fun E ω' n' hq => by cases hq) ?_
    intro v ω' n' hv
    cases hv
    refine G.less (B' := (0, 0)) (by decide) (by decide) ?_
    refine g_i2l dL_usher_7 ?_
    refine g_last dL_usher_8 e2 (by unfold vp_in; simp; omega) ?_
    refine g_goto (tgt := 15) dL_usher_9 (by decide) ?_
    refine g_iconst (v := 0) dL_usher_15 (by decide) ?_
    exact g_iret rfl dL_usher_16 ⟨rfl, rfl⟩
  · refine g_callVT (ci := 10) (As := [.int l1]) mv_L_95 dL_usher_4 rfl ha rfl rfl (Nat.le_of_ble_eq_true rfl) ((ok_X10_usher Θ l0 l1 _ _) _ e1) (by decide) (by decide) (by decide) ?_ (fun v ω' n' hv => by cases hv)
    intro E ω' n' hq
    cases hq
    refine ⟨[], _, _, "java/lang/IndexOutOfBoundsException", rfl, (fun z hz => by cases hz), by decide, by decide, wd_1043, by decide +kernel, fun q => ?_⟩
    refine G.less (B' := (0, 0)) (by decide) (by decide) ?_
    refine g_astore_n (lv' := [(3, .ref q), (0, .ref l0), (1, .int l1), (2, .ref l2)]) dL_usher_12 rfl (by decide) rfl ?_
    refine g_iconst (v := 1) dL_usher_13 (by decide) ?_
    exact g_iret rfl dL_usher_14 ⟨rfl, rfl⟩
def W_lasts (Θ : GP) (l0 : Nat) (l1 : Int32) (l2 : Int32) (l3 : Nat) (ω : OW) (n : Nat) : Option (Int32 × OW) := cOw ω l0 10 (wrJ Θ l3 "java/lang/IndexOutOfBoundsException"  (F_X10_lasts Θ l0 l1 l2 ω n))
theorem okW_lasts (Θ : GP) (l0 : Nat) (l1 : Int32) (l2 : Int32) (l3 : Nat) (ω : OW) (n : Nat) (x : Int32) (ω' : OW) (h : W_lasts Θ l0 l1 l2 l3 ω n = some (x, ω')) : ConW Θ 8 2 12 yL_lasts cL_lasts 5 (some .int) [(0, 10, 13, 24)] [.ref l0, .int l1, .int l2, .ref l3] ω n (qw x ω') := by
  unfold W_lasts at h
  obtain ⟨fs, ha, h⟩ := cOw_inv h
  refine ConW.of (by decide +kernel) (Nat.le_of_ble_eq_true rfl) ?_
  show G Θ yL_lasts cL_lasts 5 (some .int) 8 (tableOf [(0, 10, 13, 24)]) (qw x ω') noX (2, 12) 0 [(0, .ref l0), (1, .int l1), (2, .int l2), (3, .ref l3)] [] ω n
  refine g_aload_n dL_lasts_0 rfl 3 rfl ?_
  refine g_iconst (v := 0) dL_lasts_1 (by decide) ?_
  refine g_aload_n dL_lasts_2 rfl 0 rfl ?_
  refine g_iload_n dL_lasts_3 rfl 1 rfl ?_
  refine g_iload_n dL_lasts_4 rfl 2 rfl ?_
  rcases wrJ_inv h with ⟨v1, ω1, n1, len, f, e1, e2, e3, rfl, rfl⟩ | ⟨e1, rfl⟩
  · refine g_callVT (ci := 10) (As := [.int l1, .int l2]) mv_L_98 dL_lasts_5 rfl ha rfl rfl (Nat.le_of_ble_eq_true rfl) ((ok_X10_lasts Θ l0 l1 l2 _ _) _ e1) (by decide) (by decide) (by decide) (fun E ω' n' hq => by cases hq) ?_
    intro v ω' n' hv
    cases hv
    refine G.less (B' := (0, 0)) (by decide) (by decide) ?_
    refine g_i2l dL_lasts_8 ?_
    refine g_last dL_lasts_9 e2 (by unfold vp_in; simp; omega) ?_
    refine g_goto (tgt := 17) dL_lasts_10 (by decide) ?_
    refine g_iconst (v := 0) dL_lasts_17 (by decide) ?_
    exact g_iret rfl dL_lasts_18 ⟨rfl, rfl⟩
  · refine g_callVT (ci := 10) (As := [.int l1, .int l2]) mv_L_98 dL_lasts_5 rfl ha rfl rfl (Nat.le_of_ble_eq_true rfl) ((ok_X10_lasts Θ l0 l1 l2 _ _) _ e1) (by decide) (by decide) (by decide) ?_ (fun v ω' n' hv => by cases hv)
    intro E ω' n' hq
    cases hq
    refine ⟨[], _, _, "java/lang/IndexOutOfBoundsException", rfl, (fun z hz => by cases hz), by decide, by decide, wd_1043, by decide +kernel, fun q => ?_⟩
    refine G.less (B' := (0, 0)) (by decide) (by decide) ?_
    refine g_astore (lv' := [(4, .ref q), (0, .ref l0), (1, .int l1), (2, .int l2), (3, .ref l3)]) dL_lasts_13 (by decide) rfl ?_
    refine g_iconst (v := 1) dL_lasts_15 (by decide) ?_
    exact g_iret rfl dL_lasts_16 ⟨rfl, rfl⟩
def W_share (Θ : GP) (l0 : Nat) (l1 : Int32) (l2 : Int32) (l3 : Nat) (ω : OW) (n : Nat) : Option (Int32 × OW) := cOw ω l0 10 (wrJ Θ l3 "java/lang/IndexOutOfBoundsException"  (F_X10_share Θ l0 l1 l2 ω n))
theorem okW_share (Θ : GP) (l0 : Nat) (l1 : Int32) (l2 : Int32) (l3 : Nat) (ω : OW) (n : Nat) (x : Int32) (ω' : OW) (h : W_share Θ l0 l1 l2 l3 ω n = some (x, ω')) : ConW Θ 8 2 12 yL_share cL_share 5 (some .int) [(0, 10, 13, 24)] [.ref l0, .int l1, .int l2, .ref l3] ω n (qw x ω') := by
  unfold W_share at h
  obtain ⟨fs, ha, h⟩ := cOw_inv h
  refine ConW.of (by decide +kernel) (Nat.le_of_ble_eq_true rfl) ?_
  show G Θ yL_share cL_share 5 (some .int) 8 (tableOf [(0, 10, 13, 24)]) (qw x ω') noX (2, 12) 0 [(0, .ref l0), (1, .int l1), (2, .int l2), (3, .ref l3)] [] ω n
  refine g_aload_n dL_share_0 rfl 3 rfl ?_
  refine g_iconst (v := 0) dL_share_1 (by decide) ?_
  refine g_aload_n dL_share_2 rfl 0 rfl ?_
  refine g_iload_n dL_share_3 rfl 1 rfl ?_
  refine g_iload_n dL_share_4 rfl 2 rfl ?_
  rcases wrJ_inv h with ⟨v1, ω1, n1, len, f, e1, e2, e3, rfl, rfl⟩ | ⟨e1, rfl⟩
  · refine g_callVT (ci := 10) (As := [.int l1, .int l2]) mv_L_101 dL_share_5 rfl ha rfl rfl (Nat.le_of_ble_eq_true rfl) ((ok_X10_share Θ l0 l1 l2 _ _) _ e1) (by decide) (by decide) (by decide) (fun E ω' n' hq => by cases hq) ?_
    intro v ω' n' hv
    cases hv
    refine G.less (B' := (0, 0)) (by decide) (by decide) ?_
    refine g_i2l dL_share_8 ?_
    refine g_last dL_share_9 e2 (by unfold vp_in; simp; omega) ?_
    refine g_goto (tgt := 17) dL_share_10 (by decide) ?_
    refine g_iconst (v := 0) dL_share_17 (by decide) ?_
    exact g_iret rfl dL_share_18 ⟨rfl, rfl⟩
  · refine g_callVT (ci := 10) (As := [.int l1, .int l2]) mv_L_101 dL_share_5 rfl ha rfl rfl (Nat.le_of_ble_eq_true rfl) ((ok_X10_share Θ l0 l1 l2 _ _) _ e1) (by decide) (by decide) (by decide) ?_ (fun v ω' n' hv => by cases hv)
    intro E ω' n' hq
    cases hq
    refine ⟨[], _, _, "java/lang/IndexOutOfBoundsException", rfl, (fun z hz => by cases hz), by decide, by decide, wd_1043, by decide +kernel, fun q => ?_⟩
    refine G.less (B' := (0, 0)) (by decide) (by decide) ?_
    refine g_astore (lv' := [(4, .ref q), (0, .ref l0), (1, .int l1), (2, .int l2), (3, .ref l3)]) dL_share_13 (by decide) rfl ?_
    refine g_iconst (v := 1) dL_share_15 (by decide) ?_
    exact g_iret rfl dL_share_16 ⟨rfl, rfl⟩
def W_trial (Θ : GP) (l0 : Nat) (l1 : Int32) (l2 : Nat) (ω : OW) (n : Nat) : Option (Int32 × OW) := cOw ω l0 10 (wrJ Θ l2 "java/lang/IllegalArgumentException"  (F_X10_trial Θ l0 l1 ω n))
theorem okW_trial (Θ : GP) (l0 : Nat) (l1 : Int32) (l2 : Nat) (ω : OW) (n : Nat) (x : Int32) (ω' : OW) (h : W_trial Θ l0 l1 l2 ω n = some (x, ω')) : ConW Θ 8 1 6 yL_trial cL_trial 4 (some .int) [(0, 9, 12, 13)] [.ref l0, .int l1, .ref l2] ω n (qw x ω') := by
  unfold W_trial at h
  obtain ⟨fs, ha, h⟩ := cOw_inv h
  refine ConW.of (by decide +kernel) (Nat.le_of_ble_eq_true rfl) ?_
  show G Θ yL_trial cL_trial 4 (some .int) 8 (tableOf [(0, 9, 12, 13)]) (qw x ω') noX (1, 6) 0 [(0, .ref l0), (1, .int l1), (2, .ref l2)] [] ω n
  refine g_aload_n dL_trial_0 rfl 2 rfl ?_
  refine g_iconst (v := 0) dL_trial_1 (by decide) ?_
  refine g_aload_n dL_trial_2 rfl 0 rfl ?_
  refine g_iload_n dL_trial_3 rfl 1 rfl ?_
  rcases wrJ_inv h with ⟨v1, ω1, n1, len, f, e1, e2, e3, rfl, rfl⟩ | ⟨e1, rfl⟩
  · refine g_callVT (ci := 10) (As := [.int l1]) mv_L_104 dL_trial_4 rfl ha rfl rfl (Nat.le_of_ble_eq_true rfl) ((ok_X10_trial Θ l0 l1 _ _) _ e1) (by decide) (by decide) (by decide) (fun E ω' n' hq => by cases hq) ?_
    intro v ω' n' hv
    cases hv
    refine G.less (B' := (0, 0)) (by decide) (by decide) ?_
    refine g_i2l dL_trial_7 ?_
    refine g_last dL_trial_8 e2 (by unfold vp_in; simp; omega) ?_
    refine g_goto (tgt := 15) dL_trial_9 (by decide) ?_
    refine g_iconst (v := 0) dL_trial_15 (by decide) ?_
    exact g_iret rfl dL_trial_16 ⟨rfl, rfl⟩
  · refine g_callVT (ci := 10) (As := [.int l1]) mv_L_104 dL_trial_4 rfl ha rfl rfl (Nat.le_of_ble_eq_true rfl) ((ok_X10_trial Θ l0 l1 _ _) _ e1) (by decide) (by decide) (by decide) ?_ (fun v ω' n' hv => by cases hv)
    intro E ω' n' hq
    cases hq
    refine ⟨[], _, _, "java/lang/IllegalArgumentException", rfl, (fun z hz => by cases hz), by decide, by decide, wd_786, by decide +kernel, fun q => ?_⟩
    refine G.less (B' := (0, 0)) (by decide) (by decide) ?_
    refine g_astore_n (lv' := [(3, .ref q), (0, .ref l0), (1, .int l1), (2, .ref l2)]) dL_trial_12 rfl (by decide) rfl ?_
    refine g_iconst (v := 1) dL_trial_13 (by decide) ?_
    exact g_iret rfl dL_trial_14 ⟨rfl, rfl⟩
def W_span (Θ : GP) (l0 : Nat) (l1 : Int32) (l2 : Int32) (l3 : Nat) (ω : OW) (n : Nat) : Option (Int32 × OW) := cOw ω l0 10 (wrJ Θ l3 "java/lang/IllegalArgumentException"  (F_X10_span Θ l0 l1 l2 ω n))
theorem okW_span (Θ : GP) (l0 : Nat) (l1 : Int32) (l2 : Int32) (l3 : Nat) (ω : OW) (n : Nat) (x : Int32) (ω' : OW) (h : W_span Θ l0 l1 l2 l3 ω n = some (x, ω')) : ConW Θ 8 1 6 yL_span cL_span 5 (some .int) [(0, 10, 13, 13)] [.ref l0, .int l1, .int l2, .ref l3] ω n (qw x ω') := by
  unfold W_span at h
  obtain ⟨fs, ha, h⟩ := cOw_inv h
  refine ConW.of (by decide +kernel) (Nat.le_of_ble_eq_true rfl) ?_
  show G Θ yL_span cL_span 5 (some .int) 8 (tableOf [(0, 10, 13, 13)]) (qw x ω') noX (1, 6) 0 [(0, .ref l0), (1, .int l1), (2, .int l2), (3, .ref l3)] [] ω n
  refine g_aload_n dL_span_0 rfl 3 rfl ?_
  refine g_iconst (v := 0) dL_span_1 (by decide) ?_
  refine g_aload_n dL_span_2 rfl 0 rfl ?_
  refine g_iload_n dL_span_3 rfl 1 rfl ?_
  refine g_iload_n dL_span_4 rfl 2 rfl ?_
  rcases wrJ_inv h with ⟨v1, ω1, n1, len, f, e1, e2, e3, rfl, rfl⟩ | ⟨e1, rfl⟩
  · refine g_callVT (ci := 10) (As := [.int l1, .int l2]) mv_L_107 dL_span_5 rfl ha rfl rfl (Nat.le_of_ble_eq_true rfl) ((ok_X10_span Θ l0 l1 l2 _ _) _ e1) (by decide) (by decide) (by decide) (fun E ω' n' hq => by cases hq) ?_
    intro v ω' n' hv
    cases hv
    refine G.less (B' := (0, 0)) (by decide) (by decide) ?_
    refine g_i2l dL_span_8 ?_
    refine g_last dL_span_9 e2 (by unfold vp_in; simp; omega) ?_
    refine g_goto (tgt := 17) dL_span_10 (by decide) ?_
    refine g_iconst (v := 0) dL_span_17 (by decide) ?_
    exact g_iret rfl dL_span_18 ⟨rfl, rfl⟩
  · refine g_callVT (ci := 10) (As := [.int l1, .int l2]) mv_L_107 dL_span_5 rfl ha rfl rfl (Nat.le_of_ble_eq_true rfl) ((ok_X10_span Θ l0 l1 l2 _ _) _ e1) (by decide) (by decide) (by decide) ?_ (fun v ω' n' hv => by cases hv)
    intro E ω' n' hq
    cases hq
    refine ⟨[], _, _, "java/lang/IllegalArgumentException", rfl, (fun z hz => by cases hz), by decide, by decide, wd_786, by decide +kernel, fun q => ?_⟩
    refine G.less (B' := (0, 0)) (by decide) (by decide) ?_
    refine g_astore (lv' := [(4, .ref q), (0, .ref l0), (1, .int l1), (2, .int l2), (3, .ref l3)]) dL_span_13 (by decide) rfl ?_
    refine g_iconst (v := 1) dL_span_15 (by decide) ?_
    exact g_iret rfl dL_span_16 ⟨rfl, rfl⟩
def W_led (Θ : GP) (l0 : Nat) (l1 : Int32) (l2 : Int32) (l3 : Nat) (ω : OW) (n : Nat) : Option (Int32 × OW) := cOw ω l0 10 (wrJ Θ l3 "java/lang/IndexOutOfBoundsException"  (F_X10_led Θ l0 l1 l2 ω n))
theorem okW_led (Θ : GP) (l0 : Nat) (l1 : Int32) (l2 : Int32) (l3 : Nat) (ω : OW) (n : Nat) (x : Int32) (ω' : OW) (h : W_led Θ l0 l1 l2 l3 ω n = some (x, ω')) : ConW Θ 8 1 6 yL_led cL_led 5 (some .int) [(0, 10, 13, 24)] [.ref l0, .int l1, .int l2, .ref l3] ω n (qw x ω') := by
  unfold W_led at h
  obtain ⟨fs, ha, h⟩ := cOw_inv h
  refine ConW.of (by decide +kernel) (Nat.le_of_ble_eq_true rfl) ?_
  show G Θ yL_led cL_led 5 (some .int) 8 (tableOf [(0, 10, 13, 24)]) (qw x ω') noX (1, 6) 0 [(0, .ref l0), (1, .int l1), (2, .int l2), (3, .ref l3)] [] ω n
  refine g_aload_n dL_led_0 rfl 3 rfl ?_
  refine g_iconst (v := 0) dL_led_1 (by decide) ?_
  refine g_aload_n dL_led_2 rfl 0 rfl ?_
  refine g_iload_n dL_led_3 rfl 1 rfl ?_
  refine g_iload_n dL_led_4 rfl 2 rfl ?_
  rcases wrJ_inv h with ⟨v1, ω1, n1, len, f, e1, e2, e3, rfl, rfl⟩ | ⟨e1, rfl⟩
  · refine g_callVT (ci := 10) (As := [.int l1, .int l2]) mv_L_110 dL_led_5 rfl ha rfl rfl (Nat.le_of_ble_eq_true rfl) ((ok_X10_led Θ l0 l1 l2 _ _) _ e1) (by decide) (by decide) (by decide) (fun E ω' n' hq => by cases hq) ?_
    intro v ω' n' hv
    cases hv
    refine G.less (B' := (0, 0)) (by decide) (by decide) ?_
    refine g_i2l dL_led_8 ?_
    refine g_last dL_led_9 e2 (by unfold vp_in; simp; omega) ?_
    refine g_goto (tgt := 17) dL_led_10 (by decide) ?_
    refine g_iconst (v := 0) dL_led_17 (by decide) ?_
    exact g_iret rfl dL_led_18 ⟨rfl, rfl⟩
  · refine g_callVT (ci := 10) (As := [.int l1, .int l2]) mv_L_110 dL_led_5 rfl ha rfl rfl (Nat.le_of_ble_eq_true rfl) ((ok_X10_led Θ l0 l1 l2 _ _) _ e1) (by decide) (by decide) (by decide) ?_ (fun v ω' n' hv => by cases hv)
    intro E ω' n' hq
    cases hq
    refine ⟨[], _, _, "java/lang/IndexOutOfBoundsException", rfl, (fun z hz => by cases hz), by decide, by decide, wd_1043, by decide +kernel, fun q => ?_⟩
    refine G.less (B' := (0, 0)) (by decide) (by decide) ?_
    refine g_astore (lv' := [(4, .ref q), (0, .ref l0), (1, .int l1), (2, .int l2), (3, .ref l3)]) dL_led_13 (by decide) rfl ?_
    refine g_iconst (v := 1) dL_led_15 (by decide) ?_
    exact g_iret rfl dL_led_16 ⟨rfl, rfl⟩
