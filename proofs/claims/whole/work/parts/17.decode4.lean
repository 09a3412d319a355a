theorem d_Law_room_0 : decode b_Law_room 0 = .ok (.aload_n 3, 1) := by decide +kernel
theorem d_Law_room_1 : decode b_Law_room 1 = .ok (.iconst 0, 1) := by decide +kernel
theorem d_Law_room_2 : decode b_Law_room 2 = .ok (.aload_n 0, 1) := by decide +kernel
theorem d_Law_room_3 : decode b_Law_room 3 = .ok (.iload_n 1, 1) := by decide +kernel
theorem d_Law_room_4 : decode b_Law_room 4 = .ok (.iload_n 2, 1) := by decide +kernel
theorem d_Law_room_5 : decode b_Law_room 5 = .ok (.invokevirtual 7, 3) := by decide +kernel
theorem d_Law_room_8 : decode b_Law_room 8 = .ok (.i2l, 1) := by decide +kernel
theorem d_Law_room_9 : decode b_Law_room 9 = .ok (.lastore, 1) := by decide +kernel
theorem d_Law_room_10 : decode b_Law_room 10 = .ok (.goto 15, 3) := by decide +kernel
theorem d_Law_room_13 : decode b_Law_room 13 = .ok (.astore 4, 2) := by decide +kernel
theorem d_Law_room_15 : decode b_Law_room 15 = .ok (.iconst 1, 1) := by decide +kernel
theorem d_Law_room_16 : decode b_Law_room 16 = .ok (.ireturn, 1) := by decide +kernel
theorem d_Law_room_17 : decode b_Law_room 17 = .ok (.astore 4, 2) := by decide +kernel
theorem d_Law_room_19 : decode b_Law_room 19 = .ok (.iconst 2, 1) := by decide +kernel
theorem d_Law_room_20 : decode b_Law_room 20 = .ok (.ireturn, 1) := by decide +kernel
theorem d_Law_room_21 : decode b_Law_room 21 = .ok (.astore 4, 2) := by decide +kernel
theorem d_Law_room_23 : decode b_Law_room 23 = .ok (.iconst 3, 1) := by decide +kernel
theorem d_Law_room_24 : decode b_Law_room 24 = .ok (.ireturn, 1) := by decide +kernel
theorem d_Law_room_25 : decode b_Law_room 25 = .ok (.iconst 0, 1) := by decide +kernel
theorem d_Law_room_26 : decode b_Law_room 26 = .ok (.ireturn, 1) := by decide +kernel
theorem d_Law_door_0 : decode b_Law_door 0 = .ok (.aload 5, 2) := by decide +kernel
theorem d_Law_door_2 : decode b_Law_door 2 = .ok (.iconst 0, 1) := by decide +kernel
theorem d_Law_door_3 : decode b_Law_door 3 = .ok (.aload_n 0, 1) := by decide +kernel
theorem d_Law_door_4 : decode b_Law_door 4 = .ok (.iload_n 1, 1) := by decide +kernel
theorem d_Law_door_5 : decode b_Law_door 5 = .ok (.iload_n 2, 1) := by decide +kernel
theorem d_Law_door_6 : decode b_Law_door 6 = .ok (.iload_n 3, 1) := by decide +kernel
theorem d_Law_door_7 : decode b_Law_door 7 = .ok (.iload 4, 2) := by decide +kernel
theorem d_Law_door_9 : decode b_Law_door 9 = .ok (.invokevirtual 19, 3) := by decide +kernel
theorem d_Law_door_12 : decode b_Law_door 12 = .ok (.i2l, 1) := by decide +kernel
theorem d_Law_door_13 : decode b_Law_door 13 = .ok (.lastore, 1) := by decide +kernel
theorem d_Law_door_14 : decode b_Law_door 14 = .ok (.goto 19, 3) := by decide +kernel
theorem d_Law_door_17 : decode b_Law_door 17 = .ok (.astore 6, 2) := by decide +kernel
theorem d_Law_door_19 : decode b_Law_door 19 = .ok (.iconst 1, 1) := by decide +kernel
theorem d_Law_door_20 : decode b_Law_door 20 = .ok (.ireturn, 1) := by decide +kernel
theorem d_Law_door_21 : decode b_Law_door 21 = .ok (.astore 6, 2) := by decide +kernel
theorem d_Law_door_23 : decode b_Law_door 23 = .ok (.iconst 2, 1) := by decide +kernel
theorem d_Law_door_24 : decode b_Law_door 24 = .ok (.ireturn, 1) := by decide +kernel
theorem d_Law_door_25 : decode b_Law_door 25 = .ok (.astore 6, 2) := by decide +kernel
theorem d_Law_door_27 : decode b_Law_door 27 = .ok (.iconst 3, 1) := by decide +kernel
theorem d_Law_door_28 : decode b_Law_door 28 = .ok (.ireturn, 1) := by decide +kernel
theorem d_Law_door_29 : decode b_Law_door 29 = .ok (.astore 6, 2) := by decide +kernel
theorem d_Law_door_31 : decode b_Law_door 31 = .ok (.iconst 4, 1) := by decide +kernel
theorem d_Law_door_32 : decode b_Law_door 32 = .ok (.ireturn, 1) := by decide +kernel
theorem d_Law_door_33 : decode b_Law_door 33 = .ok (.iconst 0, 1) := by decide +kernel
theorem d_Law_door_34 : decode b_Law_door 34 = .ok (.ireturn, 1) := by decide +kernel
theorem d_Law_key_0 : decode b_Law_key 0 = .ok (.aload_n 0, 1) := by decide +kernel
theorem d_Law_key_1 : decode b_Law_key 1 = .ok (.iload_n 1, 1) := by decide +kernel
theorem d_Law_key_2 : decode b_Law_key 2 = .ok (.iload_n 2, 1) := by decide +kernel
theorem d_Law_key_3 : decode b_Law_key 3 = .ok (.invokevirtual 25, 3) := by decide +kernel
theorem d_Law_key_6 : decode b_Law_key 6 = .ok (.goto 9, 3) := by decide +kernel
theorem d_Law_key_9 : decode b_Law_key 9 = .ok (.astore_n 3, 1) := by decide +kernel
theorem d_Law_key_10 : decode b_Law_key 10 = .ok (.iconst 1, 1) := by decide +kernel
theorem d_Law_key_11 : decode b_Law_key 11 = .ok (.ireturn, 1) := by decide +kernel
theorem d_Law_key_12 : decode b_Law_key 12 = .ok (.astore_n 3, 1) := by decide +kernel
theorem d_Law_key_13 : decode b_Law_key 13 = .ok (.iconst 2, 1) := by decide +kernel
theorem d_Law_key_14 : decode b_Law_key 14 = .ok (.ireturn, 1) := by decide +kernel
theorem d_Law_key_15 : decode b_Law_key 15 = .ok (.iconst 0, 1) := by decide +kernel
theorem d_Law_key_16 : decode b_Law_key 16 = .ok (.ireturn, 1) := by decide +kernel
theorem d_Law_hazard_0 : decode b_Law_hazard 0 = .ok (.aload_n 0, 1) := by decide +kernel
theorem d_Law_hazard_1 : decode b_Law_hazard 1 = .ok (.iload_n 1, 1) := by decide +kernel
theorem d_Law_hazard_2 : decode b_Law_hazard 2 = .ok (.iload_n 2, 1) := by decide +kernel
theorem d_Law_hazard_3 : decode b_Law_hazard 3 = .ok (.invokevirtual 29, 3) := by decide +kernel
theorem d_Law_hazard_6 : decode b_Law_hazard 6 = .ok (.goto 9, 3) := by decide +kernel
theorem d_Law_hazard_9 : decode b_Law_hazard 9 = .ok (.astore_n 3, 1) := by decide +kernel
theorem d_Law_hazard_10 : decode b_Law_hazard 10 = .ok (.iconst 1, 1) := by decide +kernel
theorem d_Law_hazard_11 : decode b_Law_hazard 11 = .ok (.ireturn, 1) := by decide +kernel
theorem d_Law_hazard_12 : decode b_Law_hazard 12 = .ok (.astore_n 3, 1) := by decide +kernel
theorem d_Law_hazard_13 : decode b_Law_hazard 13 = .ok (.iconst 2, 1) := by decide +kernel
theorem d_Law_hazard_14 : decode b_Law_hazard 14 = .ok (.ireturn, 1) := by decide +kernel
theorem d_Law_hazard_15 : decode b_Law_hazard 15 = .ok (.iconst 0, 1) := by decide +kernel
theorem d_Law_hazard_16 : decode b_Law_hazard 16 = .ok (.ireturn, 1) := by decide +kernel
theorem d_Law_way_0 : decode b_Law_way 0 = .ok (.aload 4, 2) := by decide +kernel
theorem d_Law_way_2 : decode b_Law_way 2 = .ok (.iconst 0, 1) := by decide +kernel
theorem d_Law_way_3 : decode b_Law_way 3 = .ok (.aload_n 0, 1) := by decide +kernel
theorem d_Law_way_4 : decode b_Law_way 4 = .ok (.iload_n 1, 1) := by decide +kernel
theorem d_Law_way_5 : decode b_Law_way 5 = .ok (.iload_n 2, 1) := by decide +kernel
theorem d_Law_way_6 : decode b_Law_way 6 = .ok (.iload_n 3, 1) := by decide +kernel
theorem d_Law_way_7 : decode b_Law_way 7 = .ok (.invokevirtual 33, 3) := by decide +kernel
theorem d_Law_way_10 : decode b_Law_way 10 = .ok (.i2l, 1) := by decide +kernel
theorem d_Law_way_11 : decode b_Law_way 11 = .ok (.lastore, 1) := by decide +kernel
theorem d_Law_way_12 : decode b_Law_way 12 = .ok (.goto 11, 3) := by decide +kernel
theorem d_Law_way_15 : decode b_Law_way 15 = .ok (.astore 5, 2) := by decide +kernel
theorem d_Law_way_17 : decode b_Law_way 17 = .ok (.iconst 1, 1) := by decide +kernel
theorem d_Law_way_18 : decode b_Law_way 18 = .ok (.ireturn, 1) := by decide +kernel
theorem d_Law_way_19 : decode b_Law_way 19 = .ok (.astore 5, 2) := by decide +kernel
theorem d_Law_way_21 : decode b_Law_way 21 = .ok (.iconst 2, 1) := by decide +kernel
theorem d_Law_way_22 : decode b_Law_way 22 = .ok (.ireturn, 1) := by decide +kernel
theorem d_Law_way_23 : decode b_Law_way 23 = .ok (.iconst 0, 1) := by decide +kernel
theorem d_Law_way_24 : decode b_Law_way 24 = .ok (.ireturn, 1) := by decide +kernel
theorem d_Law_step_0 : decode b_Law_step 0 = .ok (.aload_n 2, 1) := by decide +kernel
theorem d_Law_step_1 : decode b_Law_step 1 = .ok (.iconst 0, 1) := by decide +kernel
theorem d_Law_step_2 : decode b_Law_step 2 = .ok (.aload_n 0, 1) := by decide +kernel
theorem d_Law_step_3 : decode b_Law_step 3 = .ok (.iload_n 1, 1) := by decide +kernel
theorem d_Law_step_4 : decode b_Law_step 4 = .ok (.invokevirtual 37, 3) := by decide +kernel
theorem d_Law_step_7 : decode b_Law_step 7 = .ok (.i2l, 1) := by decide +kernel
theorem d_Law_step_8 : decode b_Law_step 8 = .ok (.lastore, 1) := by decide +kernel
theorem d_Law_step_9 : decode b_Law_step 9 = .ok (.goto 6, 3) := by decide +kernel
theorem d_Law_step_12 : decode b_Law_step 12 = .ok (.astore_n 3, 1) := by decide +kernel
theorem d_Law_step_13 : decode b_Law_step 13 = .ok (.iconst 1, 1) := by decide +kernel
theorem d_Law_step_14 : decode b_Law_step 14 = .ok (.ireturn, 1) := by decide +kernel
theorem d_Law_step_15 : decode b_Law_step 15 = .ok (.iconst 0, 1) := by decide +kernel
theorem d_Law_step_16 : decode b_Law_step 16 = .ok (.ireturn, 1) := by decide +kernel
theorem d_Law_told_0 : decode b_Law_told 0 = .ok (.aload_n 2, 1) := by decide +kernel
theorem d_Law_told_1 : decode b_Law_told 1 = .ok (.iconst 0, 1) := by decide +kernel
theorem d_Law_told_2 : decode b_Law_told 2 = .ok (.aload_n 0, 1) := by decide +kernel
theorem d_Law_told_3 : decode b_Law_told 3 = .ok (.iload_n 1, 1) := by decide +kernel
theorem d_Law_told_4 : decode b_Law_told 4 = .ok (.invokevirtual 41, 3) := by decide +kernel
theorem d_Law_told_7 : decode b_Law_told 7 = .ok (.i2l, 1) := by decide +kernel
theorem d_Law_told_8 : decode b_Law_told 8 = .ok (.lastore, 1) := by decide +kernel
theorem d_Law_told_9 : decode b_Law_told 9 = .ok (.goto 6, 3) := by decide +kernel
theorem d_Law_told_12 : decode b_Law_told 12 = .ok (.astore_n 3, 1) := by decide +kernel
theorem d_Law_told_13 : decode b_Law_told 13 = .ok (.iconst 1, 1) := by decide +kernel
theorem d_Law_told_14 : decode b_Law_told 14 = .ok (.ireturn, 1) := by decide +kernel
theorem d_Law_told_15 : decode b_Law_told 15 = .ok (.iconst 0, 1) := by decide +kernel
theorem d_Law_told_16 : decode b_Law_told 16 = .ok (.ireturn, 1) := by decide +kernel
theorem d_Law_hoses_0 : decode b_Law_hoses 0 = .ok (.aload_n 3, 1) := by decide +kernel
theorem d_Law_hoses_1 : decode b_Law_hoses 1 = .ok (.iconst 0, 1) := by decide +kernel
theorem d_Law_hoses_2 : decode b_Law_hoses 2 = .ok (.aload_n 0, 1) := by decide +kernel
theorem d_Law_hoses_3 : decode b_Law_hoses 3 = .ok (.iload_n 1, 1) := by decide +kernel
theorem d_Law_hoses_4 : decode b_Law_hoses 4 = .ok (.iload_n 2, 1) := by decide +kernel
theorem d_Law_hoses_5 : decode b_Law_hoses 5 = .ok (.invokevirtual 44, 3) := by decide +kernel
theorem d_Law_hoses_8 : decode b_Law_hoses 8 = .ok (.i2l, 1) := by decide +kernel
theorem d_Law_hoses_9 : decode b_Law_hoses 9 = .ok (.lastore, 1) := by decide +kernel
theorem d_Law_hoses_10 : decode b_Law_hoses 10 = .ok (.goto 11, 3) := by decide +kernel
theorem d_Law_hoses_13 : decode b_Law_hoses 13 = .ok (.astore 4, 2) := by decide +kernel
theorem d_Law_hoses_15 : decode b_Law_hoses 15 = .ok (.iconst 1, 1) := by decide +kernel
theorem d_Law_hoses_16 : decode b_Law_hoses 16 = .ok (.ireturn, 1) := by decide +kernel
theorem d_Law_hoses_17 : decode b_Law_hoses 17 = .ok (.astore 4, 2) := by decide +kernel
theorem d_Law_hoses_19 : decode b_Law_hoses 19 = .ok (.iconst 2, 1) := by decide +kernel
theorem d_Law_hoses_20 : decode b_Law_hoses 20 = .ok (.ireturn, 1) := by decide +kernel
theorem d_Law_hoses_21 : decode b_Law_hoses 21 = .ok (.iconst 0, 1) := by decide +kernel
theorem d_Law_hoses_22 : decode b_Law_hoses 22 = .ok (.ireturn, 1) := by decide +kernel
theorem d_Law_trapped_0 : decode b_Law_trapped 0 = .ok (.aload_n 2, 1) := by decide +kernel
theorem d_Law_trapped_1 : decode b_Law_trapped 1 = .ok (.iconst 0, 1) := by decide +kernel
theorem d_Law_trapped_2 : decode b_Law_trapped 2 = .ok (.aload_n 0, 1) := by decide +kernel
theorem d_Law_trapped_3 : decode b_Law_trapped 3 = .ok (.iload_n 1, 1) := by decide +kernel
theorem d_Law_trapped_4 : decode b_Law_trapped 4 = .ok (.invokevirtual 47, 3) := by decide +kernel
theorem d_Law_trapped_7 : decode b_Law_trapped 7 = .ok (.i2l, 1) := by decide +kernel
theorem d_Law_trapped_8 : decode b_Law_trapped 8 = .ok (.lastore, 1) := by decide +kernel
theorem d_Law_trapped_9 : decode b_Law_trapped 9 = .ok (.goto 6, 3) := by decide +kernel
theorem d_Law_trapped_12 : decode b_Law_trapped 12 = .ok (.astore_n 3, 1) := by decide +kernel
theorem d_Law_trapped_13 : decode b_Law_trapped 13 = .ok (.iconst 1, 1) := by decide +kernel
theorem d_Law_trapped_14 : decode b_Law_trapped 14 = .ok (.ireturn, 1) := by decide +kernel
theorem d_Law_trapped_15 : decode b_Law_trapped 15 = .ok (.iconst 0, 1) := by decide +kernel
theorem d_Law_trapped_16 : decode b_Law_trapped 16 = .ok (.ireturn, 1) := by decide +kernel
theorem d_Law_missing_0 : decode b_Law_missing 0 = .ok (.aload_n 2, 1) := by decide +kernel
theorem d_Law_missing_1 : decode b_Law_missing 1 = .ok (.iconst 0, 1) := by decide +kernel
theorem d_Law_missing_2 : decode b_Law_missing 2 = .ok (.aload_n 0, 1) := by decide +kernel
theorem d_Law_missing_3 : decode b_Law_missing 3 = .ok (.iload_n 1, 1) := by decide +kernel
theorem d_Law_missing_4 : decode b_Law_missing 4 = .ok (.invokevirtual 50, 3) := by decide +kernel
theorem d_Law_missing_7 : decode b_Law_missing 7 = .ok (.i2l, 1) := by decide +kernel
theorem d_Law_missing_8 : decode b_Law_missing 8 = .ok (.lastore, 1) := by decide +kernel
theorem d_Law_missing_9 : decode b_Law_missing 9 = .ok (.goto 6, 3) := by decide +kernel
theorem d_Law_missing_12 : decode b_Law_missing 12 = .ok (.astore_n 3, 1) := by decide +kernel
theorem d_Law_missing_13 : decode b_Law_missing 13 = .ok (.iconst 1, 1) := by decide +kernel
theorem d_Law_missing_14 : decode b_Law_missing 14 = .ok (.ireturn, 1) := by decide +kernel
theorem d_Law_missing_15 : decode b_Law_missing 15 = .ok (.iconst 0, 1) := by decide +kernel
theorem d_Law_missing_16 : decode b_Law_missing 16 = .ok (.ireturn, 1) := by decide +kernel
theorem d_Law_detector_0 : decode b_Law_detector 0 = .ok (.aload_n 0, 1) := by decide +kernel
theorem d_Law_detector_1 : decode b_Law_detector 1 = .ok (.iload_n 1, 1) := by decide +kernel
theorem d_Law_detector_2 : decode b_Law_detector 2 = .ok (.iload_n 2, 1) := by decide +kernel
theorem d_Law_detector_3 : decode b_Law_detector 3 = .ok (.iload_n 3, 1) := by decide +kernel
theorem d_Law_detector_4 : decode b_Law_detector 4 = .ok (.invokevirtual 53, 3) := by decide +kernel
theorem d_Law_detector_7 : decode b_Law_detector 7 = .ok (.goto 19, 3) := by decide +kernel
theorem d_Law_detector_10 : decode b_Law_detector 10 = .ok (.astore 4, 2) := by decide +kernel
theorem d_Law_detector_12 : decode b_Law_detector 12 = .ok (.iconst 1, 1) := by decide +kernel
theorem d_Law_detector_13 : decode b_Law_detector 13 = .ok (.ireturn, 1) := by decide +kernel
theorem d_Law_detector_14 : decode b_Law_detector 14 = .ok (.astore 4, 2) := by decide +kernel
theorem d_Law_detector_16 : decode b_Law_detector 16 = .ok (.iconst 2, 1) := by decide +kernel
theorem d_Law_detector_17 : decode b_Law_detector 17 = .ok (.ireturn, 1) := by decide +kernel
theorem d_Law_detector_18 : decode b_Law_detector 18 = .ok (.astore 4, 2) := by decide +kernel
theorem d_Law_detector_20 : decode b_Law_detector 20 = .ok (.iconst 3, 1) := by decide +kernel
theorem d_Law_detector_21 : decode b_Law_detector 21 = .ok (.ireturn, 1) := by decide +kernel
theorem d_Law_detector_22 : decode b_Law_detector 22 = .ok (.astore 4, 2) := by decide +kernel
theorem d_Law_detector_24 : decode b_Law_detector 24 = .ok (.iconst 4, 1) := by decide +kernel
theorem d_Law_detector_25 : decode b_Law_detector 25 = .ok (.ireturn, 1) := by decide +kernel
theorem d_Law_detector_26 : decode b_Law_detector 26 = .ok (.iconst 0, 1) := by decide +kernel
theorem d_Law_detector_27 : decode b_Law_detector 27 = .ok (.ireturn, 1) := by decide +kernel
theorem d_Law_alarm_0 : decode b_Law_alarm 0 = .ok (.aload_n 3, 1) := by decide +kernel
theorem d_Law_alarm_1 : decode b_Law_alarm 1 = .ok (.iconst 0, 1) := by decide +kernel
theorem d_Law_alarm_2 : decode b_Law_alarm 2 = .ok (.aload_n 0, 1) := by decide +kernel
theorem d_Law_alarm_3 : decode b_Law_alarm 3 = .ok (.iload_n 1, 1) := by decide +kernel
theorem d_Law_alarm_4 : decode b_Law_alarm 4 = .ok (.iload_n 2, 1) := by decide +kernel
theorem d_Law_alarm_5 : decode b_Law_alarm 5 = .ok (.invokevirtual 57, 3) := by decide +kernel
theorem d_Law_alarm_8 : decode b_Law_alarm 8 = .ok (.i2l, 1) := by decide +kernel
theorem d_Law_alarm_9 : decode b_Law_alarm 9 = .ok (.lastore, 1) := by decide +kernel
theorem d_Law_alarm_10 : decode b_Law_alarm 10 = .ok (.goto 7, 3) := by decide +kernel
theorem d_Law_alarm_13 : decode b_Law_alarm 13 = .ok (.astore 4, 2) := by decide +kernel
theorem d_Law_alarm_15 : decode b_Law_alarm 15 = .ok (.iconst 1, 1) := by decide +kernel
theorem d_Law_alarm_16 : decode b_Law_alarm 16 = .ok (.ireturn, 1) := by decide +kernel
theorem d_Law_alarm_17 : decode b_Law_alarm 17 = .ok (.iconst 0, 1) := by decide +kernel
theorem d_Law_alarm_18 : decode b_Law_alarm 18 = .ok (.ireturn, 1) := by decide +kernel
theorem d_Law_people_0 : decode b_Law_people 0 = .ok (.aload 5, 2) := by decide +kernel
theorem d_Law_people_2 : decode b_Law_people 2 = .ok (.iconst 0, 1) := by decide +kernel
theorem d_Law_people_3 : decode b_Law_people 3 = .ok (.aload_n 0, 1) := by decide +kernel
theorem d_Law_people_4 : decode b_Law_people 4 = .ok (.iload_n 1, 1) := by decide +kernel
theorem d_Law_people_5 : decode b_Law_people 5 = .ok (.iload_n 2, 1) := by decide +kernel
theorem d_Law_people_6 : decode b_Law_people 6 = .ok (.iload_n 3, 1) := by decide +kernel
theorem d_Law_people_7 : decode b_Law_people 7 = .ok (.iload 4, 2) := by decide +kernel
theorem d_Law_people_9 : decode b_Law_people 9 = .ok (.invokevirtual 60, 3) := by decide +kernel
theorem d_Law_people_12 : decode b_Law_people 12 = .ok (.i2l, 1) := by decide +kernel
theorem d_Law_people_13 : decode b_Law_people 13 = .ok (.lastore, 1) := by decide +kernel
theorem d_Law_people_14 : decode b_Law_people 14 = .ok (.goto 15, 3) := by decide +kernel
theorem d_Law_people_17 : decode b_Law_people 17 = .ok (.astore 6, 2) := by decide +kernel
theorem d_Law_people_19 : decode b_Law_people 19 = .ok (.iconst 1, 1) := by decide +kernel
theorem d_Law_people_20 : decode b_Law_people 20 = .ok (.ireturn, 1) := by decide +kernel
theorem d_Law_people_21 : decode b_Law_people 21 = .ok (.astore 6, 2) := by decide +kernel
theorem d_Law_people_23 : decode b_Law_people 23 = .ok (.iconst 2, 1) := by decide +kernel
theorem d_Law_people_24 : decode b_Law_people 24 = .ok (.ireturn, 1) := by decide +kernel
theorem d_Law_people_25 : decode b_Law_people 25 = .ok (.astore 6, 2) := by decide +kernel
theorem d_Law_people_27 : decode b_Law_people 27 = .ok (.iconst 3, 1) := by decide +kernel
theorem d_Law_people_28 : decode b_Law_people 28 = .ok (.ireturn, 1) := by decide +kernel
theorem d_Law_people_29 : decode b_Law_people 29 = .ok (.iconst 0, 1) := by decide +kernel
theorem d_Law_people_30 : decode b_Law_people 30 = .ok (.ireturn, 1) := by decide +kernel
theorem d_Law_inside_0 : decode b_Law_inside 0 = .ok (.aload_n 3, 1) := by decide +kernel
theorem d_Law_inside_1 : decode b_Law_inside 1 = .ok (.iconst 0, 1) := by decide +kernel
theorem d_Law_inside_2 : decode b_Law_inside 2 = .ok (.aload_n 0, 1) := by decide +kernel
theorem d_Law_inside_3 : decode b_Law_inside 3 = .ok (.iload_n 1, 1) := by decide +kernel
theorem d_Law_inside_4 : decode b_Law_inside 4 = .ok (.iload_n 2, 1) := by decide +kernel
theorem d_Law_inside_5 : decode b_Law_inside 5 = .ok (.invokevirtual 63, 3) := by decide +kernel
theorem d_Law_inside_8 : decode b_Law_inside 8 = .ok (.i2l, 1) := by decide +kernel
theorem d_Law_inside_9 : decode b_Law_inside 9 = .ok (.lastore, 1) := by decide +kernel
theorem d_Law_inside_10 : decode b_Law_inside 10 = .ok (.goto 11, 3) := by decide +kernel
theorem d_Law_inside_13 : decode b_Law_inside 13 = .ok (.astore 4, 2) := by decide +kernel
theorem d_Law_inside_15 : decode b_Law_inside 15 = .ok (.iconst 1, 1) := by decide +kernel
theorem d_Law_inside_16 : decode b_Law_inside 16 = .ok (.ireturn, 1) := by decide +kernel
theorem d_Law_inside_17 : decode b_Law_inside 17 = .ok (.astore 4, 2) := by decide +kernel
theorem d_Law_inside_19 : decode b_Law_inside 19 = .ok (.iconst 2, 1) := by decide +kernel
theorem d_Law_inside_20 : decode b_Law_inside 20 = .ok (.ireturn, 1) := by decide +kernel
theorem d_Law_inside_21 : decode b_Law_inside 21 = .ok (.iconst 0, 1) := by decide +kernel
theorem d_Law_inside_22 : decode b_Law_inside 22 = .ok (.ireturn, 1) := by decide +kernel
theorem d_Law_window_0 : decode b_Law_window 0 = .ok (.aload 5, 2) := by decide +kernel
theorem d_Law_window_2 : decode b_Law_window 2 = .ok (.iconst 0, 1) := by decide +kernel
theorem d_Law_window_3 : decode b_Law_window 3 = .ok (.aload_n 0, 1) := by decide +kernel
theorem d_Law_window_4 : decode b_Law_window 4 = .ok (.iload_n 1, 1) := by decide +kernel
theorem d_Law_window_5 : decode b_Law_window 5 = .ok (.iload_n 2, 1) := by decide +kernel
theorem d_Law_window_6 : decode b_Law_window 6 = .ok (.iload_n 3, 1) := by decide +kernel
theorem d_Law_window_7 : decode b_Law_window 7 = .ok (.iload 4, 2) := by decide +kernel
theorem d_Law_window_9 : decode b_Law_window 9 = .ok (.invokevirtual 66, 3) := by decide +kernel
theorem d_Law_window_12 : decode b_Law_window 12 = .ok (.i2l, 1) := by decide +kernel
theorem d_Law_window_13 : decode b_Law_window 13 = .ok (.lastore, 1) := by decide +kernel
theorem d_Law_window_14 : decode b_Law_window 14 = .ok (.goto 15, 3) := by decide +kernel
theorem d_Law_window_17 : decode b_Law_window 17 = .ok (.astore 6, 2) := by decide +kernel
theorem d_Law_window_19 : decode b_Law_window 19 = .ok (.iconst 1, 1) := by decide +kernel
theorem d_Law_window_20 : decode b_Law_window 20 = .ok (.ireturn, 1) := by decide +kernel
theorem d_Law_window_21 : decode b_Law_window 21 = .ok (.astore 6, 2) := by decide +kernel
theorem d_Law_window_23 : decode b_Law_window 23 = .ok (.iconst 2, 1) := by decide +kernel
theorem d_Law_window_24 : decode b_Law_window 24 = .ok (.ireturn, 1) := by decide +kernel
theorem d_Law_window_25 : decode b_Law_window 25 = .ok (.astore 6, 2) := by decide +kernel
theorem d_Law_window_27 : decode b_Law_window 27 = .ok (.iconst 3, 1) := by decide +kernel
theorem d_Law_window_28 : decode b_Law_window 28 = .ok (.ireturn, 1) := by decide +kernel
theorem d_Law_window_29 : decode b_Law_window 29 = .ok (.iconst 0, 1) := by decide +kernel
theorem d_Law_window_30 : decode b_Law_window 30 = .ok (.ireturn, 1) := by decide +kernel
theorem d_Law_reaches_0 : decode b_Law_reaches 0 = .ok (.aload 6, 2) := by decide +kernel
theorem d_Law_reaches_2 : decode b_Law_reaches 2 = .ok (.iconst 0, 1) := by decide +kernel
theorem d_Law_reaches_3 : decode b_Law_reaches 3 = .ok (.aload_n 0, 1) := by decide +kernel
theorem d_Law_reaches_4 : decode b_Law_reaches 4 = .ok (.iload_n 1, 1) := by decide +kernel
theorem d_Law_reaches_5 : decode b_Law_reaches 5 = .ok (.iload_n 2, 1) := by decide +kernel
theorem d_Law_reaches_6 : decode b_Law_reaches 6 = .ok (.iload_n 3, 1) := by decide +kernel
theorem d_Law_reaches_7 : decode b_Law_reaches 7 = .ok (.iload 4, 2) := by decide +kernel
theorem d_Law_reaches_9 : decode b_Law_reaches 9 = .ok (.iload 5, 2) := by decide +kernel
theorem d_Law_reaches_11 : decode b_Law_reaches 11 = .ok (.invokevirtual 69, 3) := by decide +kernel
theorem d_Law_reaches_14 : decode b_Law_reaches 14 = .ok (.ifCond .eq 7, 3) := by decide +kernel
theorem d_Law_reaches_17 : decode b_Law_reaches 17 = .ok (.lconst 1, 1) := by decide +kernel
theorem d_Law_reaches_18 : decode b_Law_reaches 18 = .ok (.goto 4, 3) := by decide +kernel
theorem d_Law_reaches_21 : decode b_Law_reaches 21 = .ok (.lconst 0, 1) := by decide +kernel
theorem d_Law_reaches_22 : decode b_Law_reaches 22 = .ok (.lastore, 1) := by decide +kernel
theorem d_Law_reaches_23 : decode b_Law_reaches 23 = .ok (.goto 11, 3) := by decide +kernel
theorem d_Law_reaches_26 : decode b_Law_reaches 26 = .ok (.astore 7, 2) := by decide +kernel
theorem d_Law_reaches_28 : decode b_Law_reaches 28 = .ok (.iconst 1, 1) := by decide +kernel
theorem d_Law_reaches_29 : decode b_Law_reaches 29 = .ok (.ireturn, 1) := by decide +kernel
theorem d_Law_reaches_30 : decode b_Law_reaches 30 = .ok (.astore 7, 2) := by decide +kernel
theorem d_Law_reaches_32 : decode b_Law_reaches 32 = .ok (.iconst 2, 1) := by decide +kernel
theorem d_Law_reaches_33 : decode b_Law_reaches 33 = .ok (.ireturn, 1) := by decide +kernel
theorem d_Law_reaches_34 : decode b_Law_reaches 34 = .ok (.iconst 0, 1) := by decide +kernel
theorem d_Law_reaches_35 : decode b_Law_reaches 35 = .ok (.ireturn, 1) := by decide +kernel
theorem d_Law_ladder_0 : decode b_Law_ladder 0 = .ok (.aload 5, 2) := by decide +kernel
theorem d_Law_ladder_2 : decode b_Law_ladder 2 = .ok (.iconst 0, 1) := by decide +kernel
theorem d_Law_ladder_3 : decode b_Law_ladder 3 = .ok (.aload_n 0, 1) := by decide +kernel
theorem d_Law_ladder_4 : decode b_Law_ladder 4 = .ok (.iload_n 1, 1) := by decide +kernel
theorem d_Law_ladder_5 : decode b_Law_ladder 5 = .ok (.iload_n 2, 1) := by decide +kernel
theorem d_Law_ladder_6 : decode b_Law_ladder 6 = .ok (.iload_n 3, 1) := by decide +kernel
theorem d_Law_ladder_7 : decode b_Law_ladder 7 = .ok (.iload 4, 2) := by decide +kernel
theorem d_Law_ladder_9 : decode b_Law_ladder 9 = .ok (.invokevirtual 73, 3) := by decide +kernel
theorem d_Law_ladder_12 : decode b_Law_ladder 12 = .ok (.i2l, 1) := by decide +kernel
theorem d_Law_ladder_13 : decode b_Law_ladder 13 = .ok (.lastore, 1) := by decide +kernel
theorem d_Law_ladder_14 : decode b_Law_ladder 14 = .ok (.goto 11, 3) := by decide +kernel
theorem d_Law_ladder_17 : decode b_Law_ladder 17 = .ok (.astore 6, 2) := by decide +kernel
theorem d_Law_ladder_19 : decode b_Law_ladder 19 = .ok (.iconst 1, 1) := by decide +kernel
theorem d_Law_ladder_20 : decode b_Law_ladder 20 = .ok (.ireturn, 1) := by decide +kernel
theorem d_Law_ladder_21 : decode b_Law_ladder 21 = .ok (.astore 6, 2) := by decide +kernel
theorem d_Law_ladder_23 : decode b_Law_ladder 23 = .ok (.iconst 2, 1) := by decide +kernel
theorem d_Law_ladder_24 : decode b_Law_ladder 24 = .ok (.ireturn, 1) := by decide +kernel
theorem d_Law_ladder_25 : decode b_Law_ladder 25 = .ok (.iconst 0, 1) := by decide +kernel
theorem d_Law_ladder_26 : decode b_Law_ladder 26 = .ok (.ireturn, 1) := by decide +kernel
theorem d_Law_look_0 : decode b_Law_look 0 = .ok (.aload_n 0, 1) := by decide +kernel
theorem d_Law_look_1 : decode b_Law_look 1 = .ok (.iload_n 1, 1) := by decide +kernel
theorem d_Law_look_2 : decode b_Law_look 2 = .ok (.iload_n 2, 1) := by decide +kernel
theorem d_Law_look_3 : decode b_Law_look 3 = .ok (.invokevirtual 76, 3) := by decide +kernel
theorem d_Law_look_6 : decode b_Law_look 6 = .ok (.goto 6, 3) := by decide +kernel
theorem d_Law_look_9 : decode b_Law_look 9 = .ok (.astore_n 3, 1) := by decide +kernel
theorem d_Law_look_10 : decode b_Law_look 10 = .ok (.iconst 1, 1) := by decide +kernel
theorem d_Law_look_11 : decode b_Law_look 11 = .ok (.ireturn, 1) := by decide +kernel
theorem d_Law_look_12 : decode b_Law_look 12 = .ok (.iconst 0, 1) := by decide +kernel
theorem d_Law_look_13 : decode b_Law_look 13 = .ok (.ireturn, 1) := by decide +kernel
theorem d_Law_old_0 : decode b_Law_old 0 = .ok (.aload_n 2, 1) := by decide +kernel
theorem d_Law_old_1 : decode b_Law_old 1 = .ok (.iconst 0, 1) := by decide +kernel
theorem d_Law_old_2 : decode b_Law_old 2 = .ok (.aload_n 0, 1) := by decide +kernel
theorem d_Law_old_3 : decode b_Law_old 3 = .ok (.iload_n 1, 1) := by decide +kernel
theorem d_Law_old_4 : decode b_Law_old 4 = .ok (.invokevirtual 79, 3) := by decide +kernel
theorem d_Law_old_7 : decode b_Law_old 7 = .ok (.ifCond .eq 7, 3) := by decide +kernel
theorem d_Law_old_10 : decode b_Law_old 10 = .ok (.lconst 1, 1) := by decide +kernel
theorem d_Law_old_11 : decode b_Law_old 11 = .ok (.goto 4, 3) := by decide +kernel
theorem d_Law_old_14 : decode b_Law_old 14 = .ok (.lconst 0, 1) := by decide +kernel
theorem d_Law_old_15 : decode b_Law_old 15 = .ok (.lastore, 1) := by decide +kernel
theorem d_Law_old_16 : decode b_Law_old 16 = .ok (.goto 6, 3) := by decide +kernel
theorem d_Law_old_19 : decode b_Law_old 19 = .ok (.astore_n 3, 1) := by decide +kernel
theorem d_Law_old_20 : decode b_Law_old 20 = .ok (.iconst 1, 1) := by decide +kernel
theorem d_Law_old_21 : decode b_Law_old 21 = .ok (.ireturn, 1) := by decide +kernel
theorem d_Law_old_22 : decode b_Law_old 22 = .ok (.iconst 0, 1) := by decide +kernel
theorem d_Law_old_23 : decode b_Law_old 23 = .ok (.ireturn, 1) := by decide +kernel
theorem d_Law_count_0 : decode b_Law_count 0 = .ok (.aload_n 2, 1) := by decide +kernel
theorem d_Law_count_1 : decode b_Law_count 1 = .ok (.iconst 0, 1) := by decide +kernel
theorem d_Law_count_2 : decode b_Law_count 2 = .ok (.aload_n 0, 1) := by decide +kernel
theorem d_Law_count_3 : decode b_Law_count 3 = .ok (.iload_n 1, 1) := by decide +kernel
theorem d_Law_count_4 : decode b_Law_count 4 = .ok (.invokevirtual 83, 3) := by decide +kernel
theorem d_Law_count_7 : decode b_Law_count 7 = .ok (.i2l, 1) := by decide +kernel
theorem d_Law_count_8 : decode b_Law_count 8 = .ok (.lastore, 1) := by decide +kernel
theorem d_Law_count_9 : decode b_Law_count 9 = .ok (.goto 6, 3) := by decide +kernel
theorem d_Law_count_12 : decode b_Law_count 12 = .ok (.astore_n 3, 1) := by decide +kernel
theorem d_Law_count_13 : decode b_Law_count 13 = .ok (.iconst 1, 1) := by decide +kernel
theorem d_Law_count_14 : decode b_Law_count 14 = .ok (.ireturn, 1) := by decide +kernel
theorem d_Law_count_15 : decode b_Law_count 15 = .ok (.iconst 0, 1) := by decide +kernel
theorem d_Law_count_16 : decode b_Law_count 16 = .ok (.ireturn, 1) := by decide +kernel
