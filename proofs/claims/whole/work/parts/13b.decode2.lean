theorem d_Plan_init_0 : decode b_Plan_init 0 = .ok (.aload_n 0, 1) := by decide +kernel
theorem d_Plan_init_1 : decode b_Plan_init 1 = .ok (.invokespecial 1, 3) := by decide +kernel
theorem d_Plan_init_4 : decode b_Plan_init 4 = .ok (.aload_n 0, 1) := by decide +kernel
theorem d_Plan_init_5 : decode b_Plan_init 5 = .ok (.new 7, 3) := by decide +kernel
theorem d_Plan_init_8 : decode b_Plan_init 8 = .ok (.dup, 1) := by decide +kernel
theorem d_Plan_init_9 : decode b_Plan_init 9 = .ok (.invokespecial 9, 3) := by decide +kernel
theorem d_Plan_init_12 : decode b_Plan_init 12 = .ok (.putfield 10, 3) := by decide +kernel
theorem d_Plan_init_15 : decode b_Plan_init 15 = .ok (.aload_n 0, 1) := by decide +kernel
theorem d_Plan_init_16 : decode b_Plan_init 16 = .ok (.new 16, 3) := by decide +kernel
theorem d_Plan_init_19 : decode b_Plan_init 19 = .ok (.dup, 1) := by decide +kernel
theorem d_Plan_init_20 : decode b_Plan_init 20 = .ok (.invokespecial 18, 3) := by decide +kernel
theorem d_Plan_init_23 : decode b_Plan_init 23 = .ok (.putfield 19, 3) := by decide +kernel
theorem d_Plan_init_26 : decode b_Plan_init 26 = .ok (.aload_n 0, 1) := by decide +kernel
theorem d_Plan_init_27 : decode b_Plan_init 27 = .ok (.new 23, 3) := by decide +kernel
theorem d_Plan_init_30 : decode b_Plan_init 30 = .ok (.dup, 1) := by decide +kernel
theorem d_Plan_init_31 : decode b_Plan_init 31 = .ok (.invokespecial 25, 3) := by decide +kernel
theorem d_Plan_init_34 : decode b_Plan_init 34 = .ok (.putfield 26, 3) := by decide +kernel
theorem d_Plan_init_37 : decode b_Plan_init 37 = .ok (.aload_n 0, 1) := by decide +kernel
theorem d_Plan_init_38 : decode b_Plan_init 38 = .ok (.new 30, 3) := by decide +kernel
theorem d_Plan_init_41 : decode b_Plan_init 41 = .ok (.dup, 1) := by decide +kernel
theorem d_Plan_init_42 : decode b_Plan_init 42 = .ok (.aload_n 0, 1) := by decide +kernel
theorem d_Plan_init_43 : decode b_Plan_init 43 = .ok (.getfield 10, 3) := by decide +kernel
theorem d_Plan_init_46 : decode b_Plan_init 46 = .ok (.aload_n 0, 1) := by decide +kernel
theorem d_Plan_init_47 : decode b_Plan_init 47 = .ok (.getfield 19, 3) := by decide +kernel
theorem d_Plan_init_50 : decode b_Plan_init 50 = .ok (.aload_n 0, 1) := by decide +kernel
theorem d_Plan_init_51 : decode b_Plan_init 51 = .ok (.getfield 26, 3) := by decide +kernel
theorem d_Plan_init_54 : decode b_Plan_init 54 = .ok (.invokespecial 32, 3) := by decide +kernel
theorem d_Plan_init_57 : decode b_Plan_init 57 = .ok (.putfield 35, 3) := by decide +kernel
theorem d_Plan_init_60 : decode b_Plan_init 60 = .ok (.aload_n 0, 1) := by decide +kernel
theorem d_Plan_init_61 : decode b_Plan_init 61 = .ok (.new 39, 3) := by decide +kernel
theorem d_Plan_init_64 : decode b_Plan_init 64 = .ok (.dup, 1) := by decide +kernel
theorem d_Plan_init_65 : decode b_Plan_init 65 = .ok (.invokespecial 41, 3) := by decide +kernel
theorem d_Plan_init_68 : decode b_Plan_init 68 = .ok (.putfield 42, 3) := by decide +kernel
theorem d_Plan_init_71 : decode b_Plan_init 71 = .ok (.aload_n 0, 1) := by decide +kernel
theorem d_Plan_init_72 : decode b_Plan_init 72 = .ok (.new 46, 3) := by decide +kernel
theorem d_Plan_init_75 : decode b_Plan_init 75 = .ok (.dup, 1) := by decide +kernel
theorem d_Plan_init_76 : decode b_Plan_init 76 = .ok (.invokespecial 48, 3) := by decide +kernel
theorem d_Plan_init_79 : decode b_Plan_init 79 = .ok (.putfield 49, 3) := by decide +kernel
theorem d_Plan_init_82 : decode b_Plan_init 82 = .ok (.aload_n 0, 1) := by decide +kernel
theorem d_Plan_init_83 : decode b_Plan_init 83 = .ok (.new 53, 3) := by decide +kernel
theorem d_Plan_init_86 : decode b_Plan_init 86 = .ok (.dup, 1) := by decide +kernel
theorem d_Plan_init_87 : decode b_Plan_init 87 = .ok (.invokespecial 55, 3) := by decide +kernel
theorem d_Plan_init_90 : decode b_Plan_init 90 = .ok (.putfield 56, 3) := by decide +kernel
theorem d_Plan_init_93 : decode b_Plan_init 93 = .ok (.aload_n 0, 1) := by decide +kernel
theorem d_Plan_init_94 : decode b_Plan_init 94 = .ok (.new 60, 3) := by decide +kernel
theorem d_Plan_init_97 : decode b_Plan_init 97 = .ok (.dup, 1) := by decide +kernel
theorem d_Plan_init_98 : decode b_Plan_init 98 = .ok (.invokespecial 62, 3) := by decide +kernel
theorem d_Plan_init_101 : decode b_Plan_init 101 = .ok (.putfield 63, 3) := by decide +kernel
theorem d_Plan_init_104 : decode b_Plan_init 104 = .ok (.aload_n 0, 1) := by decide +kernel
theorem d_Plan_init_105 : decode b_Plan_init 105 = .ok (.iconst 0, 1) := by decide +kernel
theorem d_Plan_init_106 : decode b_Plan_init 106 = .ok (.putfield 67, 3) := by decide +kernel
theorem d_Plan_init_109 : decode b_Plan_init 109 = .ok (.aload_n 0, 1) := by decide +kernel
theorem d_Plan_init_110 : decode b_Plan_init 110 = .ok (.sipush 365, 3) := by decide +kernel
theorem d_Plan_init_113 : decode b_Plan_init 113 = .ok (.putfield 71, 3) := by decide +kernel
theorem d_Plan_init_116 : decode b_Plan_init 116 = .ok (.return_, 1) := by decide +kernel
theorem d_Plan_room_0 : decode b_Plan_room 0 = .ok (.iload_n 2, 1) := by decide +kernel
theorem d_Plan_room_1 : decode b_Plan_room 1 = .ok (.invokestatic 74, 3) := by decide +kernel
theorem d_Plan_room_4 : decode b_Plan_room 4 = .ok (.iload_n 1, 1) := by decide +kernel
theorem d_Plan_room_5 : decode b_Plan_room 5 = .ok (.iconst 0, 1) := by decide +kernel
theorem d_Plan_room_6 : decode b_Plan_room 6 = .ok (.bipush 19, 2) := by decide +kernel
theorem d_Plan_room_8 : decode b_Plan_room 8 = .ok (.invokestatic 78, 3) := by decide +kernel
theorem d_Plan_room_11 : decode b_Plan_room 11 = .ok (.aload_n 0, 1) := by decide +kernel
theorem d_Plan_room_12 : decode b_Plan_room 12 = .ok (.getfield 10, 3) := by decide +kernel
theorem d_Plan_room_15 : decode b_Plan_room 15 = .ok (.iload_n 1, 1) := by decide +kernel
theorem d_Plan_room_16 : decode b_Plan_room 16 = .ok (.iload_n 2, 1) := by decide +kernel
theorem d_Plan_room_17 : decode b_Plan_room 17 = .ok (.invokevirtual 82, 3) := by decide +kernel
theorem d_Plan_room_20 : decode b_Plan_room 20 = .ok (.invokestatic 86, 3) := by decide +kernel
theorem d_Plan_room_23 : decode b_Plan_room 23 = .ok (.ireturn, 1) := by decide +kernel
theorem d_Plan_door_0 : decode b_Plan_door 0 = .ok (.aload_n 0, 1) := by decide +kernel
theorem d_Plan_door_1 : decode b_Plan_door 1 = .ok (.iload_n 1, 1) := by decide +kernel
theorem d_Plan_door_2 : decode b_Plan_door 2 = .ok (.invokevirtual 90, 3) := by decide +kernel
theorem d_Plan_door_5 : decode b_Plan_door 5 = .ok (.aload_n 0, 1) := by decide +kernel
theorem d_Plan_door_6 : decode b_Plan_door 6 = .ok (.iload_n 2, 1) := by decide +kernel
theorem d_Plan_door_7 : decode b_Plan_door 7 = .ok (.invokevirtual 90, 3) := by decide +kernel
theorem d_Plan_door_10 : decode b_Plan_door 10 = .ok (.iload_n 3, 1) := by decide +kernel
theorem d_Plan_door_11 : decode b_Plan_door 11 = .ok (.iconst 1, 1) := by decide +kernel
theorem d_Plan_door_12 : decode b_Plan_door 12 = .ok (.sipush 500, 3) := by decide +kernel
theorem d_Plan_door_15 : decode b_Plan_door 15 = .ok (.invokestatic 78, 3) := by decide +kernel
theorem d_Plan_door_18 : decode b_Plan_door 18 = .ok (.iload 4, 2) := by decide +kernel
theorem d_Plan_door_20 : decode b_Plan_door 20 = .ok (.iconst 0, 1) := by decide +kernel
theorem d_Plan_door_21 : decode b_Plan_door 21 = .ok (.bipush 30, 2) := by decide +kernel
theorem d_Plan_door_23 : decode b_Plan_door 23 = .ok (.invokestatic 78, 3) := by decide +kernel
theorem d_Plan_door_26 : decode b_Plan_door 26 = .ok (.aload_n 0, 1) := by decide +kernel
theorem d_Plan_door_27 : decode b_Plan_door 27 = .ok (.getfield 10, 3) := by decide +kernel
theorem d_Plan_door_30 : decode b_Plan_door 30 = .ok (.iload_n 1, 1) := by decide +kernel
theorem d_Plan_door_31 : decode b_Plan_door 31 = .ok (.invokevirtual 93, 3) := by decide +kernel
theorem d_Plan_door_34 : decode b_Plan_door 34 = .ok (.aload_n 0, 1) := by decide +kernel
theorem d_Plan_door_35 : decode b_Plan_door 35 = .ok (.getfield 10, 3) := by decide +kernel
theorem d_Plan_door_38 : decode b_Plan_door 38 = .ok (.iload_n 2, 1) := by decide +kernel
theorem d_Plan_door_39 : decode b_Plan_door 39 = .ok (.invokevirtual 93, 3) := by decide +kernel
theorem d_Plan_door_42 : decode b_Plan_door 42 = .ok (.isub, 1) := by decide +kernel
theorem d_Plan_door_43 : decode b_Plan_door 43 = .ok (.invokestatic 96, 3) := by decide +kernel
theorem d_Plan_door_46 : decode b_Plan_door 46 = .ok (.istore 5, 2) := by decide +kernel
theorem d_Plan_door_48 : decode b_Plan_door 48 = .ok (.iload_n 1, 1) := by decide +kernel
theorem d_Plan_door_49 : decode b_Plan_door 49 = .ok (.iload_n 2, 1) := by decide +kernel
theorem d_Plan_door_50 : decode b_Plan_door 50 = .ok (.if_icmp .eq 9, 3) := by decide +kernel
theorem d_Plan_door_53 : decode b_Plan_door 53 = .ok (.iload 5, 2) := by decide +kernel
theorem d_Plan_door_55 : decode b_Plan_door 55 = .ok (.iconst 1, 1) := by decide +kernel
theorem d_Plan_door_56 : decode b_Plan_door 56 = .ok (.if_icmp .le 13, 3) := by decide +kernel
theorem d_Plan_door_59 : decode b_Plan_door 59 = .ok (.new 101, 3) := by decide +kernel
theorem d_Plan_door_62 : decode b_Plan_door 62 = .ok (.dup, 1) := by decide +kernel
theorem d_Plan_door_63 : decode b_Plan_door 63 = .ok (.ldc 103, 2) := by decide +kernel
theorem d_Plan_door_65 : decode b_Plan_door 65 = .ok (.invokespecial 105, 3) := by decide +kernel
theorem d_Plan_door_68 : decode b_Plan_door 68 = .ok (.athrow, 1) := by decide +kernel
theorem d_Plan_door_69 : decode b_Plan_door 69 = .ok (.iload_n 3, 1) := by decide +kernel
theorem d_Plan_door_70 : decode b_Plan_door 70 = .ok (.bipush 64, 2) := by decide +kernel
theorem d_Plan_door_72 : decode b_Plan_door 72 = .ok (.imul, 1) := by decide +kernel
theorem d_Plan_door_73 : decode b_Plan_door 73 = .ok (.iload 5, 2) := by decide +kernel
theorem d_Plan_door_75 : decode b_Plan_door 75 = .ok (.iadd, 1) := by decide +kernel
theorem d_Plan_door_76 : decode b_Plan_door 76 = .ok (.istore 6, 2) := by decide +kernel
theorem d_Plan_door_78 : decode b_Plan_door 78 = .ok (.aload_n 0, 1) := by decide +kernel
theorem d_Plan_door_79 : decode b_Plan_door 79 = .ok (.getfield 19, 3) := by decide +kernel
theorem d_Plan_door_82 : decode b_Plan_door 82 = .ok (.iload_n 1, 1) := by decide +kernel
theorem d_Plan_door_83 : decode b_Plan_door 83 = .ok (.iload_n 2, 1) := by decide +kernel
theorem d_Plan_door_84 : decode b_Plan_door 84 = .ok (.iload 6, 2) := by decide +kernel
theorem d_Plan_door_86 : decode b_Plan_door 86 = .ok (.iload 4, 2) := by decide +kernel
theorem d_Plan_door_88 : decode b_Plan_door 88 = .ok (.invokevirtual 108, 3) := by decide +kernel
theorem d_Plan_door_91 : decode b_Plan_door 91 = .ok (.invokestatic 86, 3) := by decide +kernel
theorem d_Plan_door_94 : decode b_Plan_door 94 = .ok (.ireturn, 1) := by decide +kernel
theorem d_Plan_key_0 : decode b_Plan_key 0 = .ok (.aload_n 0, 1) := by decide +kernel
theorem d_Plan_key_1 : decode b_Plan_key 1 = .ok (.getfield 26, 3) := by decide +kernel
theorem d_Plan_key_4 : decode b_Plan_key 4 = .ok (.iload_n 1, 1) := by decide +kernel
theorem d_Plan_key_5 : decode b_Plan_key 5 = .ok (.invokevirtual 111, 3) := by decide +kernel
theorem d_Plan_key_8 : decode b_Plan_key 8 = .ok (.ifCond .ne 13, 3) := by decide +kernel
theorem d_Plan_key_11 : decode b_Plan_key 11 = .ok (.new 115, 3) := by decide +kernel
theorem d_Plan_key_14 : decode b_Plan_key 14 = .ok (.dup, 1) := by decide +kernel
theorem d_Plan_key_15 : decode b_Plan_key 15 = .ok (.ldc 117, 2) := by decide +kernel
theorem d_Plan_key_17 : decode b_Plan_key 17 = .ok (.invokespecial 119, 3) := by decide +kernel
theorem d_Plan_key_20 : decode b_Plan_key 20 = .ok (.athrow, 1) := by decide +kernel
theorem d_Plan_key_21 : decode b_Plan_key 21 = .ok (.aload_n 0, 1) := by decide +kernel
theorem d_Plan_key_22 : decode b_Plan_key 22 = .ok (.getfield 26, 3) := by decide +kernel
theorem d_Plan_key_25 : decode b_Plan_key 25 = .ok (.iload_n 1, 1) := by decide +kernel
theorem d_Plan_key_26 : decode b_Plan_key 26 = .ok (.invokevirtual 120, 3) := by decide +kernel
theorem d_Plan_key_29 : decode b_Plan_key 29 = .ok (.iload_n 2, 1) := by decide +kernel
theorem d_Plan_key_30 : decode b_Plan_key 30 = .ok (.if_icmp .ne 13, 3) := by decide +kernel
theorem d_Plan_key_33 : decode b_Plan_key 33 = .ok (.new 101, 3) := by decide +kernel
theorem d_Plan_key_36 : decode b_Plan_key 36 = .ok (.dup, 1) := by decide +kernel
theorem d_Plan_key_37 : decode b_Plan_key 37 = .ok (.ldc 123, 2) := by decide +kernel
theorem d_Plan_key_39 : decode b_Plan_key 39 = .ok (.invokespecial 105, 3) := by decide +kernel
theorem d_Plan_key_42 : decode b_Plan_key 42 = .ok (.athrow, 1) := by decide +kernel
theorem d_Plan_key_43 : decode b_Plan_key 43 = .ok (.aload_n 0, 1) := by decide +kernel
theorem d_Plan_key_44 : decode b_Plan_key 44 = .ok (.getfield 26, 3) := by decide +kernel
theorem d_Plan_key_47 : decode b_Plan_key 47 = .ok (.iload_n 1, 1) := by decide +kernel
theorem d_Plan_key_48 : decode b_Plan_key 48 = .ok (.iload_n 2, 1) := by decide +kernel
theorem d_Plan_key_49 : decode b_Plan_key 49 = .ok (.invokevirtual 125, 3) := by decide +kernel
theorem d_Plan_key_52 : decode b_Plan_key 52 = .ok (.return_, 1) := by decide +kernel
theorem d_Plan_hazard_0 : decode b_Plan_hazard 0 = .ok (.aload_n 0, 1) := by decide +kernel
theorem d_Plan_hazard_1 : decode b_Plan_hazard 1 = .ok (.iload_n 1, 1) := by decide +kernel
theorem d_Plan_hazard_2 : decode b_Plan_hazard 2 = .ok (.invokevirtual 90, 3) := by decide +kernel
theorem d_Plan_hazard_5 : decode b_Plan_hazard 5 = .ok (.iload_n 2, 1) := by decide +kernel
theorem d_Plan_hazard_6 : decode b_Plan_hazard 6 = .ok (.iconst 0, 1) := by decide +kernel
theorem d_Plan_hazard_7 : decode b_Plan_hazard 7 = .ok (.sipush 255, 3) := by decide +kernel
theorem d_Plan_hazard_10 : decode b_Plan_hazard 10 = .ok (.invokestatic 78, 3) := by decide +kernel
theorem d_Plan_hazard_13 : decode b_Plan_hazard 13 = .ok (.aload_n 0, 1) := by decide +kernel
theorem d_Plan_hazard_14 : decode b_Plan_hazard 14 = .ok (.getfield 10, 3) := by decide +kernel
theorem d_Plan_hazard_17 : decode b_Plan_hazard 17 = .ok (.iload_n 1, 1) := by decide +kernel
theorem d_Plan_hazard_18 : decode b_Plan_hazard 18 = .ok (.iload_n 2, 1) := by decide +kernel
theorem d_Plan_hazard_19 : decode b_Plan_hazard 19 = .ok (.invokevirtual 129, 3) := by decide +kernel
theorem d_Plan_hazard_22 : decode b_Plan_hazard 22 = .ok (.return_, 1) := by decide +kernel
theorem d_Plan_way_0 : decode b_Plan_way 0 = .ok (.aload_n 0, 1) := by decide +kernel
theorem d_Plan_way_1 : decode b_Plan_way 1 = .ok (.iload_n 1, 1) := by decide +kernel
theorem d_Plan_way_2 : decode b_Plan_way 2 = .ok (.invokevirtual 90, 3) := by decide +kernel
theorem d_Plan_way_5 : decode b_Plan_way 5 = .ok (.iload_n 2, 1) := by decide +kernel
theorem d_Plan_way_6 : decode b_Plan_way 6 = .ok (.invokestatic 74, 3) := by decide +kernel
theorem d_Plan_way_9 : decode b_Plan_way 9 = .ok (.iload_n 3, 1) := by decide +kernel
theorem d_Plan_way_10 : decode b_Plan_way 10 = .ok (.iconst 0, 1) := by decide +kernel
theorem d_Plan_way_11 : decode b_Plan_way 11 = .ok (.sipush 255, 3) := by decide +kernel
theorem d_Plan_way_14 : decode b_Plan_way 14 = .ok (.invokestatic 78, 3) := by decide +kernel
theorem d_Plan_way_17 : decode b_Plan_way 17 = .ok (.aload_n 0, 1) := by decide +kernel
theorem d_Plan_way_18 : decode b_Plan_way 18 = .ok (.getfield 35, 3) := by decide +kernel
theorem d_Plan_way_21 : decode b_Plan_way 21 = .ok (.iload_n 1, 1) := by decide +kernel
theorem d_Plan_way_22 : decode b_Plan_way 22 = .ok (.iload_n 3, 1) := by decide +kernel
theorem d_Plan_way_23 : decode b_Plan_way 23 = .ok (.invokevirtual 133, 3) := by decide +kernel
theorem d_Plan_way_26 : decode b_Plan_way 26 = .ok (.aload_n 0, 1) := by decide +kernel
theorem d_Plan_way_27 : decode b_Plan_way 27 = .ok (.getfield 35, 3) := by decide +kernel
theorem d_Plan_way_30 : decode b_Plan_way 30 = .ok (.iload_n 2, 1) := by decide +kernel
theorem d_Plan_way_31 : decode b_Plan_way 31 = .ok (.invokevirtual 136, 3) := by decide +kernel
theorem d_Plan_way_34 : decode b_Plan_way 34 = .ok (.istore 4, 2) := by decide +kernel
theorem d_Plan_way_36 : decode b_Plan_way 36 = .ok (.aload_n 0, 1) := by decide +kernel
theorem d_Plan_way_37 : decode b_Plan_way 37 = .ok (.getfield 35, 3) := by decide +kernel
theorem d_Plan_way_40 : decode b_Plan_way 40 = .ok (.iload 4, 2) := by decide +kernel
theorem d_Plan_way_42 : decode b_Plan_way 42 = .ok (.aload_n 0, 1) := by decide +kernel
theorem d_Plan_way_43 : decode b_Plan_way 43 = .ok (.getfield 42, 3) := by decide +kernel
theorem d_Plan_way_46 : decode b_Plan_way 46 = .ok (.invokevirtual 139, 3) := by decide +kernel
theorem d_Plan_way_49 : decode b_Plan_way 49 = .ok (.aload_n 0, 1) := by decide +kernel
theorem d_Plan_way_50 : decode b_Plan_way 50 = .ok (.getfield 35, 3) := by decide +kernel
theorem d_Plan_way_53 : decode b_Plan_way 53 = .ok (.iload 4, 2) := by decide +kernel
theorem d_Plan_way_55 : decode b_Plan_way 55 = .ok (.invokevirtual 143, 3) := by decide +kernel
theorem d_Plan_way_58 : decode b_Plan_way 58 = .ok (.ireturn, 1) := by decide +kernel
theorem d_Plan_step_0 : decode b_Plan_step 0 = .ok (.iload_n 1, 1) := by decide +kernel
theorem d_Plan_step_1 : decode b_Plan_step 1 = .ok (.invokestatic 146, 3) := by decide +kernel
theorem d_Plan_step_4 : decode b_Plan_step 4 = .ok (.aload_n 0, 1) := by decide +kernel
theorem d_Plan_step_5 : decode b_Plan_step 5 = .ok (.getfield 42, 3) := by decide +kernel
theorem d_Plan_step_8 : decode b_Plan_step 8 = .ok (.iload_n 1, 1) := by decide +kernel
theorem d_Plan_step_9 : decode b_Plan_step 9 = .ok (.invokevirtual 149, 3) := by decide +kernel
theorem d_Plan_step_12 : decode b_Plan_step 12 = .ok (.ireturn, 1) := by decide +kernel
theorem d_Plan_told_0 : decode b_Plan_told 0 = .ok (.iload_n 1, 1) := by decide +kernel
theorem d_Plan_told_1 : decode b_Plan_told 1 = .ok (.tableswitch 51 0 2 #[27, 35, 43], 27) := by decide +kernel
theorem d_Plan_told_28 : decode b_Plan_told 28 = .ok (.aload_n 0, 1) := by decide +kernel
theorem d_Plan_told_29 : decode b_Plan_told 29 = .ok (.getfield 42, 3) := by decide +kernel
theorem d_Plan_told_32 : decode b_Plan_told 32 = .ok (.getfield 152, 3) := by decide +kernel
theorem d_Plan_told_35 : decode b_Plan_told 35 = .ok (.ireturn, 1) := by decide +kernel
theorem d_Plan_told_36 : decode b_Plan_told 36 = .ok (.aload_n 0, 1) := by decide +kernel
theorem d_Plan_told_37 : decode b_Plan_told 37 = .ok (.getfield 42, 3) := by decide +kernel
theorem d_Plan_told_40 : decode b_Plan_told 40 = .ok (.getfield 155, 3) := by decide +kernel
theorem d_Plan_told_43 : decode b_Plan_told 43 = .ok (.ireturn, 1) := by decide +kernel
theorem d_Plan_told_44 : decode b_Plan_told 44 = .ok (.aload_n 0, 1) := by decide +kernel
theorem d_Plan_told_45 : decode b_Plan_told 45 = .ok (.getfield 42, 3) := by decide +kernel
theorem d_Plan_told_48 : decode b_Plan_told 48 = .ok (.getfield 158, 3) := by decide +kernel
theorem d_Plan_told_51 : decode b_Plan_told 51 = .ok (.ireturn, 1) := by decide +kernel
theorem d_Plan_told_52 : decode b_Plan_told 52 = .ok (.new 115, 3) := by decide +kernel
theorem d_Plan_told_55 : decode b_Plan_told 55 = .ok (.dup, 1) := by decide +kernel
theorem d_Plan_told_56 : decode b_Plan_told 56 = .ok (.ldc 161, 2) := by decide +kernel
theorem d_Plan_told_58 : decode b_Plan_told 58 = .ok (.invokespecial 119, 3) := by decide +kernel
theorem d_Plan_told_61 : decode b_Plan_told 61 = .ok (.athrow, 1) := by decide +kernel
theorem d_Plan_hoses_0 : decode b_Plan_hoses 0 = .ok (.aload_n 0, 1) := by decide +kernel
theorem d_Plan_hoses_1 : decode b_Plan_hoses 1 = .ok (.iload_n 1, 1) := by decide +kernel
theorem d_Plan_hoses_2 : decode b_Plan_hoses 2 = .ok (.invokevirtual 90, 3) := by decide +kernel
theorem d_Plan_hoses_5 : decode b_Plan_hoses 5 = .ok (.iload_n 2, 1) := by decide +kernel
theorem d_Plan_hoses_6 : decode b_Plan_hoses 6 = .ok (.iconst 1, 1) := by decide +kernel
theorem d_Plan_hoses_7 : decode b_Plan_hoses 7 = .ok (.bipush 100, 2) := by decide +kernel
theorem d_Plan_hoses_9 : decode b_Plan_hoses 9 = .ok (.invokestatic 78, 3) := by decide +kernel
theorem d_Plan_hoses_12 : decode b_Plan_hoses 12 = .ok (.aload_n 0, 1) := by decide +kernel
theorem d_Plan_hoses_13 : decode b_Plan_hoses 13 = .ok (.getfield 35, 3) := by decide +kernel
theorem d_Plan_hoses_16 : decode b_Plan_hoses 16 = .ok (.iload_n 1, 1) := by decide +kernel
theorem d_Plan_hoses_17 : decode b_Plan_hoses 17 = .ok (.iconst 0, 1) := by decide +kernel
theorem d_Plan_hoses_18 : decode b_Plan_hoses 18 = .ok (.invokevirtual 133, 3) := by decide +kernel
theorem d_Plan_hoses_21 : decode b_Plan_hoses 21 = .ok (.aload_n 0, 1) := by decide +kernel
theorem d_Plan_hoses_22 : decode b_Plan_hoses 22 = .ok (.getfield 35, 3) := by decide +kernel
theorem d_Plan_hoses_25 : decode b_Plan_hoses 25 = .ok (.aload_n 0, 1) := by decide +kernel
theorem d_Plan_hoses_26 : decode b_Plan_hoses 26 = .ok (.getfield 35, 3) := by decide +kernel
theorem d_Plan_hoses_29 : decode b_Plan_hoses 29 = .ok (.iconst 1, 1) := by decide +kernel
theorem d_Plan_hoses_30 : decode b_Plan_hoses 30 = .ok (.invokevirtual 136, 3) := by decide +kernel
theorem d_Plan_hoses_33 : decode b_Plan_hoses 33 = .ok (.invokevirtual 143, 3) := by decide +kernel
theorem d_Plan_hoses_36 : decode b_Plan_hoses 36 = .ok (.istore_n 3, 1) := by decide +kernel
theorem d_Plan_hoses_37 : decode b_Plan_hoses 37 = .ok (.iload_n 3, 1) := by decide +kernel
theorem d_Plan_hoses_38 : decode b_Plan_hoses 38 = .ok (.ifCond .ge 7, 3) := by decide +kernel
theorem d_Plan_hoses_41 : decode b_Plan_hoses 41 = .ok (.iconst (-1), 1) := by decide +kernel
theorem d_Plan_hoses_42 : decode b_Plan_hoses 42 = .ok (.goto 10, 3) := by decide +kernel
theorem d_Plan_hoses_45 : decode b_Plan_hoses 45 = .ok (.iload_n 3, 1) := by decide +kernel
theorem d_Plan_hoses_46 : decode b_Plan_hoses 46 = .ok (.iload_n 2, 1) := by decide +kernel
theorem d_Plan_hoses_47 : decode b_Plan_hoses 47 = .ok (.iadd, 1) := by decide +kernel
theorem d_Plan_hoses_48 : decode b_Plan_hoses 48 = .ok (.iconst 1, 1) := by decide +kernel
theorem d_Plan_hoses_49 : decode b_Plan_hoses 49 = .ok (.isub, 1) := by decide +kernel
theorem d_Plan_hoses_50 : decode b_Plan_hoses 50 = .ok (.iload_n 2, 1) := by decide +kernel
theorem d_Plan_hoses_51 : decode b_Plan_hoses 51 = .ok (.idiv, 1) := by decide +kernel
theorem d_Plan_hoses_52 : decode b_Plan_hoses 52 = .ok (.ireturn, 1) := by decide +kernel
theorem d_Plan_trapped_0 : decode b_Plan_trapped 0 = .ok (.iload_n 1, 1) := by decide +kernel
theorem d_Plan_trapped_1 : decode b_Plan_trapped 1 = .ok (.invokestatic 146, 3) := by decide +kernel
theorem d_Plan_trapped_4 : decode b_Plan_trapped 4 = .ok (.aload_n 0, 1) := by decide +kernel
theorem d_Plan_trapped_5 : decode b_Plan_trapped 5 = .ok (.getfield 35, 3) := by decide +kernel
theorem d_Plan_trapped_8 : decode b_Plan_trapped 8 = .ok (.iconst 2, 1) := by decide +kernel
theorem d_Plan_trapped_9 : decode b_Plan_trapped 9 = .ok (.invokevirtual 163, 3) := by decide +kernel
theorem d_Plan_trapped_12 : decode b_Plan_trapped 12 = .ok (.aload_n 0, 1) := by decide +kernel
theorem d_Plan_trapped_13 : decode b_Plan_trapped 13 = .ok (.getfield 35, 3) := by decide +kernel
theorem d_Plan_trapped_16 : decode b_Plan_trapped 16 = .ok (.iload_n 1, 1) := by decide +kernel
theorem d_Plan_trapped_17 : decode b_Plan_trapped 17 = .ok (.invokevirtual 166, 3) := by decide +kernel
theorem d_Plan_trapped_20 : decode b_Plan_trapped 20 = .ok (.ireturn, 1) := by decide +kernel
theorem d_Plan_missing_0 : decode b_Plan_missing 0 = .ok (.iload_n 1, 1) := by decide +kernel
theorem d_Plan_missing_1 : decode b_Plan_missing 1 = .ok (.invokestatic 146, 3) := by decide +kernel
theorem d_Plan_missing_4 : decode b_Plan_missing 4 = .ok (.iload_n 1, 1) := by decide +kernel
theorem d_Plan_missing_5 : decode b_Plan_missing 5 = .ok (.istore_n 2, 1) := by decide +kernel
theorem d_Plan_missing_6 : decode b_Plan_missing 6 = .ok (.iconst 1, 1) := by decide +kernel
theorem d_Plan_missing_7 : decode b_Plan_missing 7 = .ok (.istore_n 3, 1) := by decide +kernel
theorem d_Plan_missing_8 : decode b_Plan_missing 8 = .ok (.iload_n 3, 1) := by decide +kernel
theorem d_Plan_missing_9 : decode b_Plan_missing 9 = .ok (.bipush 30, 2) := by decide +kernel
theorem d_Plan_missing_11 : decode b_Plan_missing 11 = .ok (.if_icmp .gt 40, 3) := by decide +kernel
theorem d_Plan_missing_14 : decode b_Plan_missing 14 = .ok (.aload_n 0, 1) := by decide +kernel
theorem d_Plan_missing_15 : decode b_Plan_missing 15 = .ok (.getfield 26, 3) := by decide +kernel
theorem d_Plan_missing_18 : decode b_Plan_missing 18 = .ok (.iload_n 3, 1) := by decide +kernel
theorem d_Plan_missing_19 : decode b_Plan_missing 19 = .ok (.invokevirtual 120, 3) := by decide +kernel
theorem d_Plan_missing_22 : decode b_Plan_missing 22 = .ok (.ifCond .ne 23, 3) := by decide +kernel
theorem d_Plan_missing_25 : decode b_Plan_missing 25 = .ok (.aload_n 0, 1) := by decide +kernel
theorem d_Plan_missing_26 : decode b_Plan_missing 26 = .ok (.getfield 19, 3) := by decide +kernel
theorem d_Plan_missing_29 : decode b_Plan_missing 29 = .ok (.iload_n 3, 1) := by decide +kernel
theorem d_Plan_missing_30 : decode b_Plan_missing 30 = .ok (.invokevirtual 169, 3) := by decide +kernel
theorem d_Plan_missing_33 : decode b_Plan_missing 33 = .ok (.ifCond .eq 12, 3) := by decide +kernel
theorem d_Plan_missing_36 : decode b_Plan_missing 36 = .ok (.iload_n 2, 1) := by decide +kernel
theorem d_Plan_missing_37 : decode b_Plan_missing 37 = .ok (.ifCond .ne 5, 3) := by decide +kernel
theorem d_Plan_missing_40 : decode b_Plan_missing 40 = .ok (.iload_n 3, 1) := by decide +kernel
theorem d_Plan_missing_41 : decode b_Plan_missing 41 = .ok (.ireturn, 1) := by decide +kernel
theorem d_Plan_missing_42 : decode b_Plan_missing 42 = .ok (.iinc 2 (-1), 3) := by decide +kernel
theorem d_Plan_missing_45 : decode b_Plan_missing 45 = .ok (.iinc 3 1, 3) := by decide +kernel
theorem d_Plan_missing_48 : decode b_Plan_missing 48 = .ok (.goto (-40), 3) := by decide +kernel
theorem d_Plan_missing_51 : decode b_Plan_missing 51 = .ok (.iconst (-1), 1) := by decide +kernel
theorem d_Plan_missing_52 : decode b_Plan_missing 52 = .ok (.ireturn, 1) := by decide +kernel
theorem d_Plan_detector_0 : decode b_Plan_detector 0 = .ok (.aload_n 0, 1) := by decide +kernel
theorem d_Plan_detector_1 : decode b_Plan_detector 1 = .ok (.iload_n 3, 1) := by decide +kernel
theorem d_Plan_detector_2 : decode b_Plan_detector 2 = .ok (.invokevirtual 90, 3) := by decide +kernel
theorem d_Plan_detector_5 : decode b_Plan_detector 5 = .ok (.iload_n 1, 1) := by decide +kernel
theorem d_Plan_detector_6 : decode b_Plan_detector 6 = .ok (.iconst 1, 1) := by decide +kernel
theorem d_Plan_detector_7 : decode b_Plan_detector 7 = .ok (.bipush 9, 2) := by decide +kernel
theorem d_Plan_detector_9 : decode b_Plan_detector 9 = .ok (.invokestatic 78, 3) := by decide +kernel
theorem d_Plan_detector_12 : decode b_Plan_detector 12 = .ok (.iload_n 2, 1) := by decide +kernel
theorem d_Plan_detector_13 : decode b_Plan_detector 13 = .ok (.iconst 1, 1) := by decide +kernel
theorem d_Plan_detector_14 : decode b_Plan_detector 14 = .ok (.bipush 99, 2) := by decide +kernel
theorem d_Plan_detector_16 : decode b_Plan_detector 16 = .ok (.invokestatic 78, 3) := by decide +kernel
theorem d_Plan_detector_19 : decode b_Plan_detector 19 = .ok (.aload_n 0, 1) := by decide +kernel
theorem d_Plan_detector_20 : decode b_Plan_detector 20 = .ok (.getfield 49, 3) := by decide +kernel
theorem d_Plan_detector_23 : decode b_Plan_detector 23 = .ok (.iload_n 1, 1) := by decide +kernel
theorem d_Plan_detector_24 : decode b_Plan_detector 24 = .ok (.iload_n 2, 1) := by decide +kernel
theorem d_Plan_detector_25 : decode b_Plan_detector 25 = .ok (.invokevirtual 172, 3) := by decide +kernel
theorem d_Plan_detector_28 : decode b_Plan_detector 28 = .ok (.iconst (-1), 1) := by decide +kernel
theorem d_Plan_detector_29 : decode b_Plan_detector 29 = .ok (.if_icmp .eq 13, 3) := by decide +kernel
theorem d_Plan_detector_32 : decode b_Plan_detector 32 = .ok (.new 101, 3) := by decide +kernel
theorem d_Plan_detector_35 : decode b_Plan_detector 35 = .ok (.dup, 1) := by decide +kernel
theorem d_Plan_detector_36 : decode b_Plan_detector 36 = .ok (.ldc 175, 2) := by decide +kernel
theorem d_Plan_detector_38 : decode b_Plan_detector 38 = .ok (.invokespecial 105, 3) := by decide +kernel
theorem d_Plan_detector_41 : decode b_Plan_detector 41 = .ok (.athrow, 1) := by decide +kernel
theorem d_Plan_detector_42 : decode b_Plan_detector 42 = .ok (.aload_n 0, 1) := by decide +kernel
theorem d_Plan_detector_43 : decode b_Plan_detector 43 = .ok (.getfield 49, 3) := by decide +kernel
theorem d_Plan_detector_46 : decode b_Plan_detector 46 = .ok (.iload_n 1, 1) := by decide +kernel
theorem d_Plan_detector_47 : decode b_Plan_detector 47 = .ok (.iload_n 2, 1) := by decide +kernel
theorem d_Plan_detector_48 : decode b_Plan_detector 48 = .ok (.iload_n 3, 1) := by decide +kernel
theorem d_Plan_detector_49 : decode b_Plan_detector 49 = .ok (.invokevirtual 177, 3) := by decide +kernel
theorem d_Plan_detector_52 : decode b_Plan_detector 52 = .ok (.invokestatic 86, 3) := by decide +kernel
theorem d_Plan_detector_55 : decode b_Plan_detector 55 = .ok (.pop, 1) := by decide +kernel
theorem d_Plan_detector_56 : decode b_Plan_detector 56 = .ok (.return_, 1) := by decide +kernel
theorem d_Plan_alarm_0 : decode b_Plan_alarm 0 = .ok (.iload_n 1, 1) := by decide +kernel
theorem d_Plan_alarm_1 : decode b_Plan_alarm 1 = .ok (.iconst 1, 1) := by decide +kernel
theorem d_Plan_alarm_2 : decode b_Plan_alarm 2 = .ok (.bipush 9, 2) := by decide +kernel
theorem d_Plan_alarm_4 : decode b_Plan_alarm 4 = .ok (.invokestatic 78, 3) := by decide +kernel
theorem d_Plan_alarm_7 : decode b_Plan_alarm 7 = .ok (.iload_n 2, 1) := by decide +kernel
theorem d_Plan_alarm_8 : decode b_Plan_alarm 8 = .ok (.iconst 1, 1) := by decide +kernel
theorem d_Plan_alarm_9 : decode b_Plan_alarm 9 = .ok (.bipush 99, 2) := by decide +kernel
theorem d_Plan_alarm_11 : decode b_Plan_alarm 11 = .ok (.invokestatic 78, 3) := by decide +kernel
theorem d_Plan_alarm_14 : decode b_Plan_alarm 14 = .ok (.aload_n 0, 1) := by decide +kernel
theorem d_Plan_alarm_15 : decode b_Plan_alarm 15 = .ok (.getfield 49, 3) := by decide +kernel
theorem d_Plan_alarm_18 : decode b_Plan_alarm 18 = .ok (.iload_n 1, 1) := by decide +kernel
theorem d_Plan_alarm_19 : decode b_Plan_alarm 19 = .ok (.iload_n 2, 1) := by decide +kernel
theorem d_Plan_alarm_20 : decode b_Plan_alarm 20 = .ok (.invokevirtual 172, 3) := by decide +kernel
theorem d_Plan_alarm_23 : decode b_Plan_alarm 23 = .ok (.istore_n 3, 1) := by decide +kernel
theorem d_Plan_alarm_24 : decode b_Plan_alarm 24 = .ok (.iload_n 3, 1) := by decide +kernel
theorem d_Plan_alarm_25 : decode b_Plan_alarm 25 = .ok (.iconst (-1), 1) := by decide +kernel
theorem d_Plan_alarm_26 : decode b_Plan_alarm 26 = .ok (.if_icmp .ne 9, 3) := by decide +kernel
theorem d_Plan_alarm_29 : decode b_Plan_alarm 29 = .ok (.iconst (-1), 1) := by decide +kernel
theorem d_Plan_alarm_30 : decode b_Plan_alarm 30 = .ok (.iload_n 1, 1) := by decide +kernel
theorem d_Plan_alarm_31 : decode b_Plan_alarm 31 = .ok (.isub, 1) := by decide +kernel
theorem d_Plan_alarm_32 : decode b_Plan_alarm 32 = .ok (.goto 4, 3) := by decide +kernel
theorem d_Plan_alarm_35 : decode b_Plan_alarm 35 = .ok (.iload_n 3, 1) := by decide +kernel
theorem d_Plan_alarm_36 : decode b_Plan_alarm 36 = .ok (.ireturn, 1) := by decide +kernel
theorem d_Plan_people_0 : decode b_Plan_people 0 = .ok (.aload_n 0, 1) := by decide +kernel
theorem d_Plan_people_1 : decode b_Plan_people 1 = .ok (.iload_n 1, 1) := by decide +kernel
theorem d_Plan_people_2 : decode b_Plan_people 2 = .ok (.invokevirtual 90, 3) := by decide +kernel
theorem d_Plan_people_5 : decode b_Plan_people 5 = .ok (.iload_n 2, 1) := by decide +kernel
theorem d_Plan_people_6 : decode b_Plan_people 6 = .ok (.iconst 0, 1) := by decide +kernel
theorem d_Plan_people_7 : decode b_Plan_people 7 = .ok (.bipush 23, 2) := by decide +kernel
theorem d_Plan_people_9 : decode b_Plan_people 9 = .ok (.invokestatic 78, 3) := by decide +kernel
theorem d_Plan_people_12 : decode b_Plan_people 12 = .ok (.iload_n 3, 1) := by decide +kernel
theorem d_Plan_people_13 : decode b_Plan_people 13 = .ok (.iconst 0, 1) := by decide +kernel
theorem d_Plan_people_14 : decode b_Plan_people 14 = .ok (.bipush 23, 2) := by decide +kernel
theorem d_Plan_people_16 : decode b_Plan_people 16 = .ok (.invokestatic 78, 3) := by decide +kernel
theorem d_Plan_people_19 : decode b_Plan_people 19 = .ok (.iload 4, 2) := by decide +kernel
theorem d_Plan_people_21 : decode b_Plan_people 21 = .ok (.iconst 0, 1) := by decide +kernel
theorem d_Plan_people_22 : decode b_Plan_people 22 = .ok (.sipush 999, 3) := by decide +kernel
theorem d_Plan_people_25 : decode b_Plan_people 25 = .ok (.invokestatic 78, 3) := by decide +kernel
theorem d_Plan_people_28 : decode b_Plan_people 28 = .ok (.aload_n 0, 1) := by decide +kernel
theorem d_Plan_people_29 : decode b_Plan_people 29 = .ok (.getfield 56, 3) := by decide +kernel
theorem d_Plan_people_32 : decode b_Plan_people 32 = .ok (.aload_n 0, 1) := by decide +kernel
theorem d_Plan_people_33 : decode b_Plan_people 33 = .ok (.getfield 10, 3) := by decide +kernel
theorem d_Plan_people_36 : decode b_Plan_people 36 = .ok (.iload_n 1, 1) := by decide +kernel
theorem d_Plan_people_37 : decode b_Plan_people 37 = .ok (.invokevirtual 93, 3) := by decide +kernel
theorem d_Plan_people_40 : decode b_Plan_people 40 = .ok (.iload_n 2, 1) := by decide +kernel
theorem d_Plan_people_41 : decode b_Plan_people 41 = .ok (.iload_n 3, 1) := by decide +kernel
theorem d_Plan_people_42 : decode b_Plan_people 42 = .ok (.iload 4, 2) := by decide +kernel
theorem d_Plan_people_44 : decode b_Plan_people 44 = .ok (.invokevirtual 180, 3) := by decide +kernel
theorem d_Plan_people_47 : decode b_Plan_people 47 = .ok (.invokestatic 86, 3) := by decide +kernel
theorem d_Plan_people_50 : decode b_Plan_people 50 = .ok (.ireturn, 1) := by decide +kernel
theorem d_Plan_inside_0 : decode b_Plan_inside 0 = .ok (.iload_n 1, 1) := by decide +kernel
theorem d_Plan_inside_1 : decode b_Plan_inside 1 = .ok (.iconst (-1), 1) := by decide +kernel
theorem d_Plan_inside_2 : decode b_Plan_inside 2 = .ok (.if_icmp .lt 9, 3) := by decide +kernel
theorem d_Plan_inside_5 : decode b_Plan_inside 5 = .ok (.iload_n 1, 1) := by decide +kernel
theorem d_Plan_inside_6 : decode b_Plan_inside 6 = .ok (.bipush 19, 2) := by decide +kernel
theorem d_Plan_inside_8 : decode b_Plan_inside 8 = .ok (.if_icmp .le 13, 3) := by decide +kernel
theorem d_Plan_inside_11 : decode b_Plan_inside 11 = .ok (.new 115, 3) := by decide +kernel
theorem d_Plan_inside_14 : decode b_Plan_inside 14 = .ok (.dup, 1) := by decide +kernel
theorem d_Plan_inside_15 : decode b_Plan_inside 15 = .ok (.ldc 181, 2) := by decide +kernel
theorem d_Plan_inside_17 : decode b_Plan_inside 17 = .ok (.invokespecial 119, 3) := by decide +kernel
theorem d_Plan_inside_20 : decode b_Plan_inside 20 = .ok (.athrow, 1) := by decide +kernel
theorem d_Plan_inside_21 : decode b_Plan_inside 21 = .ok (.iload_n 2, 1) := by decide +kernel
theorem d_Plan_inside_22 : decode b_Plan_inside 22 = .ok (.iconst 0, 1) := by decide +kernel
theorem d_Plan_inside_23 : decode b_Plan_inside 23 = .ok (.bipush 23, 2) := by decide +kernel
theorem d_Plan_inside_25 : decode b_Plan_inside 25 = .ok (.invokestatic 78, 3) := by decide +kernel
theorem d_Plan_inside_28 : decode b_Plan_inside 28 = .ok (.aload_n 0, 1) := by decide +kernel
theorem d_Plan_inside_29 : decode b_Plan_inside 29 = .ok (.getfield 56, 3) := by decide +kernel
theorem d_Plan_inside_32 : decode b_Plan_inside 32 = .ok (.iload_n 1, 1) := by decide +kernel
theorem d_Plan_inside_33 : decode b_Plan_inside 33 = .ok (.iload_n 2, 1) := by decide +kernel
theorem d_Plan_inside_34 : decode b_Plan_inside 34 = .ok (.invokevirtual 183, 3) := by decide +kernel
theorem d_Plan_inside_37 : decode b_Plan_inside 37 = .ok (.ireturn, 1) := by decide +kernel
theorem d_Plan_window_0 : decode b_Plan_window 0 = .ok (.aload_n 0, 1) := by decide +kernel
theorem d_Plan_window_1 : decode b_Plan_window 1 = .ok (.iload_n 1, 1) := by decide +kernel
theorem d_Plan_window_2 : decode b_Plan_window 2 = .ok (.invokevirtual 90, 3) := by decide +kernel
theorem d_Plan_window_5 : decode b_Plan_window 5 = .ok (.iload_n 2, 1) := by decide +kernel
theorem d_Plan_window_6 : decode b_Plan_window 6 = .ok (.iload_n 3, 1) := by decide +kernel
theorem d_Plan_window_7 : decode b_Plan_window 7 = .ok (.iload 4, 2) := by decide +kernel
theorem d_Plan_window_9 : decode b_Plan_window 9 = .ok (.invokestatic 186, 3) := by decide +kernel
theorem d_Plan_window_12 : decode b_Plan_window 12 = .ok (.aload_n 0, 1) := by decide +kernel
theorem d_Plan_window_13 : decode b_Plan_window 13 = .ok (.getfield 63, 3) := by decide +kernel
theorem d_Plan_window_16 : decode b_Plan_window 16 = .ok (.iload_n 2, 1) := by decide +kernel
theorem d_Plan_window_17 : decode b_Plan_window 17 = .ok (.iload_n 3, 1) := by decide +kernel
theorem d_Plan_window_18 : decode b_Plan_window 18 = .ok (.iload 4, 2) := by decide +kernel
theorem d_Plan_window_20 : decode b_Plan_window 20 = .ok (.invokevirtual 189, 3) := by decide +kernel
theorem d_Plan_window_23 : decode b_Plan_window 23 = .ok (.invokestatic 86, 3) := by decide +kernel
theorem d_Plan_window_26 : decode b_Plan_window 26 = .ok (.ireturn, 1) := by decide +kernel
theorem d_Plan_reaches_0 : decode b_Plan_reaches 0 = .ok (.aload_n 0, 1) := by decide +kernel
theorem d_Plan_reaches_1 : decode b_Plan_reaches 1 = .ok (.iload_n 1, 1) := by decide +kernel
theorem d_Plan_reaches_2 : decode b_Plan_reaches 2 = .ok (.invokevirtual 190, 3) := by decide +kernel
theorem d_Plan_reaches_5 : decode b_Plan_reaches 5 = .ok (.iload_n 2, 1) := by decide +kernel
theorem d_Plan_reaches_6 : decode b_Plan_reaches 6 = .ok (.iload_n 3, 1) := by decide +kernel
theorem d_Plan_reaches_7 : decode b_Plan_reaches 7 = .ok (.iload 4, 2) := by decide +kernel
theorem d_Plan_reaches_9 : decode b_Plan_reaches 9 = .ok (.invokestatic 186, 3) := by decide +kernel
theorem d_Plan_reaches_12 : decode b_Plan_reaches 12 = .ok (.iload 5, 2) := by decide +kernel
theorem d_Plan_reaches_14 : decode b_Plan_reaches 14 = .ok (.iconst 1, 1) := by decide +kernel
theorem d_Plan_reaches_15 : decode b_Plan_reaches 15 = .ok (.ldc 193, 2) := by decide +kernel
theorem d_Plan_reaches_17 : decode b_Plan_reaches 17 = .ok (.invokestatic 78, 3) := by decide +kernel
theorem d_Plan_reaches_20 : decode b_Plan_reaches 20 = .ok (.aload_n 0, 1) := by decide +kernel
theorem d_Plan_reaches_21 : decode b_Plan_reaches 21 = .ok (.getfield 63, 3) := by decide +kernel
theorem d_Plan_reaches_24 : decode b_Plan_reaches 24 = .ok (.iload_n 1, 1) := by decide +kernel
theorem d_Plan_reaches_25 : decode b_Plan_reaches 25 = .ok (.iload_n 2, 1) := by decide +kernel
theorem d_Plan_reaches_26 : decode b_Plan_reaches 26 = .ok (.iload_n 3, 1) := by decide +kernel
theorem d_Plan_reaches_27 : decode b_Plan_reaches 27 = .ok (.iload 4, 2) := by decide +kernel
theorem d_Plan_reaches_29 : decode b_Plan_reaches 29 = .ok (.iload 5, 2) := by decide +kernel
theorem d_Plan_reaches_31 : decode b_Plan_reaches 31 = .ok (.invokevirtual 194, 3) := by decide +kernel
theorem d_Plan_reaches_34 : decode b_Plan_reaches 34 = .ok (.ireturn, 1) := by decide +kernel
theorem d_Plan_ladder_0 : decode b_Plan_ladder 0 = .ok (.aload_n 0, 1) := by decide +kernel
theorem d_Plan_ladder_1 : decode b_Plan_ladder 1 = .ok (.iload_n 1, 1) := by decide +kernel
theorem d_Plan_ladder_2 : decode b_Plan_ladder 2 = .ok (.invokevirtual 190, 3) := by decide +kernel
theorem d_Plan_ladder_5 : decode b_Plan_ladder 5 = .ok (.iload_n 2, 1) := by decide +kernel
theorem d_Plan_ladder_6 : decode b_Plan_ladder 6 = .ok (.iload_n 3, 1) := by decide +kernel
theorem d_Plan_ladder_7 : decode b_Plan_ladder 7 = .ok (.iload 4, 2) := by decide +kernel
theorem d_Plan_ladder_9 : decode b_Plan_ladder 9 = .ok (.invokestatic 186, 3) := by decide +kernel
theorem d_Plan_ladder_12 : decode b_Plan_ladder 12 = .ok (.aload_n 0, 1) := by decide +kernel
theorem d_Plan_ladder_13 : decode b_Plan_ladder 13 = .ok (.getfield 63, 3) := by decide +kernel
theorem d_Plan_ladder_16 : decode b_Plan_ladder 16 = .ok (.iload_n 1, 1) := by decide +kernel
theorem d_Plan_ladder_17 : decode b_Plan_ladder 17 = .ok (.iload_n 2, 1) := by decide +kernel
theorem d_Plan_ladder_18 : decode b_Plan_ladder 18 = .ok (.iload_n 3, 1) := by decide +kernel
theorem d_Plan_ladder_19 : decode b_Plan_ladder 19 = .ok (.iload 4, 2) := by decide +kernel
theorem d_Plan_ladder_21 : decode b_Plan_ladder 21 = .ok (.invokevirtual 198, 3) := by decide +kernel
theorem d_Plan_ladder_24 : decode b_Plan_ladder 24 = .ok (.ireturn, 1) := by decide +kernel
theorem d_Plan_look_0 : decode b_Plan_look 0 = .ok (.iload_n 1, 1) := by decide +kernel
theorem d_Plan_look_1 : decode b_Plan_look 1 = .ok (.aload_n 0, 1) := by decide +kernel
theorem d_Plan_look_2 : decode b_Plan_look 2 = .ok (.getfield 67, 3) := by decide +kernel
theorem d_Plan_look_5 : decode b_Plan_look 5 = .ok (.ldc 201, 2) := by decide +kernel
theorem d_Plan_look_7 : decode b_Plan_look 7 = .ok (.invokestatic 78, 3) := by decide +kernel
theorem d_Plan_look_10 : decode b_Plan_look 10 = .ok (.iload_n 2, 1) := by decide +kernel
theorem d_Plan_look_11 : decode b_Plan_look 11 = .ok (.iconst 1, 1) := by decide +kernel
theorem d_Plan_look_12 : decode b_Plan_look 12 = .ok (.sipush 10000, 3) := by decide +kernel
theorem d_Plan_look_15 : decode b_Plan_look 15 = .ok (.invokestatic 78, 3) := by decide +kernel
theorem d_Plan_look_18 : decode b_Plan_look 18 = .ok (.aload_n 0, 1) := by decide +kernel
theorem d_Plan_look_19 : decode b_Plan_look 19 = .ok (.iload_n 1, 1) := by decide +kernel
theorem d_Plan_look_20 : decode b_Plan_look 20 = .ok (.putfield 67, 3) := by decide +kernel
theorem d_Plan_look_23 : decode b_Plan_look 23 = .ok (.aload_n 0, 1) := by decide +kernel
theorem d_Plan_look_24 : decode b_Plan_look 24 = .ok (.iload_n 2, 1) := by decide +kernel
theorem d_Plan_look_25 : decode b_Plan_look 25 = .ok (.putfield 71, 3) := by decide +kernel
theorem d_Plan_look_28 : decode b_Plan_look 28 = .ok (.return_, 1) := by decide +kernel
theorem d_Plan_old_0 : decode b_Plan_old 0 = .ok (.iload_n 1, 1) := by decide +kernel
theorem d_Plan_old_1 : decode b_Plan_old 1 = .ok (.iconst 0, 1) := by decide +kernel
theorem d_Plan_old_2 : decode b_Plan_old 2 = .ok (.ldc 201, 2) := by decide +kernel
theorem d_Plan_old_4 : decode b_Plan_old 4 = .ok (.invokestatic 78, 3) := by decide +kernel
theorem d_Plan_old_7 : decode b_Plan_old 7 = .ok (.iload_n 1, 1) := by decide +kernel
theorem d_Plan_old_8 : decode b_Plan_old 8 = .ok (.aload_n 0, 1) := by decide +kernel
theorem d_Plan_old_9 : decode b_Plan_old 9 = .ok (.getfield 67, 3) := by decide +kernel
theorem d_Plan_old_12 : decode b_Plan_old 12 = .ok (.isub, 1) := by decide +kernel
theorem d_Plan_old_13 : decode b_Plan_old 13 = .ok (.aload_n 0, 1) := by decide +kernel
theorem d_Plan_old_14 : decode b_Plan_old 14 = .ok (.getfield 71, 3) := by decide +kernel
theorem d_Plan_old_17 : decode b_Plan_old 17 = .ok (.if_icmp .le 7, 3) := by decide +kernel
theorem d_Plan_old_20 : decode b_Plan_old 20 = .ok (.iconst 1, 1) := by decide +kernel
theorem d_Plan_old_21 : decode b_Plan_old 21 = .ok (.goto 4, 3) := by decide +kernel
theorem d_Plan_old_24 : decode b_Plan_old 24 = .ok (.iconst 0, 1) := by decide +kernel
theorem d_Plan_old_25 : decode b_Plan_old 25 = .ok (.ireturn, 1) := by decide +kernel
theorem d_Plan_count_0 : decode b_Plan_count 0 = .ok (.iload_n 1, 1) := by decide +kernel
theorem d_Plan_count_1 : decode b_Plan_count 1 = .ok (.tableswitch 75 0 4 #[35, 43, 51, 59, 67], 35) := by decide +kernel
theorem d_Plan_count_36 : decode b_Plan_count 36 = .ok (.aload_n 0, 1) := by decide +kernel
theorem d_Plan_count_37 : decode b_Plan_count 37 = .ok (.getfield 10, 3) := by decide +kernel
theorem d_Plan_count_40 : decode b_Plan_count 40 = .ok (.getfield 202, 3) := by decide +kernel
theorem d_Plan_count_43 : decode b_Plan_count 43 = .ok (.ireturn, 1) := by decide +kernel
theorem d_Plan_count_44 : decode b_Plan_count 44 = .ok (.aload_n 0, 1) := by decide +kernel
theorem d_Plan_count_45 : decode b_Plan_count 45 = .ok (.getfield 19, 3) := by decide +kernel
theorem d_Plan_count_48 : decode b_Plan_count 48 = .ok (.getfield 205, 3) := by decide +kernel
theorem d_Plan_count_51 : decode b_Plan_count 51 = .ok (.ireturn, 1) := by decide +kernel
theorem d_Plan_count_52 : decode b_Plan_count 52 = .ok (.aload_n 0, 1) := by decide +kernel
theorem d_Plan_count_53 : decode b_Plan_count 53 = .ok (.getfield 49, 3) := by decide +kernel
theorem d_Plan_count_56 : decode b_Plan_count 56 = .ok (.getfield 206, 3) := by decide +kernel
theorem d_Plan_count_59 : decode b_Plan_count 59 = .ok (.ireturn, 1) := by decide +kernel
theorem d_Plan_count_60 : decode b_Plan_count 60 = .ok (.aload_n 0, 1) := by decide +kernel
theorem d_Plan_count_61 : decode b_Plan_count 61 = .ok (.getfield 63, 3) := by decide +kernel
theorem d_Plan_count_64 : decode b_Plan_count 64 = .ok (.getfield 207, 3) := by decide +kernel
theorem d_Plan_count_67 : decode b_Plan_count 67 = .ok (.ireturn, 1) := by decide +kernel
theorem d_Plan_count_68 : decode b_Plan_count 68 = .ok (.aload_n 0, 1) := by decide +kernel
theorem d_Plan_count_69 : decode b_Plan_count 69 = .ok (.getfield 26, 3) := by decide +kernel
theorem d_Plan_count_72 : decode b_Plan_count 72 = .ok (.getfield 208, 3) := by decide +kernel
theorem d_Plan_count_75 : decode b_Plan_count 75 = .ok (.ireturn, 1) := by decide +kernel
theorem d_Plan_count_76 : decode b_Plan_count 76 = .ok (.new 115, 3) := by decide +kernel
theorem d_Plan_count_79 : decode b_Plan_count 79 = .ok (.dup, 1) := by decide +kernel
theorem d_Plan_count_80 : decode b_Plan_count 80 = .ok (.ldc 209, 2) := by decide +kernel
theorem d_Plan_count_82 : decode b_Plan_count 82 = .ok (.invokespecial 119, 3) := by decide +kernel
theorem d_Plan_count_85 : decode b_Plan_count 85 = .ok (.athrow, 1) := by decide +kernel
theorem d_Plan_wantRoom_0 : decode b_Plan_wantRoom 0 = .ok (.aload_n 0, 1) := by decide +kernel
theorem d_Plan_wantRoom_1 : decode b_Plan_wantRoom 1 = .ok (.getfield 10, 3) := by decide +kernel
theorem d_Plan_wantRoom_4 : decode b_Plan_wantRoom 4 = .ok (.iload_n 1, 1) := by decide +kernel
theorem d_Plan_wantRoom_5 : decode b_Plan_wantRoom 5 = .ok (.invokevirtual 211, 3) := by decide +kernel
theorem d_Plan_wantRoom_8 : decode b_Plan_wantRoom 8 = .ok (.ifCond .ne 13, 3) := by decide +kernel
theorem d_Plan_wantRoom_11 : decode b_Plan_wantRoom 11 = .ok (.new 115, 3) := by decide +kernel
theorem d_Plan_wantRoom_14 : decode b_Plan_wantRoom 14 = .ok (.dup, 1) := by decide +kernel
theorem d_Plan_wantRoom_15 : decode b_Plan_wantRoom 15 = .ok (.ldc 212, 2) := by decide +kernel
theorem d_Plan_wantRoom_17 : decode b_Plan_wantRoom 17 = .ok (.invokespecial 119, 3) := by decide +kernel
theorem d_Plan_wantRoom_20 : decode b_Plan_wantRoom 20 = .ok (.athrow, 1) := by decide +kernel
theorem d_Plan_wantRoom_21 : decode b_Plan_wantRoom 21 = .ok (.return_, 1) := by decide +kernel
theorem d_Plan_wantWindow_0 : decode b_Plan_wantWindow 0 = .ok (.aload_n 0, 1) := by decide +kernel
theorem d_Plan_wantWindow_1 : decode b_Plan_wantWindow 1 = .ok (.getfield 63, 3) := by decide +kernel
theorem d_Plan_wantWindow_4 : decode b_Plan_wantWindow 4 = .ok (.iload_n 1, 1) := by decide +kernel
theorem d_Plan_wantWindow_5 : decode b_Plan_wantWindow 5 = .ok (.invokevirtual 214, 3) := by decide +kernel
theorem d_Plan_wantWindow_8 : decode b_Plan_wantWindow 8 = .ok (.ifCond .ne 13, 3) := by decide +kernel
theorem d_Plan_wantWindow_11 : decode b_Plan_wantWindow 11 = .ok (.new 115, 3) := by decide +kernel
theorem d_Plan_wantWindow_14 : decode b_Plan_wantWindow 14 = .ok (.dup, 1) := by decide +kernel
theorem d_Plan_wantWindow_15 : decode b_Plan_wantWindow 15 = .ok (.ldc 215, 2) := by decide +kernel
theorem d_Plan_wantWindow_17 : decode b_Plan_wantWindow 17 = .ok (.invokespecial 119, 3) := by decide +kernel
theorem d_Plan_wantWindow_20 : decode b_Plan_wantWindow 20 = .ok (.athrow, 1) := by decide +kernel
theorem d_Plan_wantWindow_21 : decode b_Plan_wantWindow 21 = .ok (.return_, 1) := by decide +kernel
theorem d_Plan_wantKind_0 : decode b_Plan_wantKind 0 = .ok (.iload_n 0, 1) := by decide +kernel
theorem d_Plan_wantKind_1 : decode b_Plan_wantKind 1 = .ok (.ifCond .lt 8, 3) := by decide +kernel
theorem d_Plan_wantKind_4 : decode b_Plan_wantKind 4 = .ok (.iload_n 0, 1) := by decide +kernel
theorem d_Plan_wantKind_5 : decode b_Plan_wantKind 5 = .ok (.iconst 2, 1) := by decide +kernel
theorem d_Plan_wantKind_6 : decode b_Plan_wantKind 6 = .ok (.if_icmp .le 13, 3) := by decide +kernel
theorem d_Plan_wantKind_9 : decode b_Plan_wantKind 9 = .ok (.new 115, 3) := by decide +kernel
theorem d_Plan_wantKind_12 : decode b_Plan_wantKind 12 = .ok (.dup, 1) := by decide +kernel
theorem d_Plan_wantKind_13 : decode b_Plan_wantKind 13 = .ok (.ldc 217, 2) := by decide +kernel
theorem d_Plan_wantKind_15 : decode b_Plan_wantKind 15 = .ok (.invokespecial 119, 3) := by decide +kernel
theorem d_Plan_wantKind_18 : decode b_Plan_wantKind 18 = .ok (.athrow, 1) := by decide +kernel
theorem d_Plan_wantKind_19 : decode b_Plan_wantKind 19 = .ok (.return_, 1) := by decide +kernel
theorem d_Plan_wantPoint_0 : decode b_Plan_wantPoint 0 = .ok (.iload_n 0, 1) := by decide +kernel
theorem d_Plan_wantPoint_1 : decode b_Plan_wantPoint 1 = .ok (.ldc 219, 2) := by decide +kernel
theorem d_Plan_wantPoint_3 : decode b_Plan_wantPoint 3 = .ok (.ldc 193, 2) := by decide +kernel
theorem d_Plan_wantPoint_5 : decode b_Plan_wantPoint 5 = .ok (.invokestatic 78, 3) := by decide +kernel
theorem d_Plan_wantPoint_8 : decode b_Plan_wantPoint 8 = .ok (.iload_n 1, 1) := by decide +kernel
theorem d_Plan_wantPoint_9 : decode b_Plan_wantPoint 9 = .ok (.ldc 219, 2) := by decide +kernel
theorem d_Plan_wantPoint_11 : decode b_Plan_wantPoint 11 = .ok (.ldc 193, 2) := by decide +kernel
theorem d_Plan_wantPoint_13 : decode b_Plan_wantPoint 13 = .ok (.invokestatic 78, 3) := by decide +kernel
theorem d_Plan_wantPoint_16 : decode b_Plan_wantPoint 16 = .ok (.iload_n 2, 1) := by decide +kernel
theorem d_Plan_wantPoint_17 : decode b_Plan_wantPoint 17 = .ok (.ldc 219, 2) := by decide +kernel
theorem d_Plan_wantPoint_19 : decode b_Plan_wantPoint 19 = .ok (.ldc 193, 2) := by decide +kernel
theorem d_Plan_wantPoint_21 : decode b_Plan_wantPoint 21 = .ok (.invokestatic 78, 3) := by decide +kernel
theorem d_Plan_wantPoint_24 : decode b_Plan_wantPoint 24 = .ok (.return_, 1) := by decide +kernel
theorem d_Plan_wantWithin_0 : decode b_Plan_wantWithin 0 = .ok (.iload_n 0, 1) := by decide +kernel
theorem d_Plan_wantWithin_1 : decode b_Plan_wantWithin 1 = .ok (.iload_n 1, 1) := by decide +kernel
theorem d_Plan_wantWithin_2 : decode b_Plan_wantWithin 2 = .ok (.if_icmp .lt 8, 3) := by decide +kernel
theorem d_Plan_wantWithin_5 : decode b_Plan_wantWithin 5 = .ok (.iload_n 0, 1) := by decide +kernel
theorem d_Plan_wantWithin_6 : decode b_Plan_wantWithin 6 = .ok (.iload_n 2, 1) := by decide +kernel
theorem d_Plan_wantWithin_7 : decode b_Plan_wantWithin 7 = .ok (.if_icmp .le 13, 3) := by decide +kernel
theorem d_Plan_wantWithin_10 : decode b_Plan_wantWithin 10 = .ok (.new 220, 3) := by decide +kernel
theorem d_Plan_wantWithin_13 : decode b_Plan_wantWithin 13 = .ok (.dup, 1) := by decide +kernel
theorem d_Plan_wantWithin_14 : decode b_Plan_wantWithin 14 = .ok (.ldc 222, 2) := by decide +kernel
theorem d_Plan_wantWithin_16 : decode b_Plan_wantWithin 16 = .ok (.invokespecial 224, 3) := by decide +kernel
theorem d_Plan_wantWithin_19 : decode b_Plan_wantWithin 19 = .ok (.athrow, 1) := by decide +kernel
theorem d_Plan_wantWithin_20 : decode b_Plan_wantWithin 20 = .ok (.return_, 1) := by decide +kernel
theorem d_Plan_wantNotBelowZero_0 : decode b_Plan_wantNotBelowZero 0 = .ok (.iload_n 0, 1) := by decide +kernel
theorem d_Plan_wantNotBelowZero_1 : decode b_Plan_wantNotBelowZero 1 = .ok (.ifCond .ge 13, 3) := by decide +kernel
theorem d_Plan_wantNotBelowZero_4 : decode b_Plan_wantNotBelowZero 4 = .ok (.new 220, 3) := by decide +kernel
theorem d_Plan_wantNotBelowZero_7 : decode b_Plan_wantNotBelowZero 7 = .ok (.dup, 1) := by decide +kernel
theorem d_Plan_wantNotBelowZero_8 : decode b_Plan_wantNotBelowZero 8 = .ok (.ldc 225, 2) := by decide +kernel
theorem d_Plan_wantNotBelowZero_10 : decode b_Plan_wantNotBelowZero 10 = .ok (.invokespecial 224, 3) := by decide +kernel
theorem d_Plan_wantNotBelowZero_13 : decode b_Plan_wantNotBelowZero 13 = .ok (.athrow, 1) := by decide +kernel
theorem d_Plan_wantNotBelowZero_14 : decode b_Plan_wantNotBelowZero 14 = .ok (.return_, 1) := by decide +kernel
theorem d_Plan_wantAdded_0 : decode b_Plan_wantAdded 0 = .ok (.iload_n 0, 1) := by decide +kernel
theorem d_Plan_wantAdded_1 : decode b_Plan_wantAdded 1 = .ok (.iconst (-1), 1) := by decide +kernel
theorem d_Plan_wantAdded_2 : decode b_Plan_wantAdded 2 = .ok (.if_icmp .ne 13, 3) := by decide +kernel
theorem d_Plan_wantAdded_5 : decode b_Plan_wantAdded 5 = .ok (.new 227, 3) := by decide +kernel
theorem d_Plan_wantAdded_8 : decode b_Plan_wantAdded 8 = .ok (.dup, 1) := by decide +kernel
theorem d_Plan_wantAdded_9 : decode b_Plan_wantAdded 9 = .ok (.ldc 229, 2) := by decide +kernel
theorem d_Plan_wantAdded_11 : decode b_Plan_wantAdded 11 = .ok (.invokespecial 231, 3) := by decide +kernel
theorem d_Plan_wantAdded_14 : decode b_Plan_wantAdded 14 = .ok (.athrow, 1) := by decide +kernel
theorem d_Plan_wantAdded_15 : decode b_Plan_wantAdded 15 = .ok (.iload_n 0, 1) := by decide +kernel
theorem d_Plan_wantAdded_16 : decode b_Plan_wantAdded 16 = .ok (.ireturn, 1) := by decide +kernel
