theorem d_Crowd_init_0 : decode b_Crowd_init 0 = .ok (.aload_n 0, 1) := by decide +kernel
theorem d_Crowd_init_1 : decode b_Crowd_init 1 = .ok (.invokespecial 3, 3) := by decide +kernel
theorem d_Crowd_init_4 : decode b_Crowd_init 4 = .ok (.aload_n 0, 1) := by decide +kernel
theorem d_Crowd_init_5 : decode b_Crowd_init 5 = .ok (.bipush 60, 2) := by decide +kernel
theorem d_Crowd_init_7 : decode b_Crowd_init 7 = .ok (.newarray .int, 2) := by decide +kernel
theorem d_Crowd_init_9 : decode b_Crowd_init 9 = .ok (.putfield 9, 3) := by decide +kernel
theorem d_Crowd_init_12 : decode b_Crowd_init 12 = .ok (.aload_n 0, 1) := by decide +kernel
theorem d_Crowd_init_13 : decode b_Crowd_init 13 = .ok (.bipush 60, 2) := by decide +kernel
theorem d_Crowd_init_15 : decode b_Crowd_init 15 = .ok (.newarray .int, 2) := by decide +kernel
theorem d_Crowd_init_17 : decode b_Crowd_init 17 = .ok (.putfield 15, 3) := by decide +kernel
theorem d_Crowd_init_20 : decode b_Crowd_init 20 = .ok (.aload_n 0, 1) := by decide +kernel
theorem d_Crowd_init_21 : decode b_Crowd_init 21 = .ok (.bipush 60, 2) := by decide +kernel
theorem d_Crowd_init_23 : decode b_Crowd_init 23 = .ok (.newarray .int, 2) := by decide +kernel
theorem d_Crowd_init_25 : decode b_Crowd_init 25 = .ok (.putfield 18, 3) := by decide +kernel
theorem d_Crowd_init_28 : decode b_Crowd_init 28 = .ok (.aload_n 0, 1) := by decide +kernel
theorem d_Crowd_init_29 : decode b_Crowd_init 29 = .ok (.bipush 60, 2) := by decide +kernel
theorem d_Crowd_init_31 : decode b_Crowd_init 31 = .ok (.newarray .int, 2) := by decide +kernel
theorem d_Crowd_init_33 : decode b_Crowd_init 33 = .ok (.putfield 21, 3) := by decide +kernel
theorem d_Crowd_init_36 : decode b_Crowd_init 36 = .ok (.return_, 1) := by decide +kernel
theorem d_Crowd_add_0 : decode b_Crowd_add 0 = .ok (.aload_n 0, 1) := by decide +kernel
theorem d_Crowd_add_1 : decode b_Crowd_add 1 = .ok (.getfield 24, 3) := by decide +kernel
theorem d_Crowd_add_4 : decode b_Crowd_add 4 = .ok (.bipush 60, 2) := by decide +kernel
theorem d_Crowd_add_6 : decode b_Crowd_add 6 = .ok (.if_icmp .lt 5, 3) := by decide +kernel
theorem d_Crowd_add_9 : decode b_Crowd_add 9 = .ok (.iconst (-1), 1) := by decide +kernel
theorem d_Crowd_add_10 : decode b_Crowd_add 10 = .ok (.ireturn, 1) := by decide +kernel
theorem d_Crowd_add_11 : decode b_Crowd_add 11 = .ok (.aload_n 0, 1) := by decide +kernel
theorem d_Crowd_add_12 : decode b_Crowd_add 12 = .ok (.getfield 9, 3) := by decide +kernel
theorem d_Crowd_add_15 : decode b_Crowd_add 15 = .ok (.aload_n 0, 1) := by decide +kernel
theorem d_Crowd_add_16 : decode b_Crowd_add 16 = .ok (.getfield 24, 3) := by decide +kernel
theorem d_Crowd_add_19 : decode b_Crowd_add 19 = .ok (.iload_n 1, 1) := by decide +kernel
theorem d_Crowd_add_20 : decode b_Crowd_add 20 = .ok (.iastore, 1) := by decide +kernel
theorem d_Crowd_add_21 : decode b_Crowd_add 21 = .ok (.aload_n 0, 1) := by decide +kernel
theorem d_Crowd_add_22 : decode b_Crowd_add 22 = .ok (.getfield 15, 3) := by decide +kernel
theorem d_Crowd_add_25 : decode b_Crowd_add 25 = .ok (.aload_n 0, 1) := by decide +kernel
theorem d_Crowd_add_26 : decode b_Crowd_add 26 = .ok (.getfield 24, 3) := by decide +kernel
theorem d_Crowd_add_29 : decode b_Crowd_add 29 = .ok (.iload_n 2, 1) := by decide +kernel
theorem d_Crowd_add_30 : decode b_Crowd_add 30 = .ok (.iastore, 1) := by decide +kernel
theorem d_Crowd_add_31 : decode b_Crowd_add 31 = .ok (.aload_n 0, 1) := by decide +kernel
theorem d_Crowd_add_32 : decode b_Crowd_add 32 = .ok (.getfield 18, 3) := by decide +kernel
theorem d_Crowd_add_35 : decode b_Crowd_add 35 = .ok (.aload_n 0, 1) := by decide +kernel
theorem d_Crowd_add_36 : decode b_Crowd_add 36 = .ok (.getfield 24, 3) := by decide +kernel
theorem d_Crowd_add_39 : decode b_Crowd_add 39 = .ok (.iload_n 3, 1) := by decide +kernel
theorem d_Crowd_add_40 : decode b_Crowd_add 40 = .ok (.iastore, 1) := by decide +kernel
theorem d_Crowd_add_41 : decode b_Crowd_add 41 = .ok (.aload_n 0, 1) := by decide +kernel
theorem d_Crowd_add_42 : decode b_Crowd_add 42 = .ok (.getfield 21, 3) := by decide +kernel
theorem d_Crowd_add_45 : decode b_Crowd_add 45 = .ok (.aload_n 0, 1) := by decide +kernel
theorem d_Crowd_add_46 : decode b_Crowd_add 46 = .ok (.getfield 24, 3) := by decide +kernel
theorem d_Crowd_add_49 : decode b_Crowd_add 49 = .ok (.iload 4, 2) := by decide +kernel
theorem d_Crowd_add_51 : decode b_Crowd_add 51 = .ok (.iastore, 1) := by decide +kernel
theorem d_Crowd_add_52 : decode b_Crowd_add 52 = .ok (.aload_n 0, 1) := by decide +kernel
theorem d_Crowd_add_53 : decode b_Crowd_add 53 = .ok (.dup, 1) := by decide +kernel
theorem d_Crowd_add_54 : decode b_Crowd_add 54 = .ok (.getfield 24, 3) := by decide +kernel
theorem d_Crowd_add_57 : decode b_Crowd_add 57 = .ok (.iconst 1, 1) := by decide +kernel
theorem d_Crowd_add_58 : decode b_Crowd_add 58 = .ok (.iadd, 1) := by decide +kernel
theorem d_Crowd_add_59 : decode b_Crowd_add 59 = .ok (.putfield 24, 3) := by decide +kernel
theorem d_Crowd_add_62 : decode b_Crowd_add 62 = .ok (.aload_n 0, 1) := by decide +kernel
theorem d_Crowd_add_63 : decode b_Crowd_add 63 = .ok (.getfield 24, 3) := by decide +kernel
theorem d_Crowd_add_66 : decode b_Crowd_add 66 = .ok (.iconst 1, 1) := by decide +kernel
theorem d_Crowd_add_67 : decode b_Crowd_add 67 = .ok (.isub, 1) := by decide +kernel
theorem d_Crowd_add_68 : decode b_Crowd_add 68 = .ok (.ireturn, 1) := by decide +kernel
theorem d_Crowd_sum_0 : decode b_Crowd_sum 0 = .ok (.iconst 0, 1) := by decide +kernel
theorem d_Crowd_sum_1 : decode b_Crowd_sum 1 = .ok (.istore_n 3, 1) := by decide +kernel
theorem d_Crowd_sum_2 : decode b_Crowd_sum 2 = .ok (.iconst 0, 1) := by decide +kernel
theorem d_Crowd_sum_3 : decode b_Crowd_sum 3 = .ok (.istore 4, 2) := by decide +kernel
theorem d_Crowd_sum_5 : decode b_Crowd_sum 5 = .ok (.iload 4, 2) := by decide +kernel
theorem d_Crowd_sum_7 : decode b_Crowd_sum 7 = .ok (.aload_n 0, 1) := by decide +kernel
theorem d_Crowd_sum_8 : decode b_Crowd_sum 8 = .ok (.getfield 24, 3) := by decide +kernel
theorem d_Crowd_sum_11 : decode b_Crowd_sum 11 = .ok (.if_icmp .ge 68, 3) := by decide +kernel
theorem d_Crowd_sum_14 : decode b_Crowd_sum 14 = .ok (.iload_n 1, 1) := by decide +kernel
theorem d_Crowd_sum_15 : decode b_Crowd_sum 15 = .ok (.iconst (-1), 1) := by decide +kernel
theorem d_Crowd_sum_16 : decode b_Crowd_sum 16 = .ok (.if_icmp .eq 14, 3) := by decide +kernel
theorem d_Crowd_sum_19 : decode b_Crowd_sum 19 = .ok (.aload_n 0, 1) := by decide +kernel
theorem d_Crowd_sum_20 : decode b_Crowd_sum 20 = .ok (.getfield 9, 3) := by decide +kernel
theorem d_Crowd_sum_23 : decode b_Crowd_sum 23 = .ok (.iload 4, 2) := by decide +kernel
theorem d_Crowd_sum_25 : decode b_Crowd_sum 25 = .ok (.iaload, 1) := by decide +kernel
theorem d_Crowd_sum_26 : decode b_Crowd_sum 26 = .ok (.iload_n 1, 1) := by decide +kernel
theorem d_Crowd_sum_27 : decode b_Crowd_sum 27 = .ok (.if_icmp .ne 7, 3) := by decide +kernel
theorem d_Crowd_sum_30 : decode b_Crowd_sum 30 = .ok (.iconst 1, 1) := by decide +kernel
theorem d_Crowd_sum_31 : decode b_Crowd_sum 31 = .ok (.goto 4, 3) := by decide +kernel
theorem d_Crowd_sum_34 : decode b_Crowd_sum 34 = .ok (.iconst 0, 1) := by decide +kernel
theorem d_Crowd_sum_35 : decode b_Crowd_sum 35 = .ok (.istore 5, 2) := by decide +kernel
theorem d_Crowd_sum_37 : decode b_Crowd_sum 37 = .ok (.iload 5, 2) := by decide +kernel
theorem d_Crowd_sum_39 : decode b_Crowd_sum 39 = .ok (.ifCond .eq 34, 3) := by decide +kernel
theorem d_Crowd_sum_42 : decode b_Crowd_sum 42 = .ok (.iload_n 2, 1) := by decide +kernel
theorem d_Crowd_sum_43 : decode b_Crowd_sum 43 = .ok (.aload_n 0, 1) := by decide +kernel
theorem d_Crowd_sum_44 : decode b_Crowd_sum 44 = .ok (.getfield 15, 3) := by decide +kernel
theorem d_Crowd_sum_47 : decode b_Crowd_sum 47 = .ok (.iload 4, 2) := by decide +kernel
theorem d_Crowd_sum_49 : decode b_Crowd_sum 49 = .ok (.iaload, 1) := by decide +kernel
theorem d_Crowd_sum_50 : decode b_Crowd_sum 50 = .ok (.aload_n 0, 1) := by decide +kernel
theorem d_Crowd_sum_51 : decode b_Crowd_sum 51 = .ok (.getfield 18, 3) := by decide +kernel
theorem d_Crowd_sum_54 : decode b_Crowd_sum 54 = .ok (.iload 4, 2) := by decide +kernel
theorem d_Crowd_sum_56 : decode b_Crowd_sum 56 = .ok (.iaload, 1) := by decide +kernel
theorem d_Crowd_sum_57 : decode b_Crowd_sum 57 = .ok (.invokestatic 28, 3) := by decide +kernel
theorem d_Crowd_sum_60 : decode b_Crowd_sum 60 = .ok (.ifCond .eq 13, 3) := by decide +kernel
theorem d_Crowd_sum_63 : decode b_Crowd_sum 63 = .ok (.iload_n 3, 1) := by decide +kernel
theorem d_Crowd_sum_64 : decode b_Crowd_sum 64 = .ok (.aload_n 0, 1) := by decide +kernel
theorem d_Crowd_sum_65 : decode b_Crowd_sum 65 = .ok (.getfield 21, 3) := by decide +kernel
theorem d_Crowd_sum_68 : decode b_Crowd_sum 68 = .ok (.iload 4, 2) := by decide +kernel
theorem d_Crowd_sum_70 : decode b_Crowd_sum 70 = .ok (.iaload, 1) := by decide +kernel
theorem d_Crowd_sum_71 : decode b_Crowd_sum 71 = .ok (.iadd, 1) := by decide +kernel
theorem d_Crowd_sum_72 : decode b_Crowd_sum 72 = .ok (.istore_n 3, 1) := by decide +kernel
theorem d_Crowd_sum_73 : decode b_Crowd_sum 73 = .ok (.iinc 4 1, 3) := by decide +kernel
theorem d_Crowd_sum_76 : decode b_Crowd_sum 76 = .ok (.goto (-71), 3) := by decide +kernel
theorem d_Crowd_sum_79 : decode b_Crowd_sum 79 = .ok (.iload_n 3, 1) := by decide +kernel
theorem d_Crowd_sum_80 : decode b_Crowd_sum 80 = .ok (.ireturn, 1) := by decide +kernel
theorem d_Crowd_isBetween_0 : decode b_Crowd_isBetween 0 = .ok (.iload_n 2, 1) := by decide +kernel
theorem d_Crowd_isBetween_1 : decode b_Crowd_isBetween 1 = .ok (.iload_n 1, 1) := by decide +kernel
theorem d_Crowd_isBetween_2 : decode b_Crowd_isBetween 2 = .ok (.if_icmp .ge 7, 3) := by decide +kernel
theorem d_Crowd_isBetween_5 : decode b_Crowd_isBetween 5 = .ok (.iconst 1, 1) := by decide +kernel
theorem d_Crowd_isBetween_6 : decode b_Crowd_isBetween 6 = .ok (.goto 4, 3) := by decide +kernel
theorem d_Crowd_isBetween_9 : decode b_Crowd_isBetween 9 = .ok (.iconst 0, 1) := by decide +kernel
theorem d_Crowd_isBetween_10 : decode b_Crowd_isBetween 10 = .ok (.istore_n 3, 1) := by decide +kernel
theorem d_Crowd_isBetween_11 : decode b_Crowd_isBetween 11 = .ok (.iload_n 3, 1) := by decide +kernel
theorem d_Crowd_isBetween_12 : decode b_Crowd_isBetween 12 = .ok (.ifCond .eq 21, 3) := by decide +kernel
theorem d_Crowd_isBetween_15 : decode b_Crowd_isBetween 15 = .ok (.iload_n 0, 1) := by decide +kernel
theorem d_Crowd_isBetween_16 : decode b_Crowd_isBetween 16 = .ok (.iload_n 1, 1) := by decide +kernel
theorem d_Crowd_isBetween_17 : decode b_Crowd_isBetween 17 = .ok (.if_icmp .ge 8, 3) := by decide +kernel
theorem d_Crowd_isBetween_20 : decode b_Crowd_isBetween 20 = .ok (.iload_n 0, 1) := by decide +kernel
theorem d_Crowd_isBetween_21 : decode b_Crowd_isBetween 21 = .ok (.iload_n 2, 1) := by decide +kernel
theorem d_Crowd_isBetween_22 : decode b_Crowd_isBetween 22 = .ok (.if_icmp .gt 7, 3) := by decide +kernel
theorem d_Crowd_isBetween_25 : decode b_Crowd_isBetween 25 = .ok (.iconst 1, 1) := by decide +kernel
theorem d_Crowd_isBetween_26 : decode b_Crowd_isBetween 26 = .ok (.goto 22, 3) := by decide +kernel
theorem d_Crowd_isBetween_29 : decode b_Crowd_isBetween 29 = .ok (.iconst 0, 1) := by decide +kernel
theorem d_Crowd_isBetween_30 : decode b_Crowd_isBetween 30 = .ok (.goto 18, 3) := by decide +kernel
theorem d_Crowd_isBetween_33 : decode b_Crowd_isBetween 33 = .ok (.iload_n 0, 1) := by decide +kernel
theorem d_Crowd_isBetween_34 : decode b_Crowd_isBetween 34 = .ok (.iload_n 1, 1) := by decide +kernel
theorem d_Crowd_isBetween_35 : decode b_Crowd_isBetween 35 = .ok (.if_icmp .lt 12, 3) := by decide +kernel
theorem d_Crowd_isBetween_38 : decode b_Crowd_isBetween 38 = .ok (.iload_n 0, 1) := by decide +kernel
theorem d_Crowd_isBetween_39 : decode b_Crowd_isBetween 39 = .ok (.iload_n 2, 1) := by decide +kernel
theorem d_Crowd_isBetween_40 : decode b_Crowd_isBetween 40 = .ok (.if_icmp .gt 7, 3) := by decide +kernel
theorem d_Crowd_isBetween_43 : decode b_Crowd_isBetween 43 = .ok (.iconst 1, 1) := by decide +kernel
theorem d_Crowd_isBetween_44 : decode b_Crowd_isBetween 44 = .ok (.goto 4, 3) := by decide +kernel
theorem d_Crowd_isBetween_47 : decode b_Crowd_isBetween 47 = .ok (.iconst 0, 1) := by decide +kernel
theorem d_Crowd_isBetween_48 : decode b_Crowd_isBetween 48 = .ok (.ireturn, 1) := by decide +kernel
theorem d_Det_init_0 : decode b_Det_init 0 = .ok (.aload_n 0, 1) := by decide +kernel
theorem d_Det_init_1 : decode b_Det_init 1 = .ok (.invokespecial 3, 3) := by decide +kernel
theorem d_Det_init_4 : decode b_Det_init 4 = .ok (.aload_n 0, 1) := by decide +kernel
theorem d_Det_init_5 : decode b_Det_init 5 = .ok (.bipush 100, 2) := by decide +kernel
theorem d_Det_init_7 : decode b_Det_init 7 = .ok (.newarray .int, 2) := by decide +kernel
theorem d_Det_init_9 : decode b_Det_init 9 = .ok (.putfield 9, 3) := by decide +kernel
theorem d_Det_init_12 : decode b_Det_init 12 = .ok (.aload_n 0, 1) := by decide +kernel
theorem d_Det_init_13 : decode b_Det_init 13 = .ok (.bipush 100, 2) := by decide +kernel
theorem d_Det_init_15 : decode b_Det_init 15 = .ok (.newarray .int, 2) := by decide +kernel
theorem d_Det_init_17 : decode b_Det_init 17 = .ok (.putfield 15, 3) := by decide +kernel
theorem d_Det_init_20 : decode b_Det_init 20 = .ok (.aload_n 0, 1) := by decide +kernel
theorem d_Det_init_21 : decode b_Det_init 21 = .ok (.bipush 100, 2) := by decide +kernel
theorem d_Det_init_23 : decode b_Det_init 23 = .ok (.newarray .int, 2) := by decide +kernel
theorem d_Det_init_25 : decode b_Det_init 25 = .ok (.putfield 18, 3) := by decide +kernel
theorem d_Det_init_28 : decode b_Det_init 28 = .ok (.return_, 1) := by decide +kernel
theorem d_Det_add_0 : decode b_Det_add 0 = .ok (.aload_n 0, 1) := by decide +kernel
theorem d_Det_add_1 : decode b_Det_add 1 = .ok (.getfield 21, 3) := by decide +kernel
theorem d_Det_add_4 : decode b_Det_add 4 = .ok (.bipush 100, 2) := by decide +kernel
theorem d_Det_add_6 : decode b_Det_add 6 = .ok (.if_icmp .lt 5, 3) := by decide +kernel
theorem d_Det_add_9 : decode b_Det_add 9 = .ok (.iconst (-1), 1) := by decide +kernel
theorem d_Det_add_10 : decode b_Det_add 10 = .ok (.ireturn, 1) := by decide +kernel
theorem d_Det_add_11 : decode b_Det_add 11 = .ok (.aload_n 0, 1) := by decide +kernel
theorem d_Det_add_12 : decode b_Det_add 12 = .ok (.getfield 9, 3) := by decide +kernel
theorem d_Det_add_15 : decode b_Det_add 15 = .ok (.aload_n 0, 1) := by decide +kernel
theorem d_Det_add_16 : decode b_Det_add 16 = .ok (.getfield 21, 3) := by decide +kernel
theorem d_Det_add_19 : decode b_Det_add 19 = .ok (.iload_n 1, 1) := by decide +kernel
theorem d_Det_add_20 : decode b_Det_add 20 = .ok (.iastore, 1) := by decide +kernel
theorem d_Det_add_21 : decode b_Det_add 21 = .ok (.aload_n 0, 1) := by decide +kernel
theorem d_Det_add_22 : decode b_Det_add 22 = .ok (.getfield 15, 3) := by decide +kernel
theorem d_Det_add_25 : decode b_Det_add 25 = .ok (.aload_n 0, 1) := by decide +kernel
theorem d_Det_add_26 : decode b_Det_add 26 = .ok (.getfield 21, 3) := by decide +kernel
theorem d_Det_add_29 : decode b_Det_add 29 = .ok (.iload_n 2, 1) := by decide +kernel
theorem d_Det_add_30 : decode b_Det_add 30 = .ok (.iastore, 1) := by decide +kernel
theorem d_Det_add_31 : decode b_Det_add 31 = .ok (.aload_n 0, 1) := by decide +kernel
theorem d_Det_add_32 : decode b_Det_add 32 = .ok (.getfield 18, 3) := by decide +kernel
theorem d_Det_add_35 : decode b_Det_add 35 = .ok (.aload_n 0, 1) := by decide +kernel
theorem d_Det_add_36 : decode b_Det_add 36 = .ok (.getfield 21, 3) := by decide +kernel
theorem d_Det_add_39 : decode b_Det_add 39 = .ok (.iload_n 3, 1) := by decide +kernel
theorem d_Det_add_40 : decode b_Det_add 40 = .ok (.iastore, 1) := by decide +kernel
theorem d_Det_add_41 : decode b_Det_add 41 = .ok (.aload_n 0, 1) := by decide +kernel
theorem d_Det_add_42 : decode b_Det_add 42 = .ok (.dup, 1) := by decide +kernel
theorem d_Det_add_43 : decode b_Det_add 43 = .ok (.getfield 21, 3) := by decide +kernel
theorem d_Det_add_46 : decode b_Det_add 46 = .ok (.iconst 1, 1) := by decide +kernel
theorem d_Det_add_47 : decode b_Det_add 47 = .ok (.iadd, 1) := by decide +kernel
theorem d_Det_add_48 : decode b_Det_add 48 = .ok (.putfield 21, 3) := by decide +kernel
theorem d_Det_add_51 : decode b_Det_add 51 = .ok (.aload_n 0, 1) := by decide +kernel
theorem d_Det_add_52 : decode b_Det_add 52 = .ok (.getfield 21, 3) := by decide +kernel
theorem d_Det_add_55 : decode b_Det_add 55 = .ok (.iconst 1, 1) := by decide +kernel
theorem d_Det_add_56 : decode b_Det_add 56 = .ok (.isub, 1) := by decide +kernel
theorem d_Det_add_57 : decode b_Det_add 57 = .ok (.ireturn, 1) := by decide +kernel
theorem d_Det_roomOf_0 : decode b_Det_roomOf 0 = .ok (.iconst 0, 1) := by decide +kernel
theorem d_Det_roomOf_1 : decode b_Det_roomOf 1 = .ok (.istore_n 3, 1) := by decide +kernel
theorem d_Det_roomOf_2 : decode b_Det_roomOf 2 = .ok (.iload_n 3, 1) := by decide +kernel
theorem d_Det_roomOf_3 : decode b_Det_roomOf 3 = .ok (.aload_n 0, 1) := by decide +kernel
theorem d_Det_roomOf_4 : decode b_Det_roomOf 4 = .ok (.getfield 21, 3) := by decide +kernel
theorem d_Det_roomOf_7 : decode b_Det_roomOf 7 = .ok (.if_icmp .ge 36, 3) := by decide +kernel
theorem d_Det_roomOf_10 : decode b_Det_roomOf 10 = .ok (.aload_n 0, 1) := by decide +kernel
theorem d_Det_roomOf_11 : decode b_Det_roomOf 11 = .ok (.getfield 9, 3) := by decide +kernel
theorem d_Det_roomOf_14 : decode b_Det_roomOf 14 = .ok (.iload_n 3, 1) := by decide +kernel
theorem d_Det_roomOf_15 : decode b_Det_roomOf 15 = .ok (.iaload, 1) := by decide +kernel
theorem d_Det_roomOf_16 : decode b_Det_roomOf 16 = .ok (.iload_n 1, 1) := by decide +kernel
theorem d_Det_roomOf_17 : decode b_Det_roomOf 17 = .ok (.if_icmp .ne 20, 3) := by decide +kernel
theorem d_Det_roomOf_20 : decode b_Det_roomOf 20 = .ok (.aload_n 0, 1) := by decide +kernel
theorem d_Det_roomOf_21 : decode b_Det_roomOf 21 = .ok (.getfield 15, 3) := by decide +kernel
theorem d_Det_roomOf_24 : decode b_Det_roomOf 24 = .ok (.iload_n 3, 1) := by decide +kernel
theorem d_Det_roomOf_25 : decode b_Det_roomOf 25 = .ok (.iaload, 1) := by decide +kernel
theorem d_Det_roomOf_26 : decode b_Det_roomOf 26 = .ok (.iload_n 2, 1) := by decide +kernel
theorem d_Det_roomOf_27 : decode b_Det_roomOf 27 = .ok (.if_icmp .ne 10, 3) := by decide +kernel
theorem d_Det_roomOf_30 : decode b_Det_roomOf 30 = .ok (.aload_n 0, 1) := by decide +kernel
theorem d_Det_roomOf_31 : decode b_Det_roomOf 31 = .ok (.getfield 18, 3) := by decide +kernel
theorem d_Det_roomOf_34 : decode b_Det_roomOf 34 = .ok (.iload_n 3, 1) := by decide +kernel
theorem d_Det_roomOf_35 : decode b_Det_roomOf 35 = .ok (.iaload, 1) := by decide +kernel
theorem d_Det_roomOf_36 : decode b_Det_roomOf 36 = .ok (.ireturn, 1) := by decide +kernel
theorem d_Det_roomOf_37 : decode b_Det_roomOf 37 = .ok (.iinc 3 1, 3) := by decide +kernel
theorem d_Det_roomOf_40 : decode b_Det_roomOf 40 = .ok (.goto (-38), 3) := by decide +kernel
theorem d_Det_roomOf_43 : decode b_Det_roomOf 43 = .ok (.iconst (-1), 1) := by decide +kernel
theorem d_Det_roomOf_44 : decode b_Det_roomOf 44 = .ok (.ireturn, 1) := by decide +kernel
theorem d_Doors_init_0 : decode b_Doors_init 0 = .ok (.aload_n 0, 1) := by decide +kernel
theorem d_Doors_init_1 : decode b_Doors_init 1 = .ok (.invokespecial 3, 3) := by decide +kernel
theorem d_Doors_init_4 : decode b_Doors_init 4 = .ok (.aload_n 0, 1) := by decide +kernel
theorem d_Doors_init_5 : decode b_Doors_init 5 = .ok (.bipush 80, 2) := by decide +kernel
theorem d_Doors_init_7 : decode b_Doors_init 7 = .ok (.newarray .int, 2) := by decide +kernel
theorem d_Doors_init_9 : decode b_Doors_init 9 = .ok (.putfield 9, 3) := by decide +kernel
theorem d_Doors_init_12 : decode b_Doors_init 12 = .ok (.aload_n 0, 1) := by decide +kernel
theorem d_Doors_init_13 : decode b_Doors_init 13 = .ok (.bipush 80, 2) := by decide +kernel
theorem d_Doors_init_15 : decode b_Doors_init 15 = .ok (.newarray .int, 2) := by decide +kernel
theorem d_Doors_init_17 : decode b_Doors_init 17 = .ok (.putfield 15, 3) := by decide +kernel
theorem d_Doors_init_20 : decode b_Doors_init 20 = .ok (.aload_n 0, 1) := by decide +kernel
theorem d_Doors_init_21 : decode b_Doors_init 21 = .ok (.bipush 80, 2) := by decide +kernel
theorem d_Doors_init_23 : decode b_Doors_init 23 = .ok (.newarray .int, 2) := by decide +kernel
theorem d_Doors_init_25 : decode b_Doors_init 25 = .ok (.putfield 18, 3) := by decide +kernel
theorem d_Doors_init_28 : decode b_Doors_init 28 = .ok (.aload_n 0, 1) := by decide +kernel
theorem d_Doors_init_29 : decode b_Doors_init 29 = .ok (.bipush 80, 2) := by decide +kernel
theorem d_Doors_init_31 : decode b_Doors_init 31 = .ok (.newarray .int, 2) := by decide +kernel
theorem d_Doors_init_33 : decode b_Doors_init 33 = .ok (.putfield 21, 3) := by decide +kernel
theorem d_Doors_init_36 : decode b_Doors_init 36 = .ok (.return_, 1) := by decide +kernel
theorem d_Doors_add_0 : decode b_Doors_add 0 = .ok (.aload_n 0, 1) := by decide +kernel
theorem d_Doors_add_1 : decode b_Doors_add 1 = .ok (.getfield 24, 3) := by decide +kernel
theorem d_Doors_add_4 : decode b_Doors_add 4 = .ok (.bipush 80, 2) := by decide +kernel
theorem d_Doors_add_6 : decode b_Doors_add 6 = .ok (.if_icmp .lt 5, 3) := by decide +kernel
theorem d_Doors_add_9 : decode b_Doors_add 9 = .ok (.iconst (-1), 1) := by decide +kernel
theorem d_Doors_add_10 : decode b_Doors_add 10 = .ok (.ireturn, 1) := by decide +kernel
theorem d_Doors_add_11 : decode b_Doors_add 11 = .ok (.aload_n 0, 1) := by decide +kernel
theorem d_Doors_add_12 : decode b_Doors_add 12 = .ok (.getfield 9, 3) := by decide +kernel
theorem d_Doors_add_15 : decode b_Doors_add 15 = .ok (.aload_n 0, 1) := by decide +kernel
theorem d_Doors_add_16 : decode b_Doors_add 16 = .ok (.getfield 24, 3) := by decide +kernel
theorem d_Doors_add_19 : decode b_Doors_add 19 = .ok (.iload_n 1, 1) := by decide +kernel
theorem d_Doors_add_20 : decode b_Doors_add 20 = .ok (.iastore, 1) := by decide +kernel
theorem d_Doors_add_21 : decode b_Doors_add 21 = .ok (.aload_n 0, 1) := by decide +kernel
theorem d_Doors_add_22 : decode b_Doors_add 22 = .ok (.getfield 15, 3) := by decide +kernel
theorem d_Doors_add_25 : decode b_Doors_add 25 = .ok (.aload_n 0, 1) := by decide +kernel
theorem d_Doors_add_26 : decode b_Doors_add 26 = .ok (.getfield 24, 3) := by decide +kernel
theorem d_Doors_add_29 : decode b_Doors_add 29 = .ok (.iload_n 2, 1) := by decide +kernel
theorem d_Doors_add_30 : decode b_Doors_add 30 = .ok (.iastore, 1) := by decide +kernel
theorem d_Doors_add_31 : decode b_Doors_add 31 = .ok (.aload_n 0, 1) := by decide +kernel
theorem d_Doors_add_32 : decode b_Doors_add 32 = .ok (.getfield 18, 3) := by decide +kernel
theorem d_Doors_add_35 : decode b_Doors_add 35 = .ok (.aload_n 0, 1) := by decide +kernel
theorem d_Doors_add_36 : decode b_Doors_add 36 = .ok (.getfield 24, 3) := by decide +kernel
theorem d_Doors_add_39 : decode b_Doors_add 39 = .ok (.iload_n 3, 1) := by decide +kernel
theorem d_Doors_add_40 : decode b_Doors_add 40 = .ok (.iastore, 1) := by decide +kernel
theorem d_Doors_add_41 : decode b_Doors_add 41 = .ok (.aload_n 0, 1) := by decide +kernel
theorem d_Doors_add_42 : decode b_Doors_add 42 = .ok (.getfield 21, 3) := by decide +kernel
theorem d_Doors_add_45 : decode b_Doors_add 45 = .ok (.aload_n 0, 1) := by decide +kernel
theorem d_Doors_add_46 : decode b_Doors_add 46 = .ok (.getfield 24, 3) := by decide +kernel
theorem d_Doors_add_49 : decode b_Doors_add 49 = .ok (.iload 4, 2) := by decide +kernel
theorem d_Doors_add_51 : decode b_Doors_add 51 = .ok (.iastore, 1) := by decide +kernel
theorem d_Doors_add_52 : decode b_Doors_add 52 = .ok (.aload_n 0, 1) := by decide +kernel
theorem d_Doors_add_53 : decode b_Doors_add 53 = .ok (.dup, 1) := by decide +kernel
theorem d_Doors_add_54 : decode b_Doors_add 54 = .ok (.getfield 24, 3) := by decide +kernel
theorem d_Doors_add_57 : decode b_Doors_add 57 = .ok (.iconst 1, 1) := by decide +kernel
theorem d_Doors_add_58 : decode b_Doors_add 58 = .ok (.iadd, 1) := by decide +kernel
theorem d_Doors_add_59 : decode b_Doors_add 59 = .ok (.putfield 24, 3) := by decide +kernel
theorem d_Doors_add_62 : decode b_Doors_add 62 = .ok (.aload_n 0, 1) := by decide +kernel
theorem d_Doors_add_63 : decode b_Doors_add 63 = .ok (.getfield 24, 3) := by decide +kernel
theorem d_Doors_add_66 : decode b_Doors_add 66 = .ok (.iconst 1, 1) := by decide +kernel
theorem d_Doors_add_67 : decode b_Doors_add 67 = .ok (.isub, 1) := by decide +kernel
theorem d_Doors_add_68 : decode b_Doors_add 68 = .ok (.ireturn, 1) := by decide +kernel
theorem d_Doors_has_0 : decode b_Doors_has 0 = .ok (.iload_n 1, 1) := by decide +kernel
theorem d_Doors_has_1 : decode b_Doors_has 1 = .ok (.ifCond .lt 15, 3) := by decide +kernel
theorem d_Doors_has_4 : decode b_Doors_has 4 = .ok (.iload_n 1, 1) := by decide +kernel
theorem d_Doors_has_5 : decode b_Doors_has 5 = .ok (.aload_n 0, 1) := by decide +kernel
theorem d_Doors_has_6 : decode b_Doors_has 6 = .ok (.getfield 24, 3) := by decide +kernel
theorem d_Doors_has_9 : decode b_Doors_has 9 = .ok (.if_icmp .ge 7, 3) := by decide +kernel
theorem d_Doors_has_12 : decode b_Doors_has 12 = .ok (.iconst 1, 1) := by decide +kernel
theorem d_Doors_has_13 : decode b_Doors_has 13 = .ok (.goto 4, 3) := by decide +kernel
theorem d_Doors_has_16 : decode b_Doors_has 16 = .ok (.iconst 0, 1) := by decide +kernel
theorem d_Doors_has_17 : decode b_Doors_has 17 = .ok (.ireturn, 1) := by decide +kernel
theorem d_Doors_firstRoomOf_0 : decode b_Doors_firstRoomOf 0 = .ok (.aload_n 0, 1) := by decide +kernel
theorem d_Doors_firstRoomOf_1 : decode b_Doors_firstRoomOf 1 = .ok (.iload_n 1, 1) := by decide +kernel
theorem d_Doors_firstRoomOf_2 : decode b_Doors_firstRoomOf 2 = .ok (.invokevirtual 28, 3) := by decide +kernel
theorem d_Doors_firstRoomOf_5 : decode b_Doors_firstRoomOf 5 = .ok (.ifCond .eq 12, 3) := by decide +kernel
theorem d_Doors_firstRoomOf_8 : decode b_Doors_firstRoomOf 8 = .ok (.aload_n 0, 1) := by decide +kernel
theorem d_Doors_firstRoomOf_9 : decode b_Doors_firstRoomOf 9 = .ok (.getfield 9, 3) := by decide +kernel
theorem d_Doors_firstRoomOf_12 : decode b_Doors_firstRoomOf 12 = .ok (.iload_n 1, 1) := by decide +kernel
theorem d_Doors_firstRoomOf_13 : decode b_Doors_firstRoomOf 13 = .ok (.iaload, 1) := by decide +kernel
theorem d_Doors_firstRoomOf_14 : decode b_Doors_firstRoomOf 14 = .ok (.goto 4, 3) := by decide +kernel
theorem d_Doors_firstRoomOf_17 : decode b_Doors_firstRoomOf 17 = .ok (.iconst (-1), 1) := by decide +kernel
theorem d_Doors_firstRoomOf_18 : decode b_Doors_firstRoomOf 18 = .ok (.ireturn, 1) := by decide +kernel
theorem d_Doors_secondRoomOf_0 : decode b_Doors_secondRoomOf 0 = .ok (.aload_n 0, 1) := by decide +kernel
theorem d_Doors_secondRoomOf_1 : decode b_Doors_secondRoomOf 1 = .ok (.iload_n 1, 1) := by decide +kernel
theorem d_Doors_secondRoomOf_2 : decode b_Doors_secondRoomOf 2 = .ok (.invokevirtual 28, 3) := by decide +kernel
theorem d_Doors_secondRoomOf_5 : decode b_Doors_secondRoomOf 5 = .ok (.ifCond .eq 12, 3) := by decide +kernel
theorem d_Doors_secondRoomOf_8 : decode b_Doors_secondRoomOf 8 = .ok (.aload_n 0, 1) := by decide +kernel
theorem d_Doors_secondRoomOf_9 : decode b_Doors_secondRoomOf 9 = .ok (.getfield 15, 3) := by decide +kernel
theorem d_Doors_secondRoomOf_12 : decode b_Doors_secondRoomOf 12 = .ok (.iload_n 1, 1) := by decide +kernel
theorem d_Doors_secondRoomOf_13 : decode b_Doors_secondRoomOf 13 = .ok (.iaload, 1) := by decide +kernel
theorem d_Doors_secondRoomOf_14 : decode b_Doors_secondRoomOf 14 = .ok (.goto 4, 3) := by decide +kernel
theorem d_Doors_secondRoomOf_17 : decode b_Doors_secondRoomOf 17 = .ok (.iconst (-1), 1) := by decide +kernel
theorem d_Doors_secondRoomOf_18 : decode b_Doors_secondRoomOf 18 = .ok (.ireturn, 1) := by decide +kernel
theorem d_Doors_costOf_0 : decode b_Doors_costOf 0 = .ok (.aload_n 0, 1) := by decide +kernel
theorem d_Doors_costOf_1 : decode b_Doors_costOf 1 = .ok (.iload_n 1, 1) := by decide +kernel
theorem d_Doors_costOf_2 : decode b_Doors_costOf 2 = .ok (.invokevirtual 28, 3) := by decide +kernel
theorem d_Doors_costOf_5 : decode b_Doors_costOf 5 = .ok (.ifCond .eq 12, 3) := by decide +kernel
theorem d_Doors_costOf_8 : decode b_Doors_costOf 8 = .ok (.aload_n 0, 1) := by decide +kernel
theorem d_Doors_costOf_9 : decode b_Doors_costOf 9 = .ok (.getfield 18, 3) := by decide +kernel
theorem d_Doors_costOf_12 : decode b_Doors_costOf 12 = .ok (.iload_n 1, 1) := by decide +kernel
theorem d_Doors_costOf_13 : decode b_Doors_costOf 13 = .ok (.iaload, 1) := by decide +kernel
theorem d_Doors_costOf_14 : decode b_Doors_costOf 14 = .ok (.goto 4, 3) := by decide +kernel
theorem d_Doors_costOf_17 : decode b_Doors_costOf 17 = .ok (.iconst 0, 1) := by decide +kernel
theorem d_Doors_costOf_18 : decode b_Doors_costOf 18 = .ok (.ireturn, 1) := by decide +kernel
theorem d_Doors_keyOf_0 : decode b_Doors_keyOf 0 = .ok (.aload_n 0, 1) := by decide +kernel
theorem d_Doors_keyOf_1 : decode b_Doors_keyOf 1 = .ok (.iload_n 1, 1) := by decide +kernel
theorem d_Doors_keyOf_2 : decode b_Doors_keyOf 2 = .ok (.invokevirtual 28, 3) := by decide +kernel
theorem d_Doors_keyOf_5 : decode b_Doors_keyOf 5 = .ok (.ifCond .eq 12, 3) := by decide +kernel
theorem d_Doors_keyOf_8 : decode b_Doors_keyOf 8 = .ok (.aload_n 0, 1) := by decide +kernel
theorem d_Doors_keyOf_9 : decode b_Doors_keyOf 9 = .ok (.getfield 21, 3) := by decide +kernel
theorem d_Doors_keyOf_12 : decode b_Doors_keyOf 12 = .ok (.iload_n 1, 1) := by decide +kernel
theorem d_Doors_keyOf_13 : decode b_Doors_keyOf 13 = .ok (.iaload, 1) := by decide +kernel
theorem d_Doors_keyOf_14 : decode b_Doors_keyOf 14 = .ok (.goto 4, 3) := by decide +kernel
theorem d_Doors_keyOf_17 : decode b_Doors_keyOf 17 = .ok (.iconst 0, 1) := by decide +kernel
theorem d_Doors_keyOf_18 : decode b_Doors_keyOf 18 = .ok (.ireturn, 1) := by decide +kernel
theorem d_Doors_roomBehind_0 : decode b_Doors_roomBehind 0 = .ok (.aload_n 0, 1) := by decide +kernel
theorem d_Doors_roomBehind_1 : decode b_Doors_roomBehind 1 = .ok (.iload_n 1, 1) := by decide +kernel
theorem d_Doors_roomBehind_2 : decode b_Doors_roomBehind 2 = .ok (.invokevirtual 32, 3) := by decide +kernel
theorem d_Doors_roomBehind_5 : decode b_Doors_roomBehind 5 = .ok (.iload_n 2, 1) := by decide +kernel
theorem d_Doors_roomBehind_6 : decode b_Doors_roomBehind 6 = .ok (.if_icmp .ne 9, 3) := by decide +kernel
theorem d_Doors_roomBehind_9 : decode b_Doors_roomBehind 9 = .ok (.aload_n 0, 1) := by decide +kernel
theorem d_Doors_roomBehind_10 : decode b_Doors_roomBehind 10 = .ok (.iload_n 1, 1) := by decide +kernel
theorem d_Doors_roomBehind_11 : decode b_Doors_roomBehind 11 = .ok (.invokevirtual 36, 3) := by decide +kernel
theorem d_Doors_roomBehind_14 : decode b_Doors_roomBehind 14 = .ok (.ireturn, 1) := by decide +kernel
theorem d_Doors_roomBehind_15 : decode b_Doors_roomBehind 15 = .ok (.aload_n 0, 1) := by decide +kernel
theorem d_Doors_roomBehind_16 : decode b_Doors_roomBehind 16 = .ok (.iload_n 1, 1) := by decide +kernel
theorem d_Doors_roomBehind_17 : decode b_Doors_roomBehind 17 = .ok (.invokevirtual 36, 3) := by decide +kernel
theorem d_Doors_roomBehind_20 : decode b_Doors_roomBehind 20 = .ok (.iload_n 2, 1) := by decide +kernel
theorem d_Doors_roomBehind_21 : decode b_Doors_roomBehind 21 = .ok (.if_icmp .ne 11, 3) := by decide +kernel
theorem d_Doors_roomBehind_24 : decode b_Doors_roomBehind 24 = .ok (.aload_n 0, 1) := by decide +kernel
theorem d_Doors_roomBehind_25 : decode b_Doors_roomBehind 25 = .ok (.iload_n 1, 1) := by decide +kernel
theorem d_Doors_roomBehind_26 : decode b_Doors_roomBehind 26 = .ok (.invokevirtual 32, 3) := by decide +kernel
theorem d_Doors_roomBehind_29 : decode b_Doors_roomBehind 29 = .ok (.goto 4, 3) := by decide +kernel
theorem d_Doors_roomBehind_32 : decode b_Doors_roomBehind 32 = .ok (.iconst (-1), 1) := by decide +kernel
theorem d_Doors_roomBehind_33 : decode b_Doors_roomBehind 33 = .ok (.ireturn, 1) := by decide +kernel
theorem d_Doors_anyHasKey_0 : decode b_Doors_anyHasKey 0 = .ok (.iconst 0, 1) := by decide +kernel
theorem d_Doors_anyHasKey_1 : decode b_Doors_anyHasKey 1 = .ok (.istore_n 2, 1) := by decide +kernel
theorem d_Doors_anyHasKey_2 : decode b_Doors_anyHasKey 2 = .ok (.iload_n 2, 1) := by decide +kernel
theorem d_Doors_anyHasKey_3 : decode b_Doors_anyHasKey 3 = .ok (.aload_n 0, 1) := by decide +kernel
theorem d_Doors_anyHasKey_4 : decode b_Doors_anyHasKey 4 = .ok (.getfield 24, 3) := by decide +kernel
theorem d_Doors_anyHasKey_7 : decode b_Doors_anyHasKey 7 = .ok (.if_icmp .ge 21, 3) := by decide +kernel
theorem d_Doors_anyHasKey_10 : decode b_Doors_anyHasKey 10 = .ok (.aload_n 0, 1) := by decide +kernel
theorem d_Doors_anyHasKey_11 : decode b_Doors_anyHasKey 11 = .ok (.getfield 21, 3) := by decide +kernel
theorem d_Doors_anyHasKey_14 : decode b_Doors_anyHasKey 14 = .ok (.iload_n 2, 1) := by decide +kernel
theorem d_Doors_anyHasKey_15 : decode b_Doors_anyHasKey 15 = .ok (.iaload, 1) := by decide +kernel
theorem d_Doors_anyHasKey_16 : decode b_Doors_anyHasKey 16 = .ok (.iload_n 1, 1) := by decide +kernel
theorem d_Doors_anyHasKey_17 : decode b_Doors_anyHasKey 17 = .ok (.if_icmp .ne 5, 3) := by decide +kernel
theorem d_Doors_anyHasKey_20 : decode b_Doors_anyHasKey 20 = .ok (.iconst 1, 1) := by decide +kernel
theorem d_Doors_anyHasKey_21 : decode b_Doors_anyHasKey 21 = .ok (.ireturn, 1) := by decide +kernel
theorem d_Doors_anyHasKey_22 : decode b_Doors_anyHasKey 22 = .ok (.iinc 2 1, 3) := by decide +kernel
theorem d_Doors_anyHasKey_25 : decode b_Doors_anyHasKey 25 = .ok (.goto (-23), 3) := by decide +kernel
theorem d_Doors_anyHasKey_28 : decode b_Doors_anyHasKey 28 = .ok (.iconst 0, 1) := by decide +kernel
theorem d_Doors_anyHasKey_29 : decode b_Doors_anyHasKey 29 = .ok (.ireturn, 1) := by decide +kernel
theorem d_Keys_init_0 : decode b_Keys_init 0 = .ok (.aload_n 0, 1) := by decide +kernel
theorem d_Keys_init_1 : decode b_Keys_init 1 = .ok (.invokespecial 3, 3) := by decide +kernel
theorem d_Keys_init_4 : decode b_Keys_init 4 = .ok (.aload_n 0, 1) := by decide +kernel
theorem d_Keys_init_5 : decode b_Keys_init 5 = .ok (.bipush 31, 2) := by decide +kernel
theorem d_Keys_init_7 : decode b_Keys_init 7 = .ok (.newarray .boolean, 2) := by decide +kernel
theorem d_Keys_init_9 : decode b_Keys_init 9 = .ok (.putfield 9, 3) := by decide +kernel
theorem d_Keys_init_12 : decode b_Keys_init 12 = .ok (.return_, 1) := by decide +kernel
theorem d_Keys_has_0 : decode b_Keys_has 0 = .ok (.iload_n 1, 1) := by decide +kernel
theorem d_Keys_has_1 : decode b_Keys_has 1 = .ok (.ifCond .le 13, 3) := by decide +kernel
theorem d_Keys_has_4 : decode b_Keys_has 4 = .ok (.iload_n 1, 1) := by decide +kernel
theorem d_Keys_has_5 : decode b_Keys_has 5 = .ok (.bipush 30, 2) := by decide +kernel
theorem d_Keys_has_7 : decode b_Keys_has 7 = .ok (.if_icmp .gt 7, 3) := by decide +kernel
theorem d_Keys_has_10 : decode b_Keys_has 10 = .ok (.iconst 1, 1) := by decide +kernel
theorem d_Keys_has_11 : decode b_Keys_has 11 = .ok (.goto 4, 3) := by decide +kernel
theorem d_Keys_has_14 : decode b_Keys_has 14 = .ok (.iconst 0, 1) := by decide +kernel
theorem d_Keys_has_15 : decode b_Keys_has 15 = .ok (.ireturn, 1) := by decide +kernel
theorem d_Keys_isAtHand_0 : decode b_Keys_isAtHand 0 = .ok (.aload_n 0, 1) := by decide +kernel
theorem d_Keys_isAtHand_1 : decode b_Keys_isAtHand 1 = .ok (.iload_n 1, 1) := by decide +kernel
theorem d_Keys_isAtHand_2 : decode b_Keys_isAtHand 2 = .ok (.invokevirtual 15, 3) := by decide +kernel
theorem d_Keys_isAtHand_5 : decode b_Keys_isAtHand 5 = .ok (.ifCond .eq 16, 3) := by decide +kernel
theorem d_Keys_isAtHand_8 : decode b_Keys_isAtHand 8 = .ok (.aload_n 0, 1) := by decide +kernel
theorem d_Keys_isAtHand_9 : decode b_Keys_isAtHand 9 = .ok (.getfield 9, 3) := by decide +kernel
theorem d_Keys_isAtHand_12 : decode b_Keys_isAtHand 12 = .ok (.iload_n 1, 1) := by decide +kernel
theorem d_Keys_isAtHand_13 : decode b_Keys_isAtHand 13 = .ok (.baload, 1) := by decide +kernel
theorem d_Keys_isAtHand_14 : decode b_Keys_isAtHand 14 = .ok (.ifCond .eq 7, 3) := by decide +kernel
theorem d_Keys_isAtHand_17 : decode b_Keys_isAtHand 17 = .ok (.iconst 1, 1) := by decide +kernel
theorem d_Keys_isAtHand_18 : decode b_Keys_isAtHand 18 = .ok (.goto 4, 3) := by decide +kernel
theorem d_Keys_isAtHand_21 : decode b_Keys_isAtHand 21 = .ok (.iconst 0, 1) := by decide +kernel
theorem d_Keys_isAtHand_22 : decode b_Keys_isAtHand 22 = .ok (.ireturn, 1) := by decide +kernel
theorem d_Keys_put_0 : decode b_Keys_put 0 = .ok (.aload_n 0, 1) := by decide +kernel
theorem d_Keys_put_1 : decode b_Keys_put 1 = .ok (.iload_n 1, 1) := by decide +kernel
theorem d_Keys_put_2 : decode b_Keys_put 2 = .ok (.invokevirtual 15, 3) := by decide +kernel
theorem d_Keys_put_5 : decode b_Keys_put 5 = .ok (.ifCond .eq 38, 3) := by decide +kernel
theorem d_Keys_put_8 : decode b_Keys_put 8 = .ok (.aload_n 0, 1) := by decide +kernel
theorem d_Keys_put_9 : decode b_Keys_put 9 = .ok (.getfield 9, 3) := by decide +kernel
theorem d_Keys_put_12 : decode b_Keys_put 12 = .ok (.iload_n 1, 1) := by decide +kernel
theorem d_Keys_put_13 : decode b_Keys_put 13 = .ok (.baload, 1) := by decide +kernel
theorem d_Keys_put_14 : decode b_Keys_put 14 = .ok (.iload_n 2, 1) := by decide +kernel
theorem d_Keys_put_15 : decode b_Keys_put 15 = .ok (.if_icmp .eq 28, 3) := by decide +kernel
theorem d_Keys_put_18 : decode b_Keys_put 18 = .ok (.aload_n 0, 1) := by decide +kernel
theorem d_Keys_put_19 : decode b_Keys_put 19 = .ok (.getfield 9, 3) := by decide +kernel
theorem d_Keys_put_22 : decode b_Keys_put 22 = .ok (.iload_n 1, 1) := by decide +kernel
theorem d_Keys_put_23 : decode b_Keys_put 23 = .ok (.iload_n 2, 1) := by decide +kernel
theorem d_Keys_put_24 : decode b_Keys_put 24 = .ok (.bastore, 1) := by decide +kernel
theorem d_Keys_put_25 : decode b_Keys_put 25 = .ok (.aload_n 0, 1) := by decide +kernel
theorem d_Keys_put_26 : decode b_Keys_put 26 = .ok (.dup, 1) := by decide +kernel
theorem d_Keys_put_27 : decode b_Keys_put 27 = .ok (.getfield 19, 3) := by decide +kernel
theorem d_Keys_put_30 : decode b_Keys_put 30 = .ok (.iload_n 2, 1) := by decide +kernel
theorem d_Keys_put_31 : decode b_Keys_put 31 = .ok (.ifCond .eq 7, 3) := by decide +kernel
theorem d_Keys_put_34 : decode b_Keys_put 34 = .ok (.iconst 1, 1) := by decide +kernel
theorem d_Keys_put_35 : decode b_Keys_put 35 = .ok (.goto 4, 3) := by decide +kernel
theorem d_Keys_put_38 : decode b_Keys_put 38 = .ok (.iconst (-1), 1) := by decide +kernel
theorem d_Keys_put_39 : decode b_Keys_put 39 = .ok (.iadd, 1) := by decide +kernel
theorem d_Keys_put_40 : decode b_Keys_put 40 = .ok (.putfield 19, 3) := by decide +kernel
theorem d_Keys_put_43 : decode b_Keys_put 43 = .ok (.return_, 1) := by decide +kernel
theorem d_Rooms_init_0 : decode b_Rooms_init 0 = .ok (.aload_n 0, 1) := by decide +kernel
theorem d_Rooms_init_1 : decode b_Rooms_init 1 = .ok (.invokespecial 3, 3) := by decide +kernel
theorem d_Rooms_init_4 : decode b_Rooms_init 4 = .ok (.aload_n 0, 1) := by decide +kernel
theorem d_Rooms_init_5 : decode b_Rooms_init 5 = .ok (.bipush 40, 2) := by decide +kernel
theorem d_Rooms_init_7 : decode b_Rooms_init 7 = .ok (.newarray .int, 2) := by decide +kernel
theorem d_Rooms_init_9 : decode b_Rooms_init 9 = .ok (.putfield 9, 3) := by decide +kernel
theorem d_Rooms_init_12 : decode b_Rooms_init 12 = .ok (.aload_n 0, 1) := by decide +kernel
theorem d_Rooms_init_13 : decode b_Rooms_init 13 = .ok (.bipush 40, 2) := by decide +kernel
theorem d_Rooms_init_15 : decode b_Rooms_init 15 = .ok (.newarray .int, 2) := by decide +kernel
theorem d_Rooms_init_17 : decode b_Rooms_init 17 = .ok (.putfield 15, 3) := by decide +kernel
theorem d_Rooms_init_20 : decode b_Rooms_init 20 = .ok (.aload_n 0, 1) := by decide +kernel
theorem d_Rooms_init_21 : decode b_Rooms_init 21 = .ok (.bipush 40, 2) := by decide +kernel
theorem d_Rooms_init_23 : decode b_Rooms_init 23 = .ok (.newarray .int, 2) := by decide +kernel
theorem d_Rooms_init_25 : decode b_Rooms_init 25 = .ok (.putfield 18, 3) := by decide +kernel
theorem d_Rooms_init_28 : decode b_Rooms_init 28 = .ok (.return_, 1) := by decide +kernel
theorem d_Rooms_add_0 : decode b_Rooms_add 0 = .ok (.aload_n 0, 1) := by decide +kernel
theorem d_Rooms_add_1 : decode b_Rooms_add 1 = .ok (.getfield 21, 3) := by decide +kernel
theorem d_Rooms_add_4 : decode b_Rooms_add 4 = .ok (.bipush 40, 2) := by decide +kernel
theorem d_Rooms_add_6 : decode b_Rooms_add 6 = .ok (.if_icmp .lt 5, 3) := by decide +kernel
theorem d_Rooms_add_9 : decode b_Rooms_add 9 = .ok (.iconst (-1), 1) := by decide +kernel
theorem d_Rooms_add_10 : decode b_Rooms_add 10 = .ok (.ireturn, 1) := by decide +kernel
theorem d_Rooms_add_11 : decode b_Rooms_add 11 = .ok (.aload_n 0, 1) := by decide +kernel
theorem d_Rooms_add_12 : decode b_Rooms_add 12 = .ok (.getfield 9, 3) := by decide +kernel
theorem d_Rooms_add_15 : decode b_Rooms_add 15 = .ok (.aload_n 0, 1) := by decide +kernel
theorem d_Rooms_add_16 : decode b_Rooms_add 16 = .ok (.getfield 21, 3) := by decide +kernel
theorem d_Rooms_add_19 : decode b_Rooms_add 19 = .ok (.iload_n 1, 1) := by decide +kernel
theorem d_Rooms_add_20 : decode b_Rooms_add 20 = .ok (.iastore, 1) := by decide +kernel
theorem d_Rooms_add_21 : decode b_Rooms_add 21 = .ok (.aload_n 0, 1) := by decide +kernel
theorem d_Rooms_add_22 : decode b_Rooms_add 22 = .ok (.getfield 15, 3) := by decide +kernel
theorem d_Rooms_add_25 : decode b_Rooms_add 25 = .ok (.aload_n 0, 1) := by decide +kernel
theorem d_Rooms_add_26 : decode b_Rooms_add 26 = .ok (.getfield 21, 3) := by decide +kernel
theorem d_Rooms_add_29 : decode b_Rooms_add 29 = .ok (.iload_n 2, 1) := by decide +kernel
theorem d_Rooms_add_30 : decode b_Rooms_add 30 = .ok (.iastore, 1) := by decide +kernel
theorem d_Rooms_add_31 : decode b_Rooms_add 31 = .ok (.aload_n 0, 1) := by decide +kernel
theorem d_Rooms_add_32 : decode b_Rooms_add 32 = .ok (.dup, 1) := by decide +kernel
theorem d_Rooms_add_33 : decode b_Rooms_add 33 = .ok (.getfield 21, 3) := by decide +kernel
theorem d_Rooms_add_36 : decode b_Rooms_add 36 = .ok (.iconst 1, 1) := by decide +kernel
theorem d_Rooms_add_37 : decode b_Rooms_add 37 = .ok (.iadd, 1) := by decide +kernel
theorem d_Rooms_add_38 : decode b_Rooms_add 38 = .ok (.putfield 21, 3) := by decide +kernel
theorem d_Rooms_add_41 : decode b_Rooms_add 41 = .ok (.aload_n 0, 1) := by decide +kernel
theorem d_Rooms_add_42 : decode b_Rooms_add 42 = .ok (.getfield 21, 3) := by decide +kernel
theorem d_Rooms_add_45 : decode b_Rooms_add 45 = .ok (.iconst 1, 1) := by decide +kernel
theorem d_Rooms_add_46 : decode b_Rooms_add 46 = .ok (.isub, 1) := by decide +kernel
theorem d_Rooms_add_47 : decode b_Rooms_add 47 = .ok (.ireturn, 1) := by decide +kernel
theorem d_Rooms_has_0 : decode b_Rooms_has 0 = .ok (.iload_n 1, 1) := by decide +kernel
theorem d_Rooms_has_1 : decode b_Rooms_has 1 = .ok (.ifCond .lt 15, 3) := by decide +kernel
theorem d_Rooms_has_4 : decode b_Rooms_has 4 = .ok (.iload_n 1, 1) := by decide +kernel
theorem d_Rooms_has_5 : decode b_Rooms_has 5 = .ok (.aload_n 0, 1) := by decide +kernel
theorem d_Rooms_has_6 : decode b_Rooms_has 6 = .ok (.getfield 21, 3) := by decide +kernel
theorem d_Rooms_has_9 : decode b_Rooms_has 9 = .ok (.if_icmp .ge 7, 3) := by decide +kernel
theorem d_Rooms_has_12 : decode b_Rooms_has 12 = .ok (.iconst 1, 1) := by decide +kernel
theorem d_Rooms_has_13 : decode b_Rooms_has 13 = .ok (.goto 4, 3) := by decide +kernel
theorem d_Rooms_has_16 : decode b_Rooms_has 16 = .ok (.iconst 0, 1) := by decide +kernel
theorem d_Rooms_has_17 : decode b_Rooms_has 17 = .ok (.ireturn, 1) := by decide +kernel
theorem d_Rooms_floorOf_0 : decode b_Rooms_floorOf 0 = .ok (.aload_n 0, 1) := by decide +kernel
theorem d_Rooms_floorOf_1 : decode b_Rooms_floorOf 1 = .ok (.iload_n 1, 1) := by decide +kernel
theorem d_Rooms_floorOf_2 : decode b_Rooms_floorOf 2 = .ok (.invokevirtual 25, 3) := by decide +kernel
theorem d_Rooms_floorOf_5 : decode b_Rooms_floorOf 5 = .ok (.ifCond .eq 12, 3) := by decide +kernel
theorem d_Rooms_floorOf_8 : decode b_Rooms_floorOf 8 = .ok (.aload_n 0, 1) := by decide +kernel
theorem d_Rooms_floorOf_9 : decode b_Rooms_floorOf 9 = .ok (.getfield 9, 3) := by decide +kernel
theorem d_Rooms_floorOf_12 : decode b_Rooms_floorOf 12 = .ok (.iload_n 1, 1) := by decide +kernel
theorem d_Rooms_floorOf_13 : decode b_Rooms_floorOf 13 = .ok (.iaload, 1) := by decide +kernel
theorem d_Rooms_floorOf_14 : decode b_Rooms_floorOf 14 = .ok (.goto 4, 3) := by decide +kernel
theorem d_Rooms_floorOf_17 : decode b_Rooms_floorOf 17 = .ok (.iconst (-1), 1) := by decide +kernel
theorem d_Rooms_floorOf_18 : decode b_Rooms_floorOf 18 = .ok (.ireturn, 1) := by decide +kernel
theorem d_Rooms_isOfKind_0 : decode b_Rooms_isOfKind 0 = .ok (.aload_n 0, 1) := by decide +kernel
theorem d_Rooms_isOfKind_1 : decode b_Rooms_isOfKind 1 = .ok (.iload_n 1, 1) := by decide +kernel
theorem d_Rooms_isOfKind_2 : decode b_Rooms_isOfKind 2 = .ok (.invokevirtual 25, 3) := by decide +kernel
theorem d_Rooms_isOfKind_5 : decode b_Rooms_isOfKind 5 = .ok (.ifCond .eq 17, 3) := by decide +kernel
theorem d_Rooms_isOfKind_8 : decode b_Rooms_isOfKind 8 = .ok (.aload_n 0, 1) := by decide +kernel
theorem d_Rooms_isOfKind_9 : decode b_Rooms_isOfKind 9 = .ok (.getfield 15, 3) := by decide +kernel
theorem d_Rooms_isOfKind_12 : decode b_Rooms_isOfKind 12 = .ok (.iload_n 1, 1) := by decide +kernel
theorem d_Rooms_isOfKind_13 : decode b_Rooms_isOfKind 13 = .ok (.iaload, 1) := by decide +kernel
theorem d_Rooms_isOfKind_14 : decode b_Rooms_isOfKind 14 = .ok (.iload_n 2, 1) := by decide +kernel
theorem d_Rooms_isOfKind_15 : decode b_Rooms_isOfKind 15 = .ok (.if_icmp .ne 7, 3) := by decide +kernel
theorem d_Rooms_isOfKind_18 : decode b_Rooms_isOfKind 18 = .ok (.iconst 1, 1) := by decide +kernel
theorem d_Rooms_isOfKind_19 : decode b_Rooms_isOfKind 19 = .ok (.goto 4, 3) := by decide +kernel
theorem d_Rooms_isOfKind_22 : decode b_Rooms_isOfKind 22 = .ok (.iconst 0, 1) := by decide +kernel
theorem d_Rooms_isOfKind_23 : decode b_Rooms_isOfKind 23 = .ok (.ireturn, 1) := by decide +kernel
theorem d_Rooms_hasHazardOf_0 : decode b_Rooms_hasHazardOf 0 = .ok (.aload_n 0, 1) := by decide +kernel
theorem d_Rooms_hasHazardOf_1 : decode b_Rooms_hasHazardOf 1 = .ok (.iload_n 1, 1) := by decide +kernel
theorem d_Rooms_hasHazardOf_2 : decode b_Rooms_hasHazardOf 2 = .ok (.invokevirtual 25, 3) := by decide +kernel
theorem d_Rooms_hasHazardOf_5 : decode b_Rooms_hasHazardOf 5 = .ok (.ifCond .eq 18, 3) := by decide +kernel
theorem d_Rooms_hasHazardOf_8 : decode b_Rooms_hasHazardOf 8 = .ok (.aload_n 0, 1) := by decide +kernel
theorem d_Rooms_hasHazardOf_9 : decode b_Rooms_hasHazardOf 9 = .ok (.getfield 18, 3) := by decide +kernel
theorem d_Rooms_hasHazardOf_12 : decode b_Rooms_hasHazardOf 12 = .ok (.iload_n 1, 1) := by decide +kernel
theorem d_Rooms_hasHazardOf_13 : decode b_Rooms_hasHazardOf 13 = .ok (.iaload, 1) := by decide +kernel
theorem d_Rooms_hasHazardOf_14 : decode b_Rooms_hasHazardOf 14 = .ok (.iload_n 2, 1) := by decide +kernel
theorem d_Rooms_hasHazardOf_15 : decode b_Rooms_hasHazardOf 15 = .ok (.iand, 1) := by decide +kernel
theorem d_Rooms_hasHazardOf_16 : decode b_Rooms_hasHazardOf 16 = .ok (.ifCond .eq 7, 3) := by decide +kernel
theorem d_Rooms_hasHazardOf_19 : decode b_Rooms_hasHazardOf 19 = .ok (.iconst 1, 1) := by decide +kernel
theorem d_Rooms_hasHazardOf_20 : decode b_Rooms_hasHazardOf 20 = .ok (.goto 4, 3) := by decide +kernel
theorem d_Rooms_hasHazardOf_23 : decode b_Rooms_hasHazardOf 23 = .ok (.iconst 0, 1) := by decide +kernel
theorem d_Rooms_hasHazardOf_24 : decode b_Rooms_hasHazardOf 24 = .ok (.ireturn, 1) := by decide +kernel
theorem d_Rooms_setHazards_0 : decode b_Rooms_setHazards 0 = .ok (.aload_n 0, 1) := by decide +kernel
theorem d_Rooms_setHazards_1 : decode b_Rooms_setHazards 1 = .ok (.iload_n 1, 1) := by decide +kernel
theorem d_Rooms_setHazards_2 : decode b_Rooms_setHazards 2 = .ok (.invokevirtual 25, 3) := by decide +kernel
theorem d_Rooms_setHazards_5 : decode b_Rooms_setHazards 5 = .ok (.ifCond .eq 10, 3) := by decide +kernel
theorem d_Rooms_setHazards_8 : decode b_Rooms_setHazards 8 = .ok (.aload_n 0, 1) := by decide +kernel
theorem d_Rooms_setHazards_9 : decode b_Rooms_setHazards 9 = .ok (.getfield 18, 3) := by decide +kernel
theorem d_Rooms_setHazards_12 : decode b_Rooms_setHazards 12 = .ok (.iload_n 1, 1) := by decide +kernel
theorem d_Rooms_setHazards_13 : decode b_Rooms_setHazards 13 = .ok (.iload_n 2, 1) := by decide +kernel
theorem d_Rooms_setHazards_14 : decode b_Rooms_setHazards 14 = .ok (.iastore, 1) := by decide +kernel
theorem d_Rooms_setHazards_15 : decode b_Rooms_setHazards 15 = .ok (.return_, 1) := by decide +kernel
theorem d_Route_init_0 : decode b_Route_init 0 = .ok (.aload_n 0, 1) := by decide +kernel
theorem d_Route_init_1 : decode b_Route_init 1 = .ok (.invokespecial 3, 3) := by decide +kernel
theorem d_Route_init_4 : decode b_Route_init 4 = .ok (.aload_n 0, 1) := by decide +kernel
theorem d_Route_init_5 : decode b_Route_init 5 = .ok (.bipush 40, 2) := by decide +kernel
theorem d_Route_init_7 : decode b_Route_init 7 = .ok (.newarray .int, 2) := by decide +kernel
theorem d_Route_init_9 : decode b_Route_init 9 = .ok (.putfield 9, 3) := by decide +kernel
theorem d_Route_init_12 : decode b_Route_init 12 = .ok (.aload_n 0, 1) := by decide +kernel
theorem d_Route_init_13 : decode b_Route_init 13 = .ok (.iconst (-1), 1) := by decide +kernel
theorem d_Route_init_14 : decode b_Route_init 14 = .ok (.putfield 15, 3) := by decide +kernel
theorem d_Route_init_17 : decode b_Route_init 17 = .ok (.return_, 1) := by decide +kernel
theorem d_Route_restart_0 : decode b_Route_restart 0 = .ok (.aload_n 0, 1) := by decide +kernel
theorem d_Route_restart_1 : decode b_Route_restart 1 = .ok (.iconst 0, 1) := by decide +kernel
theorem d_Route_restart_2 : decode b_Route_restart 2 = .ok (.putfield 19, 3) := by decide +kernel
theorem d_Route_restart_5 : decode b_Route_restart 5 = .ok (.aload_n 0, 1) := by decide +kernel
theorem d_Route_restart_6 : decode b_Route_restart 6 = .ok (.iload_n 2, 1) := by decide +kernel
theorem d_Route_restart_7 : decode b_Route_restart 7 = .ok (.putfield 22, 3) := by decide +kernel
theorem d_Route_restart_10 : decode b_Route_restart 10 = .ok (.aload_n 0, 1) := by decide +kernel
theorem d_Route_restart_11 : decode b_Route_restart 11 = .ok (.iload_n 1, 1) := by decide +kernel
theorem d_Route_restart_12 : decode b_Route_restart 12 = .ok (.putfield 15, 3) := by decide +kernel
theorem d_Route_restart_15 : decode b_Route_restart 15 = .ok (.return_, 1) := by decide +kernel
theorem d_Route_addBefore_0 : decode b_Route_addBefore 0 = .ok (.aload_n 0, 1) := by decide +kernel
theorem d_Route_addBefore_1 : decode b_Route_addBefore 1 = .ok (.getfield 19, 3) := by decide +kernel
theorem d_Route_addBefore_4 : decode b_Route_addBefore 4 = .ok (.bipush 40, 2) := by decide +kernel
theorem d_Route_addBefore_6 : decode b_Route_addBefore 6 = .ok (.if_icmp .ge 23, 3) := by decide +kernel
theorem d_Route_addBefore_9 : decode b_Route_addBefore 9 = .ok (.aload_n 0, 1) := by decide +kernel
theorem d_Route_addBefore_10 : decode b_Route_addBefore 10 = .ok (.getfield 9, 3) := by decide +kernel
theorem d_Route_addBefore_13 : decode b_Route_addBefore 13 = .ok (.aload_n 0, 1) := by decide +kernel
theorem d_Route_addBefore_14 : decode b_Route_addBefore 14 = .ok (.getfield 19, 3) := by decide +kernel
theorem d_Route_addBefore_17 : decode b_Route_addBefore 17 = .ok (.iload_n 1, 1) := by decide +kernel
theorem d_Route_addBefore_18 : decode b_Route_addBefore 18 = .ok (.iastore, 1) := by decide +kernel
theorem d_Route_addBefore_19 : decode b_Route_addBefore 19 = .ok (.aload_n 0, 1) := by decide +kernel
theorem d_Route_addBefore_20 : decode b_Route_addBefore 20 = .ok (.dup, 1) := by decide +kernel
theorem d_Route_addBefore_21 : decode b_Route_addBefore 21 = .ok (.getfield 19, 3) := by decide +kernel
theorem d_Route_addBefore_24 : decode b_Route_addBefore 24 = .ok (.iconst 1, 1) := by decide +kernel
theorem d_Route_addBefore_25 : decode b_Route_addBefore 25 = .ok (.iadd, 1) := by decide +kernel
theorem d_Route_addBefore_26 : decode b_Route_addBefore 26 = .ok (.putfield 19, 3) := by decide +kernel
theorem d_Route_addBefore_29 : decode b_Route_addBefore 29 = .ok (.return_, 1) := by decide +kernel
theorem d_Route_doorAt_0 : decode b_Route_doorAt 0 = .ok (.iload_n 1, 1) := by decide +kernel
theorem d_Route_doorAt_1 : decode b_Route_doorAt 1 = .ok (.ifCond .lt 27, 3) := by decide +kernel
theorem d_Route_doorAt_4 : decode b_Route_doorAt 4 = .ok (.iload_n 1, 1) := by decide +kernel
theorem d_Route_doorAt_5 : decode b_Route_doorAt 5 = .ok (.aload_n 0, 1) := by decide +kernel
theorem d_Route_doorAt_6 : decode b_Route_doorAt 6 = .ok (.getfield 19, 3) := by decide +kernel
theorem d_Route_doorAt_9 : decode b_Route_doorAt 9 = .ok (.if_icmp .ge 19, 3) := by decide +kernel
theorem d_Route_doorAt_12 : decode b_Route_doorAt 12 = .ok (.aload_n 0, 1) := by decide +kernel
theorem d_Route_doorAt_13 : decode b_Route_doorAt 13 = .ok (.getfield 9, 3) := by decide +kernel
theorem d_Route_doorAt_16 : decode b_Route_doorAt 16 = .ok (.aload_n 0, 1) := by decide +kernel
theorem d_Route_doorAt_17 : decode b_Route_doorAt 17 = .ok (.getfield 19, 3) := by decide +kernel
theorem d_Route_doorAt_20 : decode b_Route_doorAt 20 = .ok (.iconst 1, 1) := by decide +kernel
theorem d_Route_doorAt_21 : decode b_Route_doorAt 21 = .ok (.isub, 1) := by decide +kernel
theorem d_Route_doorAt_22 : decode b_Route_doorAt 22 = .ok (.iload_n 1, 1) := by decide +kernel
theorem d_Route_doorAt_23 : decode b_Route_doorAt 23 = .ok (.isub, 1) := by decide +kernel
theorem d_Route_doorAt_24 : decode b_Route_doorAt 24 = .ok (.iaload, 1) := by decide +kernel
theorem d_Route_doorAt_25 : decode b_Route_doorAt 25 = .ok (.goto 4, 3) := by decide +kernel
theorem d_Route_doorAt_28 : decode b_Route_doorAt 28 = .ok (.iconst (-1), 1) := by decide +kernel
theorem d_Route_doorAt_29 : decode b_Route_doorAt 29 = .ok (.ireturn, 1) := by decide +kernel
theorem d_Search_init_0 : decode b_Search_init 0 = .ok (.aload_n 0, 1) := by decide +kernel
theorem d_Search_init_1 : decode b_Search_init 1 = .ok (.invokespecial 3, 3) := by decide +kernel
theorem d_Search_init_4 : decode b_Search_init 4 = .ok (.aload_n 0, 1) := by decide +kernel
theorem d_Search_init_5 : decode b_Search_init 5 = .ok (.bipush 40, 2) := by decide +kernel
theorem d_Search_init_7 : decode b_Search_init 7 = .ok (.newarray .int, 2) := by decide +kernel
theorem d_Search_init_9 : decode b_Search_init 9 = .ok (.putfield 9, 3) := by decide +kernel
theorem d_Search_init_12 : decode b_Search_init 12 = .ok (.aload_n 0, 1) := by decide +kernel
theorem d_Search_init_13 : decode b_Search_init 13 = .ok (.aload_n 1, 1) := by decide +kernel
theorem d_Search_init_14 : decode b_Search_init 14 = .ok (.putfield 15, 3) := by decide +kernel
theorem d_Search_init_17 : decode b_Search_init 17 = .ok (.aload_n 0, 1) := by decide +kernel
theorem d_Search_init_18 : decode b_Search_init 18 = .ok (.aload_n 2, 1) := by decide +kernel
theorem d_Search_init_19 : decode b_Search_init 19 = .ok (.putfield 19, 3) := by decide +kernel
theorem d_Search_init_22 : decode b_Search_init 22 = .ok (.aload_n 0, 1) := by decide +kernel
theorem d_Search_init_23 : decode b_Search_init 23 = .ok (.aload_n 3, 1) := by decide +kernel
theorem d_Search_init_24 : decode b_Search_init 24 = .ok (.putfield 23, 3) := by decide +kernel
theorem d_Search_init_27 : decode b_Search_init 27 = .ok (.return_, 1) := by decide +kernel
theorem d_Search_spreadFromRoom_0 : decode b_Search_spreadFromRoom 0 = .ok (.aload_n 0, 1) := by decide +kernel
theorem d_Search_spreadFromRoom_1 : decode b_Search_spreadFromRoom 1 = .ok (.getfield 9, 3) := by decide +kernel
theorem d_Search_spreadFromRoom_4 : decode b_Search_spreadFromRoom 4 = .ok (.ldc 27, 2) := by decide +kernel
theorem d_Search_spreadFromRoom_6 : decode b_Search_spreadFromRoom 6 = .ok (.invokestatic 28, 3) := by decide +kernel
theorem d_Search_spreadFromRoom_9 : decode b_Search_spreadFromRoom 9 = .ok (.aload_n 0, 1) := by decide +kernel
theorem d_Search_spreadFromRoom_10 : decode b_Search_spreadFromRoom 10 = .ok (.getfield 15, 3) := by decide +kernel
theorem d_Search_spreadFromRoom_13 : decode b_Search_spreadFromRoom 13 = .ok (.iload_n 1, 1) := by decide +kernel
theorem d_Search_spreadFromRoom_14 : decode b_Search_spreadFromRoom 14 = .ok (.invokevirtual 34, 3) := by decide +kernel
theorem d_Search_spreadFromRoom_17 : decode b_Search_spreadFromRoom 17 = .ok (.ifCond .eq 10, 3) := by decide +kernel
theorem d_Search_spreadFromRoom_20 : decode b_Search_spreadFromRoom 20 = .ok (.aload_n 0, 1) := by decide +kernel
theorem d_Search_spreadFromRoom_21 : decode b_Search_spreadFromRoom 21 = .ok (.getfield 9, 3) := by decide +kernel
theorem d_Search_spreadFromRoom_24 : decode b_Search_spreadFromRoom 24 = .ok (.iload_n 1, 1) := by decide +kernel
theorem d_Search_spreadFromRoom_25 : decode b_Search_spreadFromRoom 25 = .ok (.iconst 0, 1) := by decide +kernel
theorem d_Search_spreadFromRoom_26 : decode b_Search_spreadFromRoom 26 = .ok (.iastore, 1) := by decide +kernel
theorem d_Search_spreadFromRoom_27 : decode b_Search_spreadFromRoom 27 = .ok (.aload_n 0, 1) := by decide +kernel
theorem d_Search_spreadFromRoom_28 : decode b_Search_spreadFromRoom 28 = .ok (.iload_n 2, 1) := by decide +kernel
theorem d_Search_spreadFromRoom_29 : decode b_Search_spreadFromRoom 29 = .ok (.invokevirtual 40, 3) := by decide +kernel
theorem d_Search_spreadFromRoom_32 : decode b_Search_spreadFromRoom 32 = .ok (.return_, 1) := by decide +kernel
theorem d_Search_spreadFromKind_0 : decode b_Search_spreadFromKind 0 = .ok (.iconst 0, 1) := by decide +kernel
theorem d_Search_spreadFromKind_1 : decode b_Search_spreadFromKind 1 = .ok (.istore_n 2, 1) := by decide +kernel
theorem d_Search_spreadFromKind_2 : decode b_Search_spreadFromKind 2 = .ok (.iload_n 2, 1) := by decide +kernel
theorem d_Search_spreadFromKind_3 : decode b_Search_spreadFromKind 3 = .ok (.bipush 40, 2) := by decide +kernel
theorem d_Search_spreadFromKind_5 : decode b_Search_spreadFromKind 5 = .ok (.if_icmp .ge 33, 3) := by decide +kernel
theorem d_Search_spreadFromKind_8 : decode b_Search_spreadFromKind 8 = .ok (.aload_n 0, 1) := by decide +kernel
theorem d_Search_spreadFromKind_9 : decode b_Search_spreadFromKind 9 = .ok (.getfield 9, 3) := by decide +kernel
theorem d_Search_spreadFromKind_12 : decode b_Search_spreadFromKind 12 = .ok (.iload_n 2, 1) := by decide +kernel
theorem d_Search_spreadFromKind_13 : decode b_Search_spreadFromKind 13 = .ok (.aload_n 0, 1) := by decide +kernel
theorem d_Search_spreadFromKind_14 : decode b_Search_spreadFromKind 14 = .ok (.getfield 15, 3) := by decide +kernel
theorem d_Search_spreadFromKind_17 : decode b_Search_spreadFromKind 17 = .ok (.iload_n 2, 1) := by decide +kernel
theorem d_Search_spreadFromKind_18 : decode b_Search_spreadFromKind 18 = .ok (.iload_n 1, 1) := by decide +kernel
theorem d_Search_spreadFromKind_19 : decode b_Search_spreadFromKind 19 = .ok (.invokevirtual 44, 3) := by decide +kernel
theorem d_Search_spreadFromKind_22 : decode b_Search_spreadFromKind 22 = .ok (.ifCond .eq 7, 3) := by decide +kernel
theorem d_Search_spreadFromKind_25 : decode b_Search_spreadFromKind 25 = .ok (.iconst 0, 1) := by decide +kernel
theorem d_Search_spreadFromKind_26 : decode b_Search_spreadFromKind 26 = .ok (.goto 5, 3) := by decide +kernel
theorem d_Search_spreadFromKind_29 : decode b_Search_spreadFromKind 29 = .ok (.ldc 27, 2) := by decide +kernel
theorem d_Search_spreadFromKind_31 : decode b_Search_spreadFromKind 31 = .ok (.iastore, 1) := by decide +kernel
theorem d_Search_spreadFromKind_32 : decode b_Search_spreadFromKind 32 = .ok (.iinc 2 1, 3) := by decide +kernel
theorem d_Search_spreadFromKind_35 : decode b_Search_spreadFromKind 35 = .ok (.goto (-33), 3) := by decide +kernel
theorem d_Search_spreadFromKind_38 : decode b_Search_spreadFromKind 38 = .ok (.aload_n 0, 1) := by decide +kernel
theorem d_Search_spreadFromKind_39 : decode b_Search_spreadFromKind 39 = .ok (.iconst 0, 1) := by decide +kernel
theorem d_Search_spreadFromKind_40 : decode b_Search_spreadFromKind 40 = .ok (.invokevirtual 40, 3) := by decide +kernel
theorem d_Search_spreadFromKind_43 : decode b_Search_spreadFromKind 43 = .ok (.return_, 1) := by decide +kernel
theorem d_Search_spread_0 : decode b_Search_spread 0 = .ok (.iconst 1, 1) := by decide +kernel
theorem d_Search_spread_1 : decode b_Search_spread 1 = .ok (.istore_n 2, 1) := by decide +kernel
theorem d_Search_spread_2 : decode b_Search_spread 2 = .ok (.iconst 0, 1) := by decide +kernel
theorem d_Search_spread_3 : decode b_Search_spread 3 = .ok (.istore_n 3, 1) := by decide +kernel
theorem d_Search_spread_4 : decode b_Search_spread 4 = .ok (.iload_n 2, 1) := by decide +kernel
theorem d_Search_spread_5 : decode b_Search_spread 5 = .ok (.ifCond .eq 21, 3) := by decide +kernel
theorem d_Search_spread_8 : decode b_Search_spread 8 = .ok (.iload_n 3, 1) := by decide +kernel
theorem d_Search_spread_9 : decode b_Search_spread 9 = .ok (.bipush 40, 2) := by decide +kernel
theorem d_Search_spread_11 : decode b_Search_spread 11 = .ok (.if_icmp .ge 15, 3) := by decide +kernel
theorem d_Search_spread_14 : decode b_Search_spread 14 = .ok (.aload_n 0, 1) := by decide +kernel
theorem d_Search_spread_15 : decode b_Search_spread 15 = .ok (.iload_n 1, 1) := by decide +kernel
theorem d_Search_spread_16 : decode b_Search_spread 16 = .ok (.invokevirtual 48, 3) := by decide +kernel
theorem d_Search_spread_19 : decode b_Search_spread 19 = .ok (.istore_n 2, 1) := by decide +kernel
theorem d_Search_spread_20 : decode b_Search_spread 20 = .ok (.iinc 3 1, 3) := by decide +kernel
theorem d_Search_spread_23 : decode b_Search_spread 23 = .ok (.goto (-19), 3) := by decide +kernel
theorem d_Search_spread_26 : decode b_Search_spread 26 = .ok (.return_, 1) := by decide +kernel
theorem d_Search_spreadOverAllDoors_0 : decode b_Search_spreadOverAllDoors 0 = .ok (.iconst 0, 1) := by decide +kernel
theorem d_Search_spreadOverAllDoors_1 : decode b_Search_spreadOverAllDoors 1 = .ok (.istore_n 2, 1) := by decide +kernel
theorem d_Search_spreadOverAllDoors_2 : decode b_Search_spreadOverAllDoors 2 = .ok (.iconst 0, 1) := by decide +kernel
theorem d_Search_spreadOverAllDoors_3 : decode b_Search_spreadOverAllDoors 3 = .ok (.istore_n 3, 1) := by decide +kernel
theorem d_Search_spreadOverAllDoors_4 : decode b_Search_spreadOverAllDoors 4 = .ok (.iload_n 3, 1) := by decide +kernel
theorem d_Search_spreadOverAllDoors_5 : decode b_Search_spreadOverAllDoors 5 = .ok (.aload_n 0, 1) := by decide +kernel
theorem d_Search_spreadOverAllDoors_6 : decode b_Search_spreadOverAllDoors 6 = .ok (.getfield 19, 3) := by decide +kernel
theorem d_Search_spreadOverAllDoors_9 : decode b_Search_spreadOverAllDoors 9 = .ok (.getfield 51, 3) := by decide +kernel
theorem d_Search_spreadOverAllDoors_12 : decode b_Search_spreadOverAllDoors 12 = .ok (.if_icmp .ge 93, 3) := by decide +kernel
theorem d_Search_spreadOverAllDoors_15 : decode b_Search_spreadOverAllDoors 15 = .ok (.aload_n 0, 1) := by decide +kernel
theorem d_Search_spreadOverAllDoors_16 : decode b_Search_spreadOverAllDoors 16 = .ok (.iload_n 3, 1) := by decide +kernel
theorem d_Search_spreadOverAllDoors_17 : decode b_Search_spreadOverAllDoors 17 = .ok (.invokevirtual 57, 3) := by decide +kernel
theorem d_Search_spreadOverAllDoors_20 : decode b_Search_spreadOverAllDoors 20 = .ok (.ifCond .eq 79, 3) := by decide +kernel
theorem d_Search_spreadOverAllDoors_23 : decode b_Search_spreadOverAllDoors 23 = .ok (.aload_n 0, 1) := by decide +kernel
theorem d_Search_spreadOverAllDoors_24 : decode b_Search_spreadOverAllDoors 24 = .ok (.getfield 19, 3) := by decide +kernel
theorem d_Search_spreadOverAllDoors_27 : decode b_Search_spreadOverAllDoors 27 = .ok (.iload_n 3, 1) := by decide +kernel
theorem d_Search_spreadOverAllDoors_28 : decode b_Search_spreadOverAllDoors 28 = .ok (.invokevirtual 60, 3) := by decide +kernel
theorem d_Search_spreadOverAllDoors_31 : decode b_Search_spreadOverAllDoors 31 = .ok (.istore 4, 2) := by decide +kernel
theorem d_Search_spreadOverAllDoors_33 : decode b_Search_spreadOverAllDoors 33 = .ok (.aload_n 0, 1) := by decide +kernel
theorem d_Search_spreadOverAllDoors_34 : decode b_Search_spreadOverAllDoors 34 = .ok (.getfield 19, 3) := by decide +kernel
theorem d_Search_spreadOverAllDoors_37 : decode b_Search_spreadOverAllDoors 37 = .ok (.iload_n 3, 1) := by decide +kernel
theorem d_Search_spreadOverAllDoors_38 : decode b_Search_spreadOverAllDoors 38 = .ok (.invokevirtual 64, 3) := by decide +kernel
theorem d_Search_spreadOverAllDoors_41 : decode b_Search_spreadOverAllDoors 41 = .ok (.istore 5, 2) := by decide +kernel
theorem d_Search_spreadOverAllDoors_43 : decode b_Search_spreadOverAllDoors 43 = .ok (.aload_n 0, 1) := by decide +kernel
theorem d_Search_spreadOverAllDoors_44 : decode b_Search_spreadOverAllDoors 44 = .ok (.getfield 19, 3) := by decide +kernel
theorem d_Search_spreadOverAllDoors_47 : decode b_Search_spreadOverAllDoors 47 = .ok (.iload_n 3, 1) := by decide +kernel
theorem d_Search_spreadOverAllDoors_48 : decode b_Search_spreadOverAllDoors 48 = .ok (.invokevirtual 67, 3) := by decide +kernel
theorem d_Search_spreadOverAllDoors_51 : decode b_Search_spreadOverAllDoors 51 = .ok (.istore 6, 2) := by decide +kernel
theorem d_Search_spreadOverAllDoors_53 : decode b_Search_spreadOverAllDoors 53 = .ok (.aload_n 0, 1) := by decide +kernel
theorem d_Search_spreadOverAllDoors_54 : decode b_Search_spreadOverAllDoors 54 = .ok (.iload 4, 2) := by decide +kernel
theorem d_Search_spreadOverAllDoors_56 : decode b_Search_spreadOverAllDoors 56 = .ok (.iload 5, 2) := by decide +kernel
theorem d_Search_spreadOverAllDoors_58 : decode b_Search_spreadOverAllDoors 58 = .ok (.iload 6, 2) := by decide +kernel
theorem d_Search_spreadOverAllDoors_60 : decode b_Search_spreadOverAllDoors 60 = .ok (.iload_n 1, 1) := by decide +kernel
theorem d_Search_spreadOverAllDoors_61 : decode b_Search_spreadOverAllDoors 61 = .ok (.invokevirtual 70, 3) := by decide +kernel
theorem d_Search_spreadOverAllDoors_64 : decode b_Search_spreadOverAllDoors 64 = .ok (.istore 7, 2) := by decide +kernel
theorem d_Search_spreadOverAllDoors_66 : decode b_Search_spreadOverAllDoors 66 = .ok (.aload_n 0, 1) := by decide +kernel
theorem d_Search_spreadOverAllDoors_67 : decode b_Search_spreadOverAllDoors 67 = .ok (.iload 5, 2) := by decide +kernel
theorem d_Search_spreadOverAllDoors_69 : decode b_Search_spreadOverAllDoors 69 = .ok (.iload 4, 2) := by decide +kernel
theorem d_Search_spreadOverAllDoors_71 : decode b_Search_spreadOverAllDoors 71 = .ok (.iload 6, 2) := by decide +kernel
theorem d_Search_spreadOverAllDoors_73 : decode b_Search_spreadOverAllDoors 73 = .ok (.iload_n 1, 1) := by decide +kernel
theorem d_Search_spreadOverAllDoors_74 : decode b_Search_spreadOverAllDoors 74 = .ok (.invokevirtual 70, 3) := by decide +kernel
theorem d_Search_spreadOverAllDoors_77 : decode b_Search_spreadOverAllDoors 77 = .ok (.istore 8, 2) := by decide +kernel
theorem d_Search_spreadOverAllDoors_79 : decode b_Search_spreadOverAllDoors 79 = .ok (.iload_n 2, 1) := by decide +kernel
theorem d_Search_spreadOverAllDoors_80 : decode b_Search_spreadOverAllDoors 80 = .ok (.ifCond .ne 13, 3) := by decide +kernel
theorem d_Search_spreadOverAllDoors_83 : decode b_Search_spreadOverAllDoors 83 = .ok (.iload 8, 2) := by decide +kernel
theorem d_Search_spreadOverAllDoors_85 : decode b_Search_spreadOverAllDoors 85 = .ok (.ifCond .ne 8, 3) := by decide +kernel
theorem d_Search_spreadOverAllDoors_88 : decode b_Search_spreadOverAllDoors 88 = .ok (.iload 7, 2) := by decide +kernel
theorem d_Search_spreadOverAllDoors_90 : decode b_Search_spreadOverAllDoors 90 = .ok (.ifCond .eq 7, 3) := by decide +kernel
theorem d_Search_spreadOverAllDoors_93 : decode b_Search_spreadOverAllDoors 93 = .ok (.iconst 1, 1) := by decide +kernel
theorem d_Search_spreadOverAllDoors_94 : decode b_Search_spreadOverAllDoors 94 = .ok (.goto 4, 3) := by decide +kernel
theorem d_Search_spreadOverAllDoors_97 : decode b_Search_spreadOverAllDoors 97 = .ok (.iconst 0, 1) := by decide +kernel
theorem d_Search_spreadOverAllDoors_98 : decode b_Search_spreadOverAllDoors 98 = .ok (.istore_n 2, 1) := by decide +kernel
theorem d_Search_spreadOverAllDoors_99 : decode b_Search_spreadOverAllDoors 99 = .ok (.iinc 3 1, 3) := by decide +kernel
theorem d_Search_spreadOverAllDoors_102 : decode b_Search_spreadOverAllDoors 102 = .ok (.goto (-98), 3) := by decide +kernel
theorem d_Search_spreadOverAllDoors_105 : decode b_Search_spreadOverAllDoors 105 = .ok (.iload_n 2, 1) := by decide +kernel
theorem d_Search_spreadOverAllDoors_106 : decode b_Search_spreadOverAllDoors 106 = .ok (.ireturn, 1) := by decide +kernel
theorem d_Search_lowerCost_0 : decode b_Search_lowerCost 0 = .ok (.aload_n 0, 1) := by decide +kernel
theorem d_Search_lowerCost_1 : decode b_Search_lowerCost 1 = .ok (.iload_n 1, 1) := by decide +kernel
theorem d_Search_lowerCost_2 : decode b_Search_lowerCost 2 = .ok (.invokevirtual 74, 3) := by decide +kernel
theorem d_Search_lowerCost_5 : decode b_Search_lowerCost 5 = .ok (.ifCond .eq 27, 3) := by decide +kernel
theorem d_Search_lowerCost_8 : decode b_Search_lowerCost 8 = .ok (.aload_n 0, 1) := by decide +kernel
theorem d_Search_lowerCost_9 : decode b_Search_lowerCost 9 = .ok (.getfield 15, 3) := by decide +kernel
theorem d_Search_lowerCost_12 : decode b_Search_lowerCost 12 = .ok (.iload_n 2, 1) := by decide +kernel
theorem d_Search_lowerCost_13 : decode b_Search_lowerCost 13 = .ok (.invokevirtual 34, 3) := by decide +kernel
theorem d_Search_lowerCost_16 : decode b_Search_lowerCost 16 = .ok (.ifCond .eq 16, 3) := by decide +kernel
theorem d_Search_lowerCost_19 : decode b_Search_lowerCost 19 = .ok (.aload_n 0, 1) := by decide +kernel
theorem d_Search_lowerCost_20 : decode b_Search_lowerCost 20 = .ok (.getfield 15, 3) := by decide +kernel
theorem d_Search_lowerCost_23 : decode b_Search_lowerCost 23 = .ok (.iload_n 2, 1) := by decide +kernel
theorem d_Search_lowerCost_24 : decode b_Search_lowerCost 24 = .ok (.iload 4, 2) := by decide +kernel
theorem d_Search_lowerCost_26 : decode b_Search_lowerCost 26 = .ok (.invokevirtual 77, 3) := by decide +kernel
theorem d_Search_lowerCost_29 : decode b_Search_lowerCost 29 = .ok (.ifCond .eq 5, 3) := by decide +kernel
theorem d_Search_lowerCost_32 : decode b_Search_lowerCost 32 = .ok (.iconst 0, 1) := by decide +kernel
theorem d_Search_lowerCost_33 : decode b_Search_lowerCost 33 = .ok (.ireturn, 1) := by decide +kernel
theorem d_Search_lowerCost_34 : decode b_Search_lowerCost 34 = .ok (.aload_n 0, 1) := by decide +kernel
theorem d_Search_lowerCost_35 : decode b_Search_lowerCost 35 = .ok (.getfield 9, 3) := by decide +kernel
theorem d_Search_lowerCost_38 : decode b_Search_lowerCost 38 = .ok (.iload_n 1, 1) := by decide +kernel
theorem d_Search_lowerCost_39 : decode b_Search_lowerCost 39 = .ok (.iaload, 1) := by decide +kernel
theorem d_Search_lowerCost_40 : decode b_Search_lowerCost 40 = .ok (.iload_n 3, 1) := by decide +kernel
theorem d_Search_lowerCost_41 : decode b_Search_lowerCost 41 = .ok (.iadd, 1) := by decide +kernel
theorem d_Search_lowerCost_42 : decode b_Search_lowerCost 42 = .ok (.istore 5, 2) := by decide +kernel
theorem d_Search_lowerCost_44 : decode b_Search_lowerCost 44 = .ok (.iload 5, 2) := by decide +kernel
theorem d_Search_lowerCost_46 : decode b_Search_lowerCost 46 = .ok (.aload_n 0, 1) := by decide +kernel
theorem d_Search_lowerCost_47 : decode b_Search_lowerCost 47 = .ok (.getfield 9, 3) := by decide +kernel
theorem d_Search_lowerCost_50 : decode b_Search_lowerCost 50 = .ok (.iload_n 2, 1) := by decide +kernel
theorem d_Search_lowerCost_51 : decode b_Search_lowerCost 51 = .ok (.iaload, 1) := by decide +kernel
theorem d_Search_lowerCost_52 : decode b_Search_lowerCost 52 = .ok (.if_icmp .lt 5, 3) := by decide +kernel
theorem d_Search_lowerCost_55 : decode b_Search_lowerCost 55 = .ok (.iconst 0, 1) := by decide +kernel
theorem d_Search_lowerCost_56 : decode b_Search_lowerCost 56 = .ok (.ireturn, 1) := by decide +kernel
theorem d_Search_lowerCost_57 : decode b_Search_lowerCost 57 = .ok (.aload_n 0, 1) := by decide +kernel
theorem d_Search_lowerCost_58 : decode b_Search_lowerCost 58 = .ok (.getfield 9, 3) := by decide +kernel
theorem d_Search_lowerCost_61 : decode b_Search_lowerCost 61 = .ok (.iload_n 2, 1) := by decide +kernel
theorem d_Search_lowerCost_62 : decode b_Search_lowerCost 62 = .ok (.iload 5, 2) := by decide +kernel
theorem d_Search_lowerCost_64 : decode b_Search_lowerCost 64 = .ok (.iastore, 1) := by decide +kernel
theorem d_Search_lowerCost_65 : decode b_Search_lowerCost 65 = .ok (.iconst 1, 1) := by decide +kernel
theorem d_Search_lowerCost_66 : decode b_Search_lowerCost 66 = .ok (.ireturn, 1) := by decide +kernel
theorem d_Search_isPassed_0 : decode b_Search_isPassed 0 = .ok (.aload_n 0, 1) := by decide +kernel
theorem d_Search_isPassed_1 : decode b_Search_isPassed 1 = .ok (.getfield 19, 3) := by decide +kernel
theorem d_Search_isPassed_4 : decode b_Search_isPassed 4 = .ok (.iload_n 1, 1) := by decide +kernel
theorem d_Search_isPassed_5 : decode b_Search_isPassed 5 = .ok (.invokevirtual 80, 3) := by decide +kernel
theorem d_Search_isPassed_8 : decode b_Search_isPassed 8 = .ok (.istore_n 2, 1) := by decide +kernel
theorem d_Search_isPassed_9 : decode b_Search_isPassed 9 = .ok (.iload_n 2, 1) := by decide +kernel
theorem d_Search_isPassed_10 : decode b_Search_isPassed 10 = .ok (.ifCond .eq 14, 3) := by decide +kernel
theorem d_Search_isPassed_13 : decode b_Search_isPassed 13 = .ok (.aload_n 0, 1) := by decide +kernel
theorem d_Search_isPassed_14 : decode b_Search_isPassed 14 = .ok (.getfield 23, 3) := by decide +kernel
theorem d_Search_isPassed_17 : decode b_Search_isPassed 17 = .ok (.iload_n 2, 1) := by decide +kernel
theorem d_Search_isPassed_18 : decode b_Search_isPassed 18 = .ok (.invokevirtual 83, 3) := by decide +kernel
theorem d_Search_isPassed_21 : decode b_Search_isPassed 21 = .ok (.ifCond .eq 7, 3) := by decide +kernel
theorem d_Search_isPassed_24 : decode b_Search_isPassed 24 = .ok (.iconst 1, 1) := by decide +kernel
theorem d_Search_isPassed_25 : decode b_Search_isPassed 25 = .ok (.goto 4, 3) := by decide +kernel
theorem d_Search_isPassed_28 : decode b_Search_isPassed 28 = .ok (.iconst 0, 1) := by decide +kernel
theorem d_Search_isPassed_29 : decode b_Search_isPassed 29 = .ok (.ireturn, 1) := by decide +kernel
theorem d_Search_isReached_0 : decode b_Search_isReached 0 = .ok (.aload_n 0, 1) := by decide +kernel
theorem d_Search_isReached_1 : decode b_Search_isReached 1 = .ok (.getfield 15, 3) := by decide +kernel
theorem d_Search_isReached_4 : decode b_Search_isReached 4 = .ok (.iload_n 1, 1) := by decide +kernel
theorem d_Search_isReached_5 : decode b_Search_isReached 5 = .ok (.invokevirtual 34, 3) := by decide +kernel
theorem d_Search_isReached_8 : decode b_Search_isReached 8 = .ok (.ifCond .eq 18, 3) := by decide +kernel
theorem d_Search_isReached_11 : decode b_Search_isReached 11 = .ok (.aload_n 0, 1) := by decide +kernel
theorem d_Search_isReached_12 : decode b_Search_isReached 12 = .ok (.getfield 9, 3) := by decide +kernel
theorem d_Search_isReached_15 : decode b_Search_isReached 15 = .ok (.iload_n 1, 1) := by decide +kernel
theorem d_Search_isReached_16 : decode b_Search_isReached 16 = .ok (.iaload, 1) := by decide +kernel
theorem d_Search_isReached_17 : decode b_Search_isReached 17 = .ok (.ldc 27, 2) := by decide +kernel
theorem d_Search_isReached_19 : decode b_Search_isReached 19 = .ok (.if_icmp .eq 7, 3) := by decide +kernel
theorem d_Search_isReached_22 : decode b_Search_isReached 22 = .ok (.iconst 1, 1) := by decide +kernel
theorem d_Search_isReached_23 : decode b_Search_isReached 23 = .ok (.goto 4, 3) := by decide +kernel
theorem d_Search_isReached_26 : decode b_Search_isReached 26 = .ok (.iconst 0, 1) := by decide +kernel
theorem d_Search_isReached_27 : decode b_Search_isReached 27 = .ok (.ireturn, 1) := by decide +kernel
theorem d_Search_nearestOf_0 : decode b_Search_nearestOf 0 = .ok (.iconst (-1), 1) := by decide +kernel
theorem d_Search_nearestOf_1 : decode b_Search_nearestOf 1 = .ok (.istore_n 2, 1) := by decide +kernel
theorem d_Search_nearestOf_2 : decode b_Search_nearestOf 2 = .ok (.ldc 27, 2) := by decide +kernel
theorem d_Search_nearestOf_4 : decode b_Search_nearestOf 4 = .ok (.istore_n 3, 1) := by decide +kernel
theorem d_Search_nearestOf_5 : decode b_Search_nearestOf 5 = .ok (.iconst 0, 1) := by decide +kernel
theorem d_Search_nearestOf_6 : decode b_Search_nearestOf 6 = .ok (.istore 4, 2) := by decide +kernel
theorem d_Search_nearestOf_8 : decode b_Search_nearestOf 8 = .ok (.iload 4, 2) := by decide +kernel
theorem d_Search_nearestOf_10 : decode b_Search_nearestOf 10 = .ok (.aload_n 0, 1) := by decide +kernel
theorem d_Search_nearestOf_11 : decode b_Search_nearestOf 11 = .ok (.getfield 15, 3) := by decide +kernel
theorem d_Search_nearestOf_14 : decode b_Search_nearestOf 14 = .ok (.getfield 88, 3) := by decide +kernel
theorem d_Search_nearestOf_17 : decode b_Search_nearestOf 17 = .ok (.if_icmp .ge 44, 3) := by decide +kernel
theorem d_Search_nearestOf_20 : decode b_Search_nearestOf 20 = .ok (.aload_n 0, 1) := by decide +kernel
theorem d_Search_nearestOf_21 : decode b_Search_nearestOf 21 = .ok (.getfield 15, 3) := by decide +kernel
theorem d_Search_nearestOf_24 : decode b_Search_nearestOf 24 = .ok (.iload 4, 2) := by decide +kernel
theorem d_Search_nearestOf_26 : decode b_Search_nearestOf 26 = .ok (.iload_n 1, 1) := by decide +kernel
theorem d_Search_nearestOf_27 : decode b_Search_nearestOf 27 = .ok (.invokevirtual 44, 3) := by decide +kernel
theorem d_Search_nearestOf_30 : decode b_Search_nearestOf 30 = .ok (.ifCond .eq 25, 3) := by decide +kernel
theorem d_Search_nearestOf_33 : decode b_Search_nearestOf 33 = .ok (.aload_n 0, 1) := by decide +kernel
theorem d_Search_nearestOf_34 : decode b_Search_nearestOf 34 = .ok (.getfield 9, 3) := by decide +kernel
theorem d_Search_nearestOf_37 : decode b_Search_nearestOf 37 = .ok (.iload 4, 2) := by decide +kernel
theorem d_Search_nearestOf_39 : decode b_Search_nearestOf 39 = .ok (.iaload, 1) := by decide +kernel
theorem d_Search_nearestOf_40 : decode b_Search_nearestOf 40 = .ok (.iload_n 3, 1) := by decide +kernel
theorem d_Search_nearestOf_41 : decode b_Search_nearestOf 41 = .ok (.if_icmp .ge 14, 3) := by decide +kernel
theorem d_Search_nearestOf_44 : decode b_Search_nearestOf 44 = .ok (.iload 4, 2) := by decide +kernel
theorem d_Search_nearestOf_46 : decode b_Search_nearestOf 46 = .ok (.istore_n 2, 1) := by decide +kernel
theorem d_Search_nearestOf_47 : decode b_Search_nearestOf 47 = .ok (.aload_n 0, 1) := by decide +kernel
theorem d_Search_nearestOf_48 : decode b_Search_nearestOf 48 = .ok (.getfield 9, 3) := by decide +kernel
theorem d_Search_nearestOf_51 : decode b_Search_nearestOf 51 = .ok (.iload 4, 2) := by decide +kernel
theorem d_Search_nearestOf_53 : decode b_Search_nearestOf 53 = .ok (.iaload, 1) := by decide +kernel
theorem d_Search_nearestOf_54 : decode b_Search_nearestOf 54 = .ok (.istore_n 3, 1) := by decide +kernel
theorem d_Search_nearestOf_55 : decode b_Search_nearestOf 55 = .ok (.iinc 4 1, 3) := by decide +kernel
theorem d_Search_nearestOf_58 : decode b_Search_nearestOf 58 = .ok (.goto (-50), 3) := by decide +kernel
theorem d_Search_nearestOf_61 : decode b_Search_nearestOf 61 = .ok (.iload_n 2, 1) := by decide +kernel
theorem d_Search_nearestOf_62 : decode b_Search_nearestOf 62 = .ok (.ireturn, 1) := by decide +kernel
theorem d_Search_metresTo_0 : decode b_Search_metresTo 0 = .ok (.aload_n 0, 1) := by decide +kernel
theorem d_Search_metresTo_1 : decode b_Search_metresTo 1 = .ok (.iload_n 1, 1) := by decide +kernel
theorem d_Search_metresTo_2 : decode b_Search_metresTo 2 = .ok (.invokevirtual 74, 3) := by decide +kernel
theorem d_Search_metresTo_5 : decode b_Search_metresTo 5 = .ok (.ifCond .eq 15, 3) := by decide +kernel
theorem d_Search_metresTo_8 : decode b_Search_metresTo 8 = .ok (.aload_n 0, 1) := by decide +kernel
theorem d_Search_metresTo_9 : decode b_Search_metresTo 9 = .ok (.getfield 9, 3) := by decide +kernel
theorem d_Search_metresTo_12 : decode b_Search_metresTo 12 = .ok (.iload_n 1, 1) := by decide +kernel
theorem d_Search_metresTo_13 : decode b_Search_metresTo 13 = .ok (.iaload, 1) := by decide +kernel
theorem d_Search_metresTo_14 : decode b_Search_metresTo 14 = .ok (.bipush 64, 2) := by decide +kernel
theorem d_Search_metresTo_16 : decode b_Search_metresTo 16 = .ok (.idiv, 1) := by decide +kernel
theorem d_Search_metresTo_17 : decode b_Search_metresTo 17 = .ok (.goto 4, 3) := by decide +kernel
theorem d_Search_metresTo_20 : decode b_Search_metresTo 20 = .ok (.iconst (-1), 1) := by decide +kernel
theorem d_Search_metresTo_21 : decode b_Search_metresTo 21 = .ok (.ireturn, 1) := by decide +kernel
theorem d_Search_stairsTo_0 : decode b_Search_stairsTo 0 = .ok (.aload_n 0, 1) := by decide +kernel
theorem d_Search_stairsTo_1 : decode b_Search_stairsTo 1 = .ok (.iload_n 1, 1) := by decide +kernel
theorem d_Search_stairsTo_2 : decode b_Search_stairsTo 2 = .ok (.invokevirtual 74, 3) := by decide +kernel
theorem d_Search_stairsTo_5 : decode b_Search_stairsTo 5 = .ok (.ifCond .eq 15, 3) := by decide +kernel
theorem d_Search_stairsTo_8 : decode b_Search_stairsTo 8 = .ok (.aload_n 0, 1) := by decide +kernel
theorem d_Search_stairsTo_9 : decode b_Search_stairsTo 9 = .ok (.getfield 9, 3) := by decide +kernel
theorem d_Search_stairsTo_12 : decode b_Search_stairsTo 12 = .ok (.iload_n 1, 1) := by decide +kernel
theorem d_Search_stairsTo_13 : decode b_Search_stairsTo 13 = .ok (.iaload, 1) := by decide +kernel
theorem d_Search_stairsTo_14 : decode b_Search_stairsTo 14 = .ok (.bipush 64, 2) := by decide +kernel
theorem d_Search_stairsTo_16 : decode b_Search_stairsTo 16 = .ok (.irem, 1) := by decide +kernel
theorem d_Search_stairsTo_17 : decode b_Search_stairsTo 17 = .ok (.goto 4, 3) := by decide +kernel
theorem d_Search_stairsTo_20 : decode b_Search_stairsTo 20 = .ok (.iconst 0, 1) := by decide +kernel
theorem d_Search_stairsTo_21 : decode b_Search_stairsTo 21 = .ok (.ireturn, 1) := by decide +kernel
theorem d_Search_tellWayTo_0 : decode b_Search_tellWayTo 0 = .ok (.aload_n 2, 1) := by decide +kernel
theorem d_Search_tellWayTo_1 : decode b_Search_tellWayTo 1 = .ok (.iload_n 1, 1) := by decide +kernel
theorem d_Search_tellWayTo_2 : decode b_Search_tellWayTo 2 = .ok (.aload_n 0, 1) := by decide +kernel
theorem d_Search_tellWayTo_3 : decode b_Search_tellWayTo 3 = .ok (.iload_n 1, 1) := by decide +kernel
theorem d_Search_tellWayTo_4 : decode b_Search_tellWayTo 4 = .ok (.invokevirtual 89, 3) := by decide +kernel
theorem d_Search_tellWayTo_7 : decode b_Search_tellWayTo 7 = .ok (.invokevirtual 92, 3) := by decide +kernel
theorem d_Search_tellWayTo_10 : decode b_Search_tellWayTo 10 = .ok (.iload_n 1, 1) := by decide +kernel
theorem d_Search_tellWayTo_11 : decode b_Search_tellWayTo 11 = .ok (.istore_n 3, 1) := by decide +kernel
theorem d_Search_tellWayTo_12 : decode b_Search_tellWayTo 12 = .ok (.iconst 0, 1) := by decide +kernel
theorem d_Search_tellWayTo_13 : decode b_Search_tellWayTo 13 = .ok (.istore 4, 2) := by decide +kernel
theorem d_Search_tellWayTo_15 : decode b_Search_tellWayTo 15 = .ok (.iload 4, 2) := by decide +kernel
theorem d_Search_tellWayTo_17 : decode b_Search_tellWayTo 17 = .ok (.bipush 40, 2) := by decide +kernel
theorem d_Search_tellWayTo_19 : decode b_Search_tellWayTo 19 = .ok (.if_icmp .ge 48, 3) := by decide +kernel
theorem d_Search_tellWayTo_22 : decode b_Search_tellWayTo 22 = .ok (.aload_n 0, 1) := by decide +kernel
theorem d_Search_tellWayTo_23 : decode b_Search_tellWayTo 23 = .ok (.iload_n 3, 1) := by decide +kernel
theorem d_Search_tellWayTo_24 : decode b_Search_tellWayTo 24 = .ok (.invokevirtual 74, 3) := by decide +kernel
theorem d_Search_tellWayTo_27 : decode b_Search_tellWayTo 27 = .ok (.ifCond .eq 40, 3) := by decide +kernel
theorem d_Search_tellWayTo_30 : decode b_Search_tellWayTo 30 = .ok (.aload_n 0, 1) := by decide +kernel
theorem d_Search_tellWayTo_31 : decode b_Search_tellWayTo 31 = .ok (.iload_n 3, 1) := by decide +kernel
theorem d_Search_tellWayTo_32 : decode b_Search_tellWayTo 32 = .ok (.invokevirtual 98, 3) := by decide +kernel
theorem d_Search_tellWayTo_35 : decode b_Search_tellWayTo 35 = .ok (.istore 5, 2) := by decide +kernel
theorem d_Search_tellWayTo_37 : decode b_Search_tellWayTo 37 = .ok (.iload 5, 2) := by decide +kernel
theorem d_Search_tellWayTo_39 : decode b_Search_tellWayTo 39 = .ok (.iconst (-1), 1) := by decide +kernel
theorem d_Search_tellWayTo_40 : decode b_Search_tellWayTo 40 = .ok (.if_icmp .ne 4, 3) := by decide +kernel
theorem d_Search_tellWayTo_43 : decode b_Search_tellWayTo 43 = .ok (.return_, 1) := by decide +kernel
theorem d_Search_tellWayTo_44 : decode b_Search_tellWayTo 44 = .ok (.aload_n 2, 1) := by decide +kernel
theorem d_Search_tellWayTo_45 : decode b_Search_tellWayTo 45 = .ok (.iload 5, 2) := by decide +kernel
theorem d_Search_tellWayTo_47 : decode b_Search_tellWayTo 47 = .ok (.invokevirtual 101, 3) := by decide +kernel
theorem d_Search_tellWayTo_50 : decode b_Search_tellWayTo 50 = .ok (.aload_n 0, 1) := by decide +kernel
theorem d_Search_tellWayTo_51 : decode b_Search_tellWayTo 51 = .ok (.getfield 19, 3) := by decide +kernel
theorem d_Search_tellWayTo_54 : decode b_Search_tellWayTo 54 = .ok (.iload 5, 2) := by decide +kernel
theorem d_Search_tellWayTo_56 : decode b_Search_tellWayTo 56 = .ok (.iload_n 3, 1) := by decide +kernel
theorem d_Search_tellWayTo_57 : decode b_Search_tellWayTo 57 = .ok (.invokevirtual 104, 3) := by decide +kernel
theorem d_Search_tellWayTo_60 : decode b_Search_tellWayTo 60 = .ok (.istore_n 3, 1) := by decide +kernel
theorem d_Search_tellWayTo_61 : decode b_Search_tellWayTo 61 = .ok (.iinc 4 1, 3) := by decide +kernel
theorem d_Search_tellWayTo_64 : decode b_Search_tellWayTo 64 = .ok (.goto (-49), 3) := by decide +kernel
theorem d_Search_tellWayTo_67 : decode b_Search_tellWayTo 67 = .ok (.return_, 1) := by decide +kernel
theorem d_Search_lowestDoorInto_0 : decode b_Search_lowestDoorInto 0 = .ok (.aload_n 0, 1) := by decide +kernel
theorem d_Search_lowestDoorInto_1 : decode b_Search_lowestDoorInto 1 = .ok (.iload_n 1, 1) := by decide +kernel
theorem d_Search_lowestDoorInto_2 : decode b_Search_lowestDoorInto 2 = .ok (.invokevirtual 74, 3) := by decide +kernel
theorem d_Search_lowestDoorInto_5 : decode b_Search_lowestDoorInto 5 = .ok (.ifCond .ne 5, 3) := by decide +kernel
theorem d_Search_lowestDoorInto_8 : decode b_Search_lowestDoorInto 8 = .ok (.iconst (-1), 1) := by decide +kernel
theorem d_Search_lowestDoorInto_9 : decode b_Search_lowestDoorInto 9 = .ok (.ireturn, 1) := by decide +kernel
theorem d_Search_lowestDoorInto_10 : decode b_Search_lowestDoorInto 10 = .ok (.iconst 0, 1) := by decide +kernel
theorem d_Search_lowestDoorInto_11 : decode b_Search_lowestDoorInto 11 = .ok (.istore_n 2, 1) := by decide +kernel
theorem d_Search_lowestDoorInto_12 : decode b_Search_lowestDoorInto 12 = .ok (.iload_n 2, 1) := by decide +kernel
theorem d_Search_lowestDoorInto_13 : decode b_Search_lowestDoorInto 13 = .ok (.aload_n 0, 1) := by decide +kernel
theorem d_Search_lowestDoorInto_14 : decode b_Search_lowestDoorInto 14 = .ok (.getfield 19, 3) := by decide +kernel
theorem d_Search_lowestDoorInto_17 : decode b_Search_lowestDoorInto 17 = .ok (.getfield 51, 3) := by decide +kernel
theorem d_Search_lowestDoorInto_20 : decode b_Search_lowestDoorInto 20 = .ok (.if_icmp .ge 61, 3) := by decide +kernel
theorem d_Search_lowestDoorInto_23 : decode b_Search_lowestDoorInto 23 = .ok (.aload_n 0, 1) := by decide +kernel
theorem d_Search_lowestDoorInto_24 : decode b_Search_lowestDoorInto 24 = .ok (.getfield 19, 3) := by decide +kernel
theorem d_Search_lowestDoorInto_27 : decode b_Search_lowestDoorInto 27 = .ok (.iload_n 2, 1) := by decide +kernel
theorem d_Search_lowestDoorInto_28 : decode b_Search_lowestDoorInto 28 = .ok (.iload_n 1, 1) := by decide +kernel
theorem d_Search_lowestDoorInto_29 : decode b_Search_lowestDoorInto 29 = .ok (.invokevirtual 104, 3) := by decide +kernel
theorem d_Search_lowestDoorInto_32 : decode b_Search_lowestDoorInto 32 = .ok (.istore_n 3, 1) := by decide +kernel
theorem d_Search_lowestDoorInto_33 : decode b_Search_lowestDoorInto 33 = .ok (.aload_n 0, 1) := by decide +kernel
theorem d_Search_lowestDoorInto_34 : decode b_Search_lowestDoorInto 34 = .ok (.iload_n 2, 1) := by decide +kernel
theorem d_Search_lowestDoorInto_35 : decode b_Search_lowestDoorInto 35 = .ok (.invokevirtual 57, 3) := by decide +kernel
theorem d_Search_lowestDoorInto_38 : decode b_Search_lowestDoorInto 38 = .ok (.ifCond .eq 37, 3) := by decide +kernel
theorem d_Search_lowestDoorInto_41 : decode b_Search_lowestDoorInto 41 = .ok (.aload_n 0, 1) := by decide +kernel
theorem d_Search_lowestDoorInto_42 : decode b_Search_lowestDoorInto 42 = .ok (.iload_n 3, 1) := by decide +kernel
theorem d_Search_lowestDoorInto_43 : decode b_Search_lowestDoorInto 43 = .ok (.invokevirtual 74, 3) := by decide +kernel
theorem d_Search_lowestDoorInto_46 : decode b_Search_lowestDoorInto 46 = .ok (.ifCond .eq 29, 3) := by decide +kernel
theorem d_Search_lowestDoorInto_49 : decode b_Search_lowestDoorInto 49 = .ok (.aload_n 0, 1) := by decide +kernel
theorem d_Search_lowestDoorInto_50 : decode b_Search_lowestDoorInto 50 = .ok (.getfield 9, 3) := by decide +kernel
theorem d_Search_lowestDoorInto_53 : decode b_Search_lowestDoorInto 53 = .ok (.iload_n 3, 1) := by decide +kernel
theorem d_Search_lowestDoorInto_54 : decode b_Search_lowestDoorInto 54 = .ok (.iaload, 1) := by decide +kernel
theorem d_Search_lowestDoorInto_55 : decode b_Search_lowestDoorInto 55 = .ok (.aload_n 0, 1) := by decide +kernel
theorem d_Search_lowestDoorInto_56 : decode b_Search_lowestDoorInto 56 = .ok (.getfield 19, 3) := by decide +kernel
theorem d_Search_lowestDoorInto_59 : decode b_Search_lowestDoorInto 59 = .ok (.iload_n 2, 1) := by decide +kernel
theorem d_Search_lowestDoorInto_60 : decode b_Search_lowestDoorInto 60 = .ok (.invokevirtual 67, 3) := by decide +kernel
theorem d_Search_lowestDoorInto_63 : decode b_Search_lowestDoorInto 63 = .ok (.iadd, 1) := by decide +kernel
theorem d_Search_lowestDoorInto_64 : decode b_Search_lowestDoorInto 64 = .ok (.aload_n 0, 1) := by decide +kernel
theorem d_Search_lowestDoorInto_65 : decode b_Search_lowestDoorInto 65 = .ok (.getfield 9, 3) := by decide +kernel
theorem d_Search_lowestDoorInto_68 : decode b_Search_lowestDoorInto 68 = .ok (.iload_n 1, 1) := by decide +kernel
theorem d_Search_lowestDoorInto_69 : decode b_Search_lowestDoorInto 69 = .ok (.iaload, 1) := by decide +kernel
theorem d_Search_lowestDoorInto_70 : decode b_Search_lowestDoorInto 70 = .ok (.if_icmp .ne 5, 3) := by decide +kernel
theorem d_Search_lowestDoorInto_73 : decode b_Search_lowestDoorInto 73 = .ok (.iload_n 2, 1) := by decide +kernel
theorem d_Search_lowestDoorInto_74 : decode b_Search_lowestDoorInto 74 = .ok (.ireturn, 1) := by decide +kernel
theorem d_Search_lowestDoorInto_75 : decode b_Search_lowestDoorInto 75 = .ok (.iinc 2 1, 3) := by decide +kernel
theorem d_Search_lowestDoorInto_78 : decode b_Search_lowestDoorInto 78 = .ok (.goto (-66), 3) := by decide +kernel
theorem d_Search_lowestDoorInto_81 : decode b_Search_lowestDoorInto 81 = .ok (.iconst (-1), 1) := by decide +kernel
theorem d_Search_lowestDoorInto_82 : decode b_Search_lowestDoorInto 82 = .ok (.ireturn, 1) := by decide +kernel
theorem d_Search_unreachedAt_0 : decode b_Search_unreachedAt 0 = .ok (.iload_n 1, 1) := by decide +kernel
theorem d_Search_unreachedAt_1 : decode b_Search_unreachedAt 1 = .ok (.istore_n 2, 1) := by decide +kernel
theorem d_Search_unreachedAt_2 : decode b_Search_unreachedAt 2 = .ok (.iconst 0, 1) := by decide +kernel
theorem d_Search_unreachedAt_3 : decode b_Search_unreachedAt 3 = .ok (.istore_n 3, 1) := by decide +kernel
theorem d_Search_unreachedAt_4 : decode b_Search_unreachedAt 4 = .ok (.iload_n 3, 1) := by decide +kernel
theorem d_Search_unreachedAt_5 : decode b_Search_unreachedAt 5 = .ok (.aload_n 0, 1) := by decide +kernel
theorem d_Search_unreachedAt_6 : decode b_Search_unreachedAt 6 = .ok (.getfield 15, 3) := by decide +kernel
theorem d_Search_unreachedAt_9 : decode b_Search_unreachedAt 9 = .ok (.getfield 88, 3) := by decide +kernel
theorem d_Search_unreachedAt_12 : decode b_Search_unreachedAt 12 = .ok (.if_icmp .ge 26, 3) := by decide +kernel
theorem d_Search_unreachedAt_15 : decode b_Search_unreachedAt 15 = .ok (.aload_n 0, 1) := by decide +kernel
theorem d_Search_unreachedAt_16 : decode b_Search_unreachedAt 16 = .ok (.iload_n 3, 1) := by decide +kernel
theorem d_Search_unreachedAt_17 : decode b_Search_unreachedAt 17 = .ok (.invokevirtual 74, 3) := by decide +kernel
theorem d_Search_unreachedAt_20 : decode b_Search_unreachedAt 20 = .ok (.ifCond .ne 12, 3) := by decide +kernel
theorem d_Search_unreachedAt_23 : decode b_Search_unreachedAt 23 = .ok (.iload_n 2, 1) := by decide +kernel
theorem d_Search_unreachedAt_24 : decode b_Search_unreachedAt 24 = .ok (.ifCond .ne 5, 3) := by decide +kernel
theorem d_Search_unreachedAt_27 : decode b_Search_unreachedAt 27 = .ok (.iload_n 3, 1) := by decide +kernel
theorem d_Search_unreachedAt_28 : decode b_Search_unreachedAt 28 = .ok (.ireturn, 1) := by decide +kernel
theorem d_Search_unreachedAt_29 : decode b_Search_unreachedAt 29 = .ok (.iinc 2 (-1), 3) := by decide +kernel
theorem d_Search_unreachedAt_32 : decode b_Search_unreachedAt 32 = .ok (.iinc 3 1, 3) := by decide +kernel
theorem d_Search_unreachedAt_35 : decode b_Search_unreachedAt 35 = .ok (.goto (-31), 3) := by decide +kernel
theorem d_Search_unreachedAt_38 : decode b_Search_unreachedAt 38 = .ok (.iconst (-1), 1) := by decide +kernel
theorem d_Search_unreachedAt_39 : decode b_Search_unreachedAt 39 = .ok (.ireturn, 1) := by decide +kernel
theorem d_Win_init_0 : decode b_Win_init 0 = .ok (.aload_n 0, 1) := by decide +kernel
theorem d_Win_init_1 : decode b_Win_init 1 = .ok (.invokespecial 3, 3) := by decide +kernel
theorem d_Win_init_4 : decode b_Win_init 4 = .ok (.aload_n 0, 1) := by decide +kernel
theorem d_Win_init_5 : decode b_Win_init 5 = .ok (.bipush 30, 2) := by decide +kernel
theorem d_Win_init_7 : decode b_Win_init 7 = .ok (.newarray .int, 2) := by decide +kernel
theorem d_Win_init_9 : decode b_Win_init 9 = .ok (.putfield 9, 3) := by decide +kernel
theorem d_Win_init_12 : decode b_Win_init 12 = .ok (.aload_n 0, 1) := by decide +kernel
theorem d_Win_init_13 : decode b_Win_init 13 = .ok (.bipush 30, 2) := by decide +kernel
theorem d_Win_init_15 : decode b_Win_init 15 = .ok (.newarray .int, 2) := by decide +kernel
theorem d_Win_init_17 : decode b_Win_init 17 = .ok (.putfield 15, 3) := by decide +kernel
theorem d_Win_init_20 : decode b_Win_init 20 = .ok (.aload_n 0, 1) := by decide +kernel
theorem d_Win_init_21 : decode b_Win_init 21 = .ok (.bipush 30, 2) := by decide +kernel
theorem d_Win_init_23 : decode b_Win_init 23 = .ok (.newarray .int, 2) := by decide +kernel
theorem d_Win_init_25 : decode b_Win_init 25 = .ok (.putfield 18, 3) := by decide +kernel
theorem d_Win_init_28 : decode b_Win_init 28 = .ok (.return_, 1) := by decide +kernel
theorem d_Win_add_0 : decode b_Win_add 0 = .ok (.aload_n 0, 1) := by decide +kernel
theorem d_Win_add_1 : decode b_Win_add 1 = .ok (.getfield 21, 3) := by decide +kernel
theorem d_Win_add_4 : decode b_Win_add 4 = .ok (.bipush 30, 2) := by decide +kernel
theorem d_Win_add_6 : decode b_Win_add 6 = .ok (.if_icmp .lt 5, 3) := by decide +kernel
theorem d_Win_add_9 : decode b_Win_add 9 = .ok (.iconst (-1), 1) := by decide +kernel
theorem d_Win_add_10 : decode b_Win_add 10 = .ok (.ireturn, 1) := by decide +kernel
theorem d_Win_add_11 : decode b_Win_add 11 = .ok (.aload_n 0, 1) := by decide +kernel
theorem d_Win_add_12 : decode b_Win_add 12 = .ok (.getfield 9, 3) := by decide +kernel
theorem d_Win_add_15 : decode b_Win_add 15 = .ok (.aload_n 0, 1) := by decide +kernel
theorem d_Win_add_16 : decode b_Win_add 16 = .ok (.getfield 21, 3) := by decide +kernel
theorem d_Win_add_19 : decode b_Win_add 19 = .ok (.iload_n 1, 1) := by decide +kernel
theorem d_Win_add_20 : decode b_Win_add 20 = .ok (.iastore, 1) := by decide +kernel
theorem d_Win_add_21 : decode b_Win_add 21 = .ok (.aload_n 0, 1) := by decide +kernel
theorem d_Win_add_22 : decode b_Win_add 22 = .ok (.getfield 15, 3) := by decide +kernel
theorem d_Win_add_25 : decode b_Win_add 25 = .ok (.aload_n 0, 1) := by decide +kernel
theorem d_Win_add_26 : decode b_Win_add 26 = .ok (.getfield 21, 3) := by decide +kernel
theorem d_Win_add_29 : decode b_Win_add 29 = .ok (.iload_n 2, 1) := by decide +kernel
theorem d_Win_add_30 : decode b_Win_add 30 = .ok (.iastore, 1) := by decide +kernel
theorem d_Win_add_31 : decode b_Win_add 31 = .ok (.aload_n 0, 1) := by decide +kernel
theorem d_Win_add_32 : decode b_Win_add 32 = .ok (.getfield 18, 3) := by decide +kernel
theorem d_Win_add_35 : decode b_Win_add 35 = .ok (.aload_n 0, 1) := by decide +kernel
theorem d_Win_add_36 : decode b_Win_add 36 = .ok (.getfield 21, 3) := by decide +kernel
theorem d_Win_add_39 : decode b_Win_add 39 = .ok (.iload_n 3, 1) := by decide +kernel
theorem d_Win_add_40 : decode b_Win_add 40 = .ok (.iastore, 1) := by decide +kernel
theorem d_Win_add_41 : decode b_Win_add 41 = .ok (.aload_n 0, 1) := by decide +kernel
theorem d_Win_add_42 : decode b_Win_add 42 = .ok (.dup, 1) := by decide +kernel
theorem d_Win_add_43 : decode b_Win_add 43 = .ok (.getfield 21, 3) := by decide +kernel
theorem d_Win_add_46 : decode b_Win_add 46 = .ok (.iconst 1, 1) := by decide +kernel
theorem d_Win_add_47 : decode b_Win_add 47 = .ok (.iadd, 1) := by decide +kernel
theorem d_Win_add_48 : decode b_Win_add 48 = .ok (.putfield 21, 3) := by decide +kernel
theorem d_Win_add_51 : decode b_Win_add 51 = .ok (.aload_n 0, 1) := by decide +kernel
theorem d_Win_add_52 : decode b_Win_add 52 = .ok (.getfield 21, 3) := by decide +kernel
theorem d_Win_add_55 : decode b_Win_add 55 = .ok (.iconst 1, 1) := by decide +kernel
theorem d_Win_add_56 : decode b_Win_add 56 = .ok (.isub, 1) := by decide +kernel
theorem d_Win_add_57 : decode b_Win_add 57 = .ok (.ireturn, 1) := by decide +kernel
theorem d_Win_has_0 : decode b_Win_has 0 = .ok (.iload_n 1, 1) := by decide +kernel
theorem d_Win_has_1 : decode b_Win_has 1 = .ok (.ifCond .lt 15, 3) := by decide +kernel
theorem d_Win_has_4 : decode b_Win_has 4 = .ok (.iload_n 1, 1) := by decide +kernel
theorem d_Win_has_5 : decode b_Win_has 5 = .ok (.aload_n 0, 1) := by decide +kernel
theorem d_Win_has_6 : decode b_Win_has 6 = .ok (.getfield 21, 3) := by decide +kernel
theorem d_Win_has_9 : decode b_Win_has 9 = .ok (.if_icmp .ge 7, 3) := by decide +kernel
theorem d_Win_has_12 : decode b_Win_has 12 = .ok (.iconst 1, 1) := by decide +kernel
theorem d_Win_has_13 : decode b_Win_has 13 = .ok (.goto 4, 3) := by decide +kernel
theorem d_Win_has_16 : decode b_Win_has 16 = .ok (.iconst 0, 1) := by decide +kernel
theorem d_Win_has_17 : decode b_Win_has 17 = .ok (.ireturn, 1) := by decide +kernel
theorem d_Win_isReached_0 : decode b_Win_isReached 0 = .ok (.aload_n 0, 1) := by decide +kernel
theorem d_Win_isReached_1 : decode b_Win_isReached 1 = .ok (.iload_n 1, 1) := by decide +kernel
theorem d_Win_isReached_2 : decode b_Win_isReached 2 = .ok (.invokevirtual 25, 3) := by decide +kernel
theorem d_Win_isReached_5 : decode b_Win_isReached 5 = .ok (.ifCond .eq 14, 3) := by decide +kernel
theorem d_Win_isReached_8 : decode b_Win_isReached 8 = .ok (.aload_n 0, 1) := by decide +kernel
theorem d_Win_isReached_9 : decode b_Win_isReached 9 = .ok (.getfield 18, 3) := by decide +kernel
theorem d_Win_isReached_12 : decode b_Win_isReached 12 = .ok (.iload_n 1, 1) := by decide +kernel
theorem d_Win_isReached_13 : decode b_Win_isReached 13 = .ok (.iaload, 1) := by decide +kernel
theorem d_Win_isReached_14 : decode b_Win_isReached 14 = .ok (.iload 4, 2) := by decide +kernel
theorem d_Win_isReached_16 : decode b_Win_isReached 16 = .ok (.if_icmp .ge 5, 3) := by decide +kernel
theorem d_Win_isReached_19 : decode b_Win_isReached 19 = .ok (.iconst 0, 1) := by decide +kernel
theorem d_Win_isReached_20 : decode b_Win_isReached 20 = .ok (.ireturn, 1) := by decide +kernel
theorem d_Win_isReached_21 : decode b_Win_isReached 21 = .ok (.aload_n 0, 1) := by decide +kernel
theorem d_Win_isReached_22 : decode b_Win_isReached 22 = .ok (.getfield 9, 3) := by decide +kernel
theorem d_Win_isReached_25 : decode b_Win_isReached 25 = .ok (.iload_n 1, 1) := by decide +kernel
theorem d_Win_isReached_26 : decode b_Win_isReached 26 = .ok (.iaload, 1) := by decide +kernel
theorem d_Win_isReached_27 : decode b_Win_isReached 27 = .ok (.iload_n 2, 1) := by decide +kernel
theorem d_Win_isReached_28 : decode b_Win_isReached 28 = .ok (.isub, 1) := by decide +kernel
theorem d_Win_isReached_29 : decode b_Win_isReached 29 = .ok (.i2l, 1) := by decide +kernel
theorem d_Win_isReached_30 : decode b_Win_isReached 30 = .ok (.lstore 6, 2) := by decide +kernel
theorem d_Win_isReached_32 : decode b_Win_isReached 32 = .ok (.aload_n 0, 1) := by decide +kernel
theorem d_Win_isReached_33 : decode b_Win_isReached 33 = .ok (.getfield 15, 3) := by decide +kernel
theorem d_Win_isReached_36 : decode b_Win_isReached 36 = .ok (.iload_n 1, 1) := by decide +kernel
theorem d_Win_isReached_37 : decode b_Win_isReached 37 = .ok (.iaload, 1) := by decide +kernel
theorem d_Win_isReached_38 : decode b_Win_isReached 38 = .ok (.iload_n 3, 1) := by decide +kernel
theorem d_Win_isReached_39 : decode b_Win_isReached 39 = .ok (.isub, 1) := by decide +kernel
theorem d_Win_isReached_40 : decode b_Win_isReached 40 = .ok (.i2l, 1) := by decide +kernel
theorem d_Win_isReached_41 : decode b_Win_isReached 41 = .ok (.lstore 8, 2) := by decide +kernel
theorem d_Win_isReached_43 : decode b_Win_isReached 43 = .ok (.aload_n 0, 1) := by decide +kernel
theorem d_Win_isReached_44 : decode b_Win_isReached 44 = .ok (.getfield 18, 3) := by decide +kernel
theorem d_Win_isReached_47 : decode b_Win_isReached 47 = .ok (.iload_n 1, 1) := by decide +kernel
theorem d_Win_isReached_48 : decode b_Win_isReached 48 = .ok (.iaload, 1) := by decide +kernel
theorem d_Win_isReached_49 : decode b_Win_isReached 49 = .ok (.iload 4, 2) := by decide +kernel
theorem d_Win_isReached_51 : decode b_Win_isReached 51 = .ok (.isub, 1) := by decide +kernel
theorem d_Win_isReached_52 : decode b_Win_isReached 52 = .ok (.i2l, 1) := by decide +kernel
theorem d_Win_isReached_53 : decode b_Win_isReached 53 = .ok (.lstore 10, 2) := by decide +kernel
theorem d_Win_isReached_55 : decode b_Win_isReached 55 = .ok (.lload 6, 2) := by decide +kernel
theorem d_Win_isReached_57 : decode b_Win_isReached 57 = .ok (.lload 6, 2) := by decide +kernel
theorem d_Win_isReached_59 : decode b_Win_isReached 59 = .ok (.lmul, 1) := by decide +kernel
theorem d_Win_isReached_60 : decode b_Win_isReached 60 = .ok (.lload 8, 2) := by decide +kernel
theorem d_Win_isReached_62 : decode b_Win_isReached 62 = .ok (.lload 8, 2) := by decide +kernel
theorem d_Win_isReached_64 : decode b_Win_isReached 64 = .ok (.lmul, 1) := by decide +kernel
theorem d_Win_isReached_65 : decode b_Win_isReached 65 = .ok (.ladd, 1) := by decide +kernel
theorem d_Win_isReached_66 : decode b_Win_isReached 66 = .ok (.lload 10, 2) := by decide +kernel
theorem d_Win_isReached_68 : decode b_Win_isReached 68 = .ok (.lload 10, 2) := by decide +kernel
theorem d_Win_isReached_70 : decode b_Win_isReached 70 = .ok (.lmul, 1) := by decide +kernel
theorem d_Win_isReached_71 : decode b_Win_isReached 71 = .ok (.ladd, 1) := by decide +kernel
theorem d_Win_isReached_72 : decode b_Win_isReached 72 = .ok (.iload 5, 2) := by decide +kernel
theorem d_Win_isReached_74 : decode b_Win_isReached 74 = .ok (.i2l, 1) := by decide +kernel
theorem d_Win_isReached_75 : decode b_Win_isReached 75 = .ok (.iload 5, 2) := by decide +kernel
theorem d_Win_isReached_77 : decode b_Win_isReached 77 = .ok (.i2l, 1) := by decide +kernel
theorem d_Win_isReached_78 : decode b_Win_isReached 78 = .ok (.lmul, 1) := by decide +kernel
theorem d_Win_isReached_79 : decode b_Win_isReached 79 = .ok (.lcmp, 1) := by decide +kernel
theorem d_Win_isReached_80 : decode b_Win_isReached 80 = .ok (.ifCond .gt 7, 3) := by decide +kernel
theorem d_Win_isReached_83 : decode b_Win_isReached 83 = .ok (.iconst 1, 1) := by decide +kernel
theorem d_Win_isReached_84 : decode b_Win_isReached 84 = .ok (.goto 4, 3) := by decide +kernel
theorem d_Win_isReached_87 : decode b_Win_isReached 87 = .ok (.iconst 0, 1) := by decide +kernel
theorem d_Win_isReached_88 : decode b_Win_isReached 88 = .ok (.ireturn, 1) := by decide +kernel
theorem d_Win_leastLength_0 : decode b_Win_leastLength 0 = .ok (.aload_n 0, 1) := by decide +kernel
theorem d_Win_leastLength_1 : decode b_Win_leastLength 1 = .ok (.iload_n 1, 1) := by decide +kernel
theorem d_Win_leastLength_2 : decode b_Win_leastLength 2 = .ok (.iload_n 2, 1) := by decide +kernel
theorem d_Win_leastLength_3 : decode b_Win_leastLength 3 = .ok (.iload_n 3, 1) := by decide +kernel
theorem d_Win_leastLength_4 : decode b_Win_leastLength 4 = .ok (.iload 4, 2) := by decide +kernel
theorem d_Win_leastLength_6 : decode b_Win_leastLength 6 = .ok (.ldc 29, 2) := by decide +kernel
theorem d_Win_leastLength_8 : decode b_Win_leastLength 8 = .ok (.invokevirtual 30, 3) := by decide +kernel
theorem d_Win_leastLength_11 : decode b_Win_leastLength 11 = .ok (.ifCond .ne 5, 3) := by decide +kernel
theorem d_Win_leastLength_14 : decode b_Win_leastLength 14 = .ok (.iconst (-1), 1) := by decide +kernel
theorem d_Win_leastLength_15 : decode b_Win_leastLength 15 = .ok (.ireturn, 1) := by decide +kernel
theorem d_Win_leastLength_16 : decode b_Win_leastLength 16 = .ok (.iconst 0, 1) := by decide +kernel
theorem d_Win_leastLength_17 : decode b_Win_leastLength 17 = .ok (.istore 5, 2) := by decide +kernel
theorem d_Win_leastLength_19 : decode b_Win_leastLength 19 = .ok (.ldc 34, 2) := by decide +kernel
theorem d_Win_leastLength_21 : decode b_Win_leastLength 21 = .ok (.istore 6, 2) := by decide +kernel
theorem d_Win_leastLength_23 : decode b_Win_leastLength 23 = .ok (.iload 6, 2) := by decide +kernel
theorem d_Win_leastLength_25 : decode b_Win_leastLength 25 = .ok (.ifCond .le 36, 3) := by decide +kernel
theorem d_Win_leastLength_28 : decode b_Win_leastLength 28 = .ok (.aload_n 0, 1) := by decide +kernel
theorem d_Win_leastLength_29 : decode b_Win_leastLength 29 = .ok (.iload_n 1, 1) := by decide +kernel
theorem d_Win_leastLength_30 : decode b_Win_leastLength 30 = .ok (.iload_n 2, 1) := by decide +kernel
theorem d_Win_leastLength_31 : decode b_Win_leastLength 31 = .ok (.iload_n 3, 1) := by decide +kernel
theorem d_Win_leastLength_32 : decode b_Win_leastLength 32 = .ok (.iload 4, 2) := by decide +kernel
theorem d_Win_leastLength_34 : decode b_Win_leastLength 34 = .ok (.iload 5, 2) := by decide +kernel
theorem d_Win_leastLength_36 : decode b_Win_leastLength 36 = .ok (.iload 6, 2) := by decide +kernel
theorem d_Win_leastLength_38 : decode b_Win_leastLength 38 = .ok (.iadd, 1) := by decide +kernel
theorem d_Win_leastLength_39 : decode b_Win_leastLength 39 = .ok (.invokevirtual 30, 3) := by decide +kernel
theorem d_Win_leastLength_42 : decode b_Win_leastLength 42 = .ok (.ifCond .ne 10, 3) := by decide +kernel
theorem d_Win_leastLength_45 : decode b_Win_leastLength 45 = .ok (.iload 5, 2) := by decide +kernel
theorem d_Win_leastLength_47 : decode b_Win_leastLength 47 = .ok (.iload 6, 2) := by decide +kernel
theorem d_Win_leastLength_49 : decode b_Win_leastLength 49 = .ok (.iadd, 1) := by decide +kernel
theorem d_Win_leastLength_50 : decode b_Win_leastLength 50 = .ok (.istore 5, 2) := by decide +kernel
theorem d_Win_leastLength_52 : decode b_Win_leastLength 52 = .ok (.iload 6, 2) := by decide +kernel
theorem d_Win_leastLength_54 : decode b_Win_leastLength 54 = .ok (.iconst 1, 1) := by decide +kernel
theorem d_Win_leastLength_55 : decode b_Win_leastLength 55 = .ok (.ishr, 1) := by decide +kernel
theorem d_Win_leastLength_56 : decode b_Win_leastLength 56 = .ok (.istore 6, 2) := by decide +kernel
theorem d_Win_leastLength_58 : decode b_Win_leastLength 58 = .ok (.goto (-35), 3) := by decide +kernel
theorem d_Win_leastLength_61 : decode b_Win_leastLength 61 = .ok (.iload 5, 2) := by decide +kernel
theorem d_Win_leastLength_63 : decode b_Win_leastLength 63 = .ok (.iconst 1, 1) := by decide +kernel
theorem d_Win_leastLength_64 : decode b_Win_leastLength 64 = .ok (.iadd, 1) := by decide +kernel
theorem d_Win_leastLength_65 : decode b_Win_leastLength 65 = .ok (.ireturn, 1) := by decide +kernel
theorem d_Arr_fill_0 : decode b_Arr_fill 0 = .ok (.iconst 0, 1) := by decide +kernel
theorem d_Arr_fill_1 : decode b_Arr_fill 1 = .ok (.istore_n 2, 1) := by decide +kernel
theorem d_Arr_fill_2 : decode b_Arr_fill 2 = .ok (.aload_n 0, 1) := by decide +kernel
theorem d_Arr_fill_3 : decode b_Arr_fill 3 = .ok (.arraylength, 1) := by decide +kernel
theorem d_Arr_fill_4 : decode b_Arr_fill 4 = .ok (.istore_n 3, 1) := by decide +kernel
theorem d_Arr_fill_5 : decode b_Arr_fill 5 = .ok (.iload_n 2, 1) := by decide +kernel
theorem d_Arr_fill_6 : decode b_Arr_fill 6 = .ok (.iload_n 3, 1) := by decide +kernel
theorem d_Arr_fill_7 : decode b_Arr_fill 7 = .ok (.if_icmp .ge 13, 3) := by decide +kernel
theorem d_Arr_fill_10 : decode b_Arr_fill 10 = .ok (.aload_n 0, 1) := by decide +kernel
theorem d_Arr_fill_11 : decode b_Arr_fill 11 = .ok (.iload_n 2, 1) := by decide +kernel
theorem d_Arr_fill_12 : decode b_Arr_fill 12 = .ok (.iload_n 1, 1) := by decide +kernel
theorem d_Arr_fill_13 : decode b_Arr_fill 13 = .ok (.iastore, 1) := by decide +kernel
theorem d_Arr_fill_14 : decode b_Arr_fill 14 = .ok (.iinc 2 1, 3) := by decide +kernel
theorem d_Arr_fill_17 : decode b_Arr_fill 17 = .ok (.goto (-12), 3) := by decide +kernel
theorem d_Arr_fill_20 : decode b_Arr_fill 20 = .ok (.return_, 1) := by decide +kernel
