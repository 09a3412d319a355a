theorem d_Mod_init_0 : decode b_Mod_init 0 = .ok (.aload_n 0, 1) := by decide +kernel
theorem d_Mod_init_1 : decode b_Mod_init 1 = .ok (.invokespecial 1, 3) := by decide +kernel
theorem d_Mod_init_4 : decode b_Mod_init 4 = .ok (.aload_n 0, 1) := by decide +kernel
theorem d_Mod_init_5 : decode b_Mod_init 5 = .ok (.bipush 40, 2) := by decide +kernel
theorem d_Mod_init_7 : decode b_Mod_init 7 = .ok (.newarray .int, 2) := by decide +kernel
theorem d_Mod_init_9 : decode b_Mod_init 9 = .ok (.putfield 7, 3) := by decide +kernel
theorem d_Mod_init_12 : decode b_Mod_init 12 = .ok (.aload_n 0, 1) := by decide +kernel
theorem d_Mod_init_13 : decode b_Mod_init 13 = .ok (.bipush 40, 2) := by decide +kernel
theorem d_Mod_init_15 : decode b_Mod_init 15 = .ok (.newarray .int, 2) := by decide +kernel
theorem d_Mod_init_17 : decode b_Mod_init 17 = .ok (.putfield 13, 3) := by decide +kernel
theorem d_Mod_init_20 : decode b_Mod_init 20 = .ok (.aload_n 0, 1) := by decide +kernel
theorem d_Mod_init_21 : decode b_Mod_init 21 = .ok (.bipush 40, 2) := by decide +kernel
theorem d_Mod_init_23 : decode b_Mod_init 23 = .ok (.newarray .int, 2) := by decide +kernel
theorem d_Mod_init_25 : decode b_Mod_init 25 = .ok (.putfield 16, 3) := by decide +kernel
theorem d_Mod_init_28 : decode b_Mod_init 28 = .ok (.aload_n 0, 1) := by decide +kernel
theorem d_Mod_init_29 : decode b_Mod_init 29 = .ok (.bipush 80, 2) := by decide +kernel
theorem d_Mod_init_31 : decode b_Mod_init 31 = .ok (.newarray .int, 2) := by decide +kernel
theorem d_Mod_init_33 : decode b_Mod_init 33 = .ok (.putfield 19, 3) := by decide +kernel
theorem d_Mod_init_36 : decode b_Mod_init 36 = .ok (.aload_n 0, 1) := by decide +kernel
theorem d_Mod_init_37 : decode b_Mod_init 37 = .ok (.bipush 80, 2) := by decide +kernel
theorem d_Mod_init_39 : decode b_Mod_init 39 = .ok (.newarray .int, 2) := by decide +kernel
theorem d_Mod_init_41 : decode b_Mod_init 41 = .ok (.putfield 22, 3) := by decide +kernel
theorem d_Mod_init_44 : decode b_Mod_init 44 = .ok (.aload_n 0, 1) := by decide +kernel
theorem d_Mod_init_45 : decode b_Mod_init 45 = .ok (.bipush 80, 2) := by decide +kernel
theorem d_Mod_init_47 : decode b_Mod_init 47 = .ok (.newarray .int, 2) := by decide +kernel
theorem d_Mod_init_49 : decode b_Mod_init 49 = .ok (.putfield 25, 3) := by decide +kernel
theorem d_Mod_init_52 : decode b_Mod_init 52 = .ok (.aload_n 0, 1) := by decide +kernel
theorem d_Mod_init_53 : decode b_Mod_init 53 = .ok (.bipush 80, 2) := by decide +kernel
theorem d_Mod_init_55 : decode b_Mod_init 55 = .ok (.newarray .int, 2) := by decide +kernel
theorem d_Mod_init_57 : decode b_Mod_init 57 = .ok (.putfield 28, 3) := by decide +kernel
theorem d_Mod_init_60 : decode b_Mod_init 60 = .ok (.aload_n 0, 1) := by decide +kernel
theorem d_Mod_init_61 : decode b_Mod_init 61 = .ok (.bipush 31, 2) := by decide +kernel
theorem d_Mod_init_63 : decode b_Mod_init 63 = .ok (.newarray .boolean, 2) := by decide +kernel
theorem d_Mod_init_65 : decode b_Mod_init 65 = .ok (.putfield 31, 3) := by decide +kernel
theorem d_Mod_init_68 : decode b_Mod_init 68 = .ok (.aload_n 0, 1) := by decide +kernel
theorem d_Mod_init_69 : decode b_Mod_init 69 = .ok (.bipush 40, 2) := by decide +kernel
theorem d_Mod_init_71 : decode b_Mod_init 71 = .ok (.newarray .int, 2) := by decide +kernel
theorem d_Mod_init_73 : decode b_Mod_init 73 = .ok (.putfield 35, 3) := by decide +kernel
theorem d_Mod_init_76 : decode b_Mod_init 76 = .ok (.aload_n 0, 1) := by decide +kernel
theorem d_Mod_init_77 : decode b_Mod_init 77 = .ok (.bipush 40, 2) := by decide +kernel
theorem d_Mod_init_79 : decode b_Mod_init 79 = .ok (.newarray .int, 2) := by decide +kernel
theorem d_Mod_init_81 : decode b_Mod_init 81 = .ok (.putfield 38, 3) := by decide +kernel
theorem d_Mod_init_84 : decode b_Mod_init 84 = .ok (.aload_n 0, 1) := by decide +kernel
theorem d_Mod_init_85 : decode b_Mod_init 85 = .ok (.iconst (-1), 1) := by decide +kernel
theorem d_Mod_init_86 : decode b_Mod_init 86 = .ok (.putfield 41, 3) := by decide +kernel
theorem d_Mod_init_89 : decode b_Mod_init 89 = .ok (.aload_n 0, 1) := by decide +kernel
theorem d_Mod_init_90 : decode b_Mod_init 90 = .ok (.bipush 100, 2) := by decide +kernel
theorem d_Mod_init_92 : decode b_Mod_init 92 = .ok (.newarray .int, 2) := by decide +kernel
theorem d_Mod_init_94 : decode b_Mod_init 94 = .ok (.putfield 45, 3) := by decide +kernel
theorem d_Mod_init_97 : decode b_Mod_init 97 = .ok (.aload_n 0, 1) := by decide +kernel
theorem d_Mod_init_98 : decode b_Mod_init 98 = .ok (.bipush 100, 2) := by decide +kernel
theorem d_Mod_init_100 : decode b_Mod_init 100 = .ok (.newarray .int, 2) := by decide +kernel
theorem d_Mod_init_102 : decode b_Mod_init 102 = .ok (.putfield 48, 3) := by decide +kernel
theorem d_Mod_init_105 : decode b_Mod_init 105 = .ok (.aload_n 0, 1) := by decide +kernel
theorem d_Mod_init_106 : decode b_Mod_init 106 = .ok (.bipush 100, 2) := by decide +kernel
theorem d_Mod_init_108 : decode b_Mod_init 108 = .ok (.newarray .int, 2) := by decide +kernel
theorem d_Mod_init_110 : decode b_Mod_init 110 = .ok (.putfield 51, 3) := by decide +kernel
theorem d_Mod_init_113 : decode b_Mod_init 113 = .ok (.aload_n 0, 1) := by decide +kernel
theorem d_Mod_init_114 : decode b_Mod_init 114 = .ok (.bipush 60, 2) := by decide +kernel
theorem d_Mod_init_116 : decode b_Mod_init 116 = .ok (.newarray .int, 2) := by decide +kernel
theorem d_Mod_init_118 : decode b_Mod_init 118 = .ok (.putfield 54, 3) := by decide +kernel
theorem d_Mod_init_121 : decode b_Mod_init 121 = .ok (.aload_n 0, 1) := by decide +kernel
theorem d_Mod_init_122 : decode b_Mod_init 122 = .ok (.bipush 60, 2) := by decide +kernel
theorem d_Mod_init_124 : decode b_Mod_init 124 = .ok (.newarray .int, 2) := by decide +kernel
theorem d_Mod_init_126 : decode b_Mod_init 126 = .ok (.putfield 57, 3) := by decide +kernel
theorem d_Mod_init_129 : decode b_Mod_init 129 = .ok (.aload_n 0, 1) := by decide +kernel
theorem d_Mod_init_130 : decode b_Mod_init 130 = .ok (.bipush 60, 2) := by decide +kernel
theorem d_Mod_init_132 : decode b_Mod_init 132 = .ok (.newarray .int, 2) := by decide +kernel
theorem d_Mod_init_134 : decode b_Mod_init 134 = .ok (.putfield 60, 3) := by decide +kernel
theorem d_Mod_init_137 : decode b_Mod_init 137 = .ok (.aload_n 0, 1) := by decide +kernel
theorem d_Mod_init_138 : decode b_Mod_init 138 = .ok (.bipush 60, 2) := by decide +kernel
theorem d_Mod_init_140 : decode b_Mod_init 140 = .ok (.newarray .int, 2) := by decide +kernel
theorem d_Mod_init_142 : decode b_Mod_init 142 = .ok (.putfield 63, 3) := by decide +kernel
theorem d_Mod_init_145 : decode b_Mod_init 145 = .ok (.aload_n 0, 1) := by decide +kernel
theorem d_Mod_init_146 : decode b_Mod_init 146 = .ok (.bipush 30, 2) := by decide +kernel
theorem d_Mod_init_148 : decode b_Mod_init 148 = .ok (.newarray .int, 2) := by decide +kernel
theorem d_Mod_init_150 : decode b_Mod_init 150 = .ok (.putfield 66, 3) := by decide +kernel
theorem d_Mod_init_153 : decode b_Mod_init 153 = .ok (.aload_n 0, 1) := by decide +kernel
theorem d_Mod_init_154 : decode b_Mod_init 154 = .ok (.bipush 30, 2) := by decide +kernel
theorem d_Mod_init_156 : decode b_Mod_init 156 = .ok (.newarray .int, 2) := by decide +kernel
theorem d_Mod_init_158 : decode b_Mod_init 158 = .ok (.putfield 69, 3) := by decide +kernel
theorem d_Mod_init_161 : decode b_Mod_init 161 = .ok (.aload_n 0, 1) := by decide +kernel
theorem d_Mod_init_162 : decode b_Mod_init 162 = .ok (.bipush 30, 2) := by decide +kernel
theorem d_Mod_init_164 : decode b_Mod_init 164 = .ok (.newarray .int, 2) := by decide +kernel
theorem d_Mod_init_166 : decode b_Mod_init 166 = .ok (.putfield 72, 3) := by decide +kernel
theorem d_Mod_init_169 : decode b_Mod_init 169 = .ok (.aload_n 0, 1) := by decide +kernel
theorem d_Mod_init_170 : decode b_Mod_init 170 = .ok (.sipush 365, 3) := by decide +kernel
theorem d_Mod_init_173 : decode b_Mod_init 173 = .ok (.putfield 75, 3) := by decide +kernel
theorem d_Mod_init_176 : decode b_Mod_init 176 = .ok (.return_, 1) := by decide +kernel
theorem d_Mod_thrown_0 : decode b_Mod_thrown 0 = .ok (.aload_n 0, 1) := by decide +kernel
theorem d_Mod_thrown_1 : decode b_Mod_thrown 1 = .ok (.getfield 78, 3) := by decide +kernel
theorem d_Mod_thrown_4 : decode b_Mod_thrown 4 = .ok (.ireturn, 1) := by decide +kernel
theorem d_Mod_throwing_0 : decode b_Mod_throwing 0 = .ok (.aload_n 0, 1) := by decide +kernel
theorem d_Mod_throwing_1 : decode b_Mod_throwing 1 = .ok (.iload_n 1, 1) := by decide +kernel
theorem d_Mod_throwing_2 : decode b_Mod_throwing 2 = .ok (.ifCond .eq 7, 3) := by decide +kernel
theorem d_Mod_throwing_5 : decode b_Mod_throwing 5 = .ok (.iconst 1, 1) := by decide +kernel
theorem d_Mod_throwing_6 : decode b_Mod_throwing 6 = .ok (.goto 29, 3) := by decide +kernel
theorem d_Mod_throwing_9 : decode b_Mod_throwing 9 = .ok (.iload_n 2, 1) := by decide +kernel
theorem d_Mod_throwing_10 : decode b_Mod_throwing 10 = .ok (.ifCond .eq 7, 3) := by decide +kernel
theorem d_Mod_throwing_13 : decode b_Mod_throwing 13 = .ok (.iconst 2, 1) := by decide +kernel
theorem d_Mod_throwing_14 : decode b_Mod_throwing 14 = .ok (.goto 21, 3) := by decide +kernel
theorem d_Mod_throwing_17 : decode b_Mod_throwing 17 = .ok (.iload_n 3, 1) := by decide +kernel
theorem d_Mod_throwing_18 : decode b_Mod_throwing 18 = .ok (.ifCond .eq 7, 3) := by decide +kernel
theorem d_Mod_throwing_21 : decode b_Mod_throwing 21 = .ok (.iconst 3, 1) := by decide +kernel
theorem d_Mod_throwing_22 : decode b_Mod_throwing 22 = .ok (.goto 13, 3) := by decide +kernel
theorem d_Mod_throwing_25 : decode b_Mod_throwing 25 = .ok (.iload 4, 2) := by decide +kernel
theorem d_Mod_throwing_27 : decode b_Mod_throwing 27 = .ok (.ifCond .eq 7, 3) := by decide +kernel
theorem d_Mod_throwing_30 : decode b_Mod_throwing 30 = .ok (.iconst 4, 1) := by decide +kernel
theorem d_Mod_throwing_31 : decode b_Mod_throwing 31 = .ok (.goto 4, 3) := by decide +kernel
theorem d_Mod_throwing_34 : decode b_Mod_throwing 34 = .ok (.iconst 0, 1) := by decide +kernel
theorem d_Mod_throwing_35 : decode b_Mod_throwing 35 = .ok (.putfield 78, 3) := by decide +kernel
theorem d_Mod_throwing_38 : decode b_Mod_throwing 38 = .ok (.aload_n 0, 1) := by decide +kernel
theorem d_Mod_throwing_39 : decode b_Mod_throwing 39 = .ok (.getfield 78, 3) := by decide +kernel
theorem d_Mod_throwing_42 : decode b_Mod_throwing 42 = .ok (.ifCond .le 7, 3) := by decide +kernel
theorem d_Mod_throwing_45 : decode b_Mod_throwing 45 = .ok (.iconst 1, 1) := by decide +kernel
theorem d_Mod_throwing_46 : decode b_Mod_throwing 46 = .ok (.goto 4, 3) := by decide +kernel
theorem d_Mod_throwing_49 : decode b_Mod_throwing 49 = .ok (.iconst 0, 1) := by decide +kernel
theorem d_Mod_throwing_50 : decode b_Mod_throwing 50 = .ok (.ireturn, 1) := by decide +kernel
theorem d_Mod_in_0 : decode b_Mod_in 0 = .ok (.iload_n 0, 1) := by decide +kernel
theorem d_Mod_in_1 : decode b_Mod_in 1 = .ok (.iload_n 1, 1) := by decide +kernel
theorem d_Mod_in_2 : decode b_Mod_in 2 = .ok (.if_icmp .lt 12, 3) := by decide +kernel
theorem d_Mod_in_5 : decode b_Mod_in 5 = .ok (.iload_n 0, 1) := by decide +kernel
theorem d_Mod_in_6 : decode b_Mod_in 6 = .ok (.iload_n 2, 1) := by decide +kernel
theorem d_Mod_in_7 : decode b_Mod_in 7 = .ok (.if_icmp .gt 7, 3) := by decide +kernel
theorem d_Mod_in_10 : decode b_Mod_in 10 = .ok (.iconst 1, 1) := by decide +kernel
theorem d_Mod_in_11 : decode b_Mod_in 11 = .ok (.goto 4, 3) := by decide +kernel
theorem d_Mod_in_14 : decode b_Mod_in 14 = .ok (.iconst 0, 1) := by decide +kernel
theorem d_Mod_in_15 : decode b_Mod_in 15 = .ok (.ireturn, 1) := by decide +kernel
theorem d_Mod_isRoom_0 : decode b_Mod_isRoom 0 = .ok (.iload_n 1, 1) := by decide +kernel
theorem d_Mod_isRoom_1 : decode b_Mod_isRoom 1 = .ok (.iconst 0, 1) := by decide +kernel
theorem d_Mod_isRoom_2 : decode b_Mod_isRoom 2 = .ok (.aload_n 0, 1) := by decide +kernel
theorem d_Mod_isRoom_3 : decode b_Mod_isRoom 3 = .ok (.getfield 81, 3) := by decide +kernel
theorem d_Mod_isRoom_6 : decode b_Mod_isRoom 6 = .ok (.iconst 1, 1) := by decide +kernel
theorem d_Mod_isRoom_7 : decode b_Mod_isRoom 7 = .ok (.isub, 1) := by decide +kernel
theorem d_Mod_isRoom_8 : decode b_Mod_isRoom 8 = .ok (.invokestatic 84, 3) := by decide +kernel
theorem d_Mod_isRoom_11 : decode b_Mod_isRoom 11 = .ok (.ireturn, 1) := by decide +kernel
theorem d_Mod_room_0 : decode b_Mod_room 0 = .ok (.aload_n 0, 1) := by decide +kernel
theorem d_Mod_room_1 : decode b_Mod_room 1 = .ok (.iload_n 2, 1) := by decide +kernel
theorem d_Mod_room_2 : decode b_Mod_room 2 = .ok (.iconst 0, 1) := by decide +kernel
theorem d_Mod_room_3 : decode b_Mod_room 3 = .ok (.iconst 2, 1) := by decide +kernel
theorem d_Mod_room_4 : decode b_Mod_room 4 = .ok (.invokestatic 84, 3) := by decide +kernel
theorem d_Mod_room_7 : decode b_Mod_room 7 = .ok (.ifCond .ne 7, 3) := by decide +kernel
theorem d_Mod_room_10 : decode b_Mod_room 10 = .ok (.iconst 1, 1) := by decide +kernel
theorem d_Mod_room_11 : decode b_Mod_room 11 = .ok (.goto 4, 3) := by decide +kernel
theorem d_Mod_room_14 : decode b_Mod_room 14 = .ok (.iconst 0, 1) := by decide +kernel
theorem d_Mod_room_15 : decode b_Mod_room 15 = .ok (.iload_n 1, 1) := by decide +kernel
theorem d_Mod_room_16 : decode b_Mod_room 16 = .ok (.iconst 0, 1) := by decide +kernel
theorem d_Mod_room_17 : decode b_Mod_room 17 = .ok (.bipush 19, 2) := by decide +kernel
theorem d_Mod_room_19 : decode b_Mod_room 19 = .ok (.invokestatic 84, 3) := by decide +kernel
theorem d_Mod_room_22 : decode b_Mod_room 22 = .ok (.ifCond .ne 7, 3) := by decide +kernel
theorem d_Mod_room_25 : decode b_Mod_room 25 = .ok (.iconst 1, 1) := by decide +kernel
theorem d_Mod_room_26 : decode b_Mod_room 26 = .ok (.goto 4, 3) := by decide +kernel
theorem d_Mod_room_29 : decode b_Mod_room 29 = .ok (.iconst 0, 1) := by decide +kernel
theorem d_Mod_room_30 : decode b_Mod_room 30 = .ok (.aload_n 0, 1) := by decide +kernel
theorem d_Mod_room_31 : decode b_Mod_room 31 = .ok (.getfield 81, 3) := by decide +kernel
theorem d_Mod_room_34 : decode b_Mod_room 34 = .ok (.bipush 40, 2) := by decide +kernel
theorem d_Mod_room_36 : decode b_Mod_room 36 = .ok (.if_icmp .ne 7, 3) := by decide +kernel
theorem d_Mod_room_39 : decode b_Mod_room 39 = .ok (.iconst 1, 1) := by decide +kernel
theorem d_Mod_room_40 : decode b_Mod_room 40 = .ok (.goto 4, 3) := by decide +kernel
theorem d_Mod_room_43 : decode b_Mod_room 43 = .ok (.iconst 0, 1) := by decide +kernel
theorem d_Mod_room_44 : decode b_Mod_room 44 = .ok (.iconst 0, 1) := by decide +kernel
theorem d_Mod_room_45 : decode b_Mod_room 45 = .ok (.invokevirtual 88, 3) := by decide +kernel
theorem d_Mod_room_48 : decode b_Mod_room 48 = .ok (.ifCond .eq 5, 3) := by decide +kernel
theorem d_Mod_room_51 : decode b_Mod_room 51 = .ok (.iconst 0, 1) := by decide +kernel
theorem d_Mod_room_52 : decode b_Mod_room 52 = .ok (.ireturn, 1) := by decide +kernel
theorem d_Mod_room_53 : decode b_Mod_room 53 = .ok (.aload_n 0, 1) := by decide +kernel
theorem d_Mod_room_54 : decode b_Mod_room 54 = .ok (.getfield 7, 3) := by decide +kernel
theorem d_Mod_room_57 : decode b_Mod_room 57 = .ok (.aload_n 0, 1) := by decide +kernel
theorem d_Mod_room_58 : decode b_Mod_room 58 = .ok (.getfield 81, 3) := by decide +kernel
theorem d_Mod_room_61 : decode b_Mod_room 61 = .ok (.iload_n 1, 1) := by decide +kernel
theorem d_Mod_room_62 : decode b_Mod_room 62 = .ok (.iastore, 1) := by decide +kernel
theorem d_Mod_room_63 : decode b_Mod_room 63 = .ok (.aload_n 0, 1) := by decide +kernel
theorem d_Mod_room_64 : decode b_Mod_room 64 = .ok (.getfield 13, 3) := by decide +kernel
theorem d_Mod_room_67 : decode b_Mod_room 67 = .ok (.aload_n 0, 1) := by decide +kernel
theorem d_Mod_room_68 : decode b_Mod_room 68 = .ok (.getfield 81, 3) := by decide +kernel
theorem d_Mod_room_71 : decode b_Mod_room 71 = .ok (.iload_n 2, 1) := by decide +kernel
theorem d_Mod_room_72 : decode b_Mod_room 72 = .ok (.iastore, 1) := by decide +kernel
theorem d_Mod_room_73 : decode b_Mod_room 73 = .ok (.aload_n 0, 1) := by decide +kernel
theorem d_Mod_room_74 : decode b_Mod_room 74 = .ok (.dup, 1) := by decide +kernel
theorem d_Mod_room_75 : decode b_Mod_room 75 = .ok (.getfield 81, 3) := by decide +kernel
theorem d_Mod_room_78 : decode b_Mod_room 78 = .ok (.iconst 1, 1) := by decide +kernel
theorem d_Mod_room_79 : decode b_Mod_room 79 = .ok (.iadd, 1) := by decide +kernel
theorem d_Mod_room_80 : decode b_Mod_room 80 = .ok (.putfield 81, 3) := by decide +kernel
theorem d_Mod_room_83 : decode b_Mod_room 83 = .ok (.aload_n 0, 1) := by decide +kernel
theorem d_Mod_room_84 : decode b_Mod_room 84 = .ok (.getfield 81, 3) := by decide +kernel
theorem d_Mod_room_87 : decode b_Mod_room 87 = .ok (.iconst 1, 1) := by decide +kernel
theorem d_Mod_room_88 : decode b_Mod_room 88 = .ok (.isub, 1) := by decide +kernel
theorem d_Mod_room_89 : decode b_Mod_room 89 = .ok (.ireturn, 1) := by decide +kernel
theorem d_Mod_door_0 : decode b_Mod_door 0 = .ok (.aload_n 0, 1) := by decide +kernel
theorem d_Mod_door_1 : decode b_Mod_door 1 = .ok (.iload_n 1, 1) := by decide +kernel
theorem d_Mod_door_2 : decode b_Mod_door 2 = .ok (.invokevirtual 92, 3) := by decide +kernel
theorem d_Mod_door_5 : decode b_Mod_door 5 = .ok (.ifCond .eq 11, 3) := by decide +kernel
theorem d_Mod_door_8 : decode b_Mod_door 8 = .ok (.aload_n 0, 1) := by decide +kernel
theorem d_Mod_door_9 : decode b_Mod_door 9 = .ok (.iload_n 2, 1) := by decide +kernel
theorem d_Mod_door_10 : decode b_Mod_door 10 = .ok (.invokevirtual 92, 3) := by decide +kernel
theorem d_Mod_door_13 : decode b_Mod_door 13 = .ok (.ifCond .ne 7, 3) := by decide +kernel
theorem d_Mod_door_16 : decode b_Mod_door 16 = .ok (.iconst 1, 1) := by decide +kernel
theorem d_Mod_door_17 : decode b_Mod_door 17 = .ok (.goto 4, 3) := by decide +kernel
theorem d_Mod_door_20 : decode b_Mod_door 20 = .ok (.iconst 0, 1) := by decide +kernel
theorem d_Mod_door_21 : decode b_Mod_door 21 = .ok (.istore 5, 2) := by decide +kernel
theorem d_Mod_door_23 : decode b_Mod_door 23 = .ok (.iload_n 3, 1) := by decide +kernel
theorem d_Mod_door_24 : decode b_Mod_door 24 = .ok (.iconst 1, 1) := by decide +kernel
theorem d_Mod_door_25 : decode b_Mod_door 25 = .ok (.sipush 500, 3) := by decide +kernel
theorem d_Mod_door_28 : decode b_Mod_door 28 = .ok (.invokestatic 84, 3) := by decide +kernel
theorem d_Mod_door_31 : decode b_Mod_door 31 = .ok (.ifCond .eq 14, 3) := by decide +kernel
theorem d_Mod_door_34 : decode b_Mod_door 34 = .ok (.iload 4, 2) := by decide +kernel
theorem d_Mod_door_36 : decode b_Mod_door 36 = .ok (.iconst 0, 1) := by decide +kernel
theorem d_Mod_door_37 : decode b_Mod_door 37 = .ok (.bipush 30, 2) := by decide +kernel
theorem d_Mod_door_39 : decode b_Mod_door 39 = .ok (.invokestatic 84, 3) := by decide +kernel
theorem d_Mod_door_42 : decode b_Mod_door 42 = .ok (.ifCond .ne 7, 3) := by decide +kernel
theorem d_Mod_door_45 : decode b_Mod_door 45 = .ok (.iconst 1, 1) := by decide +kernel
theorem d_Mod_door_46 : decode b_Mod_door 46 = .ok (.goto 4, 3) := by decide +kernel
theorem d_Mod_door_49 : decode b_Mod_door 49 = .ok (.iconst 0, 1) := by decide +kernel
theorem d_Mod_door_50 : decode b_Mod_door 50 = .ok (.istore 6, 2) := by decide +kernel
theorem d_Mod_door_52 : decode b_Mod_door 52 = .ok (.iload 5, 2) := by decide +kernel
theorem d_Mod_door_54 : decode b_Mod_door 54 = .ok (.ifCond .ne 33, 3) := by decide +kernel
theorem d_Mod_door_57 : decode b_Mod_door 57 = .ok (.iload_n 1, 1) := by decide +kernel
theorem d_Mod_door_58 : decode b_Mod_door 58 = .ok (.iload_n 2, 1) := by decide +kernel
theorem d_Mod_door_59 : decode b_Mod_door 59 = .ok (.if_icmp .eq 24, 3) := by decide +kernel
theorem d_Mod_door_62 : decode b_Mod_door 62 = .ok (.aload_n 0, 1) := by decide +kernel
theorem d_Mod_door_63 : decode b_Mod_door 63 = .ok (.getfield 7, 3) := by decide +kernel
theorem d_Mod_door_66 : decode b_Mod_door 66 = .ok (.iload_n 1, 1) := by decide +kernel
theorem d_Mod_door_67 : decode b_Mod_door 67 = .ok (.iaload, 1) := by decide +kernel
theorem d_Mod_door_68 : decode b_Mod_door 68 = .ok (.aload_n 0, 1) := by decide +kernel
theorem d_Mod_door_69 : decode b_Mod_door 69 = .ok (.getfield 7, 3) := by decide +kernel
theorem d_Mod_door_72 : decode b_Mod_door 72 = .ok (.iload_n 2, 1) := by decide +kernel
theorem d_Mod_door_73 : decode b_Mod_door 73 = .ok (.iaload, 1) := by decide +kernel
theorem d_Mod_door_74 : decode b_Mod_door 74 = .ok (.isub, 1) := by decide +kernel
theorem d_Mod_door_75 : decode b_Mod_door 75 = .ok (.iconst (-1), 1) := by decide +kernel
theorem d_Mod_door_76 : decode b_Mod_door 76 = .ok (.iconst 1, 1) := by decide +kernel
theorem d_Mod_door_77 : decode b_Mod_door 77 = .ok (.invokestatic 84, 3) := by decide +kernel
theorem d_Mod_door_80 : decode b_Mod_door 80 = .ok (.ifCond .ne 7, 3) := by decide +kernel
theorem d_Mod_door_83 : decode b_Mod_door 83 = .ok (.iconst 1, 1) := by decide +kernel
theorem d_Mod_door_84 : decode b_Mod_door 84 = .ok (.goto 4, 3) := by decide +kernel
theorem d_Mod_door_87 : decode b_Mod_door 87 = .ok (.iconst 0, 1) := by decide +kernel
theorem d_Mod_door_88 : decode b_Mod_door 88 = .ok (.istore 7, 2) := by decide +kernel
theorem d_Mod_door_90 : decode b_Mod_door 90 = .ok (.aload_n 0, 1) := by decide +kernel
theorem d_Mod_door_91 : decode b_Mod_door 91 = .ok (.iload 5, 2) := by decide +kernel
theorem d_Mod_door_93 : decode b_Mod_door 93 = .ok (.iload 6, 2) := by decide +kernel
theorem d_Mod_door_95 : decode b_Mod_door 95 = .ok (.iload 7, 2) := by decide +kernel
theorem d_Mod_door_97 : decode b_Mod_door 97 = .ok (.aload_n 0, 1) := by decide +kernel
theorem d_Mod_door_98 : decode b_Mod_door 98 = .ok (.getfield 96, 3) := by decide +kernel
theorem d_Mod_door_101 : decode b_Mod_door 101 = .ok (.bipush 80, 2) := by decide +kernel
theorem d_Mod_door_103 : decode b_Mod_door 103 = .ok (.if_icmp .ne 7, 3) := by decide +kernel
theorem d_Mod_door_106 : decode b_Mod_door 106 = .ok (.iconst 1, 1) := by decide +kernel
theorem d_Mod_door_107 : decode b_Mod_door 107 = .ok (.goto 4, 3) := by decide +kernel
theorem d_Mod_door_110 : decode b_Mod_door 110 = .ok (.iconst 0, 1) := by decide +kernel
theorem d_Mod_door_111 : decode b_Mod_door 111 = .ok (.invokevirtual 88, 3) := by decide +kernel
theorem d_Mod_door_114 : decode b_Mod_door 114 = .ok (.ifCond .eq 5, 3) := by decide +kernel
theorem d_Mod_door_117 : decode b_Mod_door 117 = .ok (.iconst 0, 1) := by decide +kernel
theorem d_Mod_door_118 : decode b_Mod_door 118 = .ok (.ireturn, 1) := by decide +kernel
theorem d_Mod_door_119 : decode b_Mod_door 119 = .ok (.aload_n 0, 1) := by decide +kernel
theorem d_Mod_door_120 : decode b_Mod_door 120 = .ok (.getfield 19, 3) := by decide +kernel
theorem d_Mod_door_123 : decode b_Mod_door 123 = .ok (.aload_n 0, 1) := by decide +kernel
theorem d_Mod_door_124 : decode b_Mod_door 124 = .ok (.getfield 96, 3) := by decide +kernel
theorem d_Mod_door_127 : decode b_Mod_door 127 = .ok (.iload_n 1, 1) := by decide +kernel
theorem d_Mod_door_128 : decode b_Mod_door 128 = .ok (.iastore, 1) := by decide +kernel
theorem d_Mod_door_129 : decode b_Mod_door 129 = .ok (.aload_n 0, 1) := by decide +kernel
theorem d_Mod_door_130 : decode b_Mod_door 130 = .ok (.getfield 22, 3) := by decide +kernel
theorem d_Mod_door_133 : decode b_Mod_door 133 = .ok (.aload_n 0, 1) := by decide +kernel
theorem d_Mod_door_134 : decode b_Mod_door 134 = .ok (.getfield 96, 3) := by decide +kernel
theorem d_Mod_door_137 : decode b_Mod_door 137 = .ok (.iload_n 2, 1) := by decide +kernel
theorem d_Mod_door_138 : decode b_Mod_door 138 = .ok (.iastore, 1) := by decide +kernel
theorem d_Mod_door_139 : decode b_Mod_door 139 = .ok (.aload_n 0, 1) := by decide +kernel
theorem d_Mod_door_140 : decode b_Mod_door 140 = .ok (.getfield 25, 3) := by decide +kernel
theorem d_Mod_door_143 : decode b_Mod_door 143 = .ok (.aload_n 0, 1) := by decide +kernel
theorem d_Mod_door_144 : decode b_Mod_door 144 = .ok (.getfield 96, 3) := by decide +kernel
theorem d_Mod_door_147 : decode b_Mod_door 147 = .ok (.iload_n 3, 1) := by decide +kernel
theorem d_Mod_door_148 : decode b_Mod_door 148 = .ok (.iastore, 1) := by decide +kernel
theorem d_Mod_door_149 : decode b_Mod_door 149 = .ok (.aload_n 0, 1) := by decide +kernel
theorem d_Mod_door_150 : decode b_Mod_door 150 = .ok (.getfield 28, 3) := by decide +kernel
theorem d_Mod_door_153 : decode b_Mod_door 153 = .ok (.aload_n 0, 1) := by decide +kernel
theorem d_Mod_door_154 : decode b_Mod_door 154 = .ok (.getfield 96, 3) := by decide +kernel
theorem d_Mod_door_157 : decode b_Mod_door 157 = .ok (.iload 4, 2) := by decide +kernel
theorem d_Mod_door_159 : decode b_Mod_door 159 = .ok (.iastore, 1) := by decide +kernel
theorem d_Mod_door_160 : decode b_Mod_door 160 = .ok (.aload_n 0, 1) := by decide +kernel
theorem d_Mod_door_161 : decode b_Mod_door 161 = .ok (.dup, 1) := by decide +kernel
theorem d_Mod_door_162 : decode b_Mod_door 162 = .ok (.getfield 96, 3) := by decide +kernel
theorem d_Mod_door_165 : decode b_Mod_door 165 = .ok (.iconst 1, 1) := by decide +kernel
theorem d_Mod_door_166 : decode b_Mod_door 166 = .ok (.iadd, 1) := by decide +kernel
theorem d_Mod_door_167 : decode b_Mod_door 167 = .ok (.putfield 96, 3) := by decide +kernel
theorem d_Mod_door_170 : decode b_Mod_door 170 = .ok (.aload_n 0, 1) := by decide +kernel
theorem d_Mod_door_171 : decode b_Mod_door 171 = .ok (.getfield 96, 3) := by decide +kernel
theorem d_Mod_door_174 : decode b_Mod_door 174 = .ok (.iconst 1, 1) := by decide +kernel
theorem d_Mod_door_175 : decode b_Mod_door 175 = .ok (.isub, 1) := by decide +kernel
theorem d_Mod_door_176 : decode b_Mod_door 176 = .ok (.ireturn, 1) := by decide +kernel
theorem d_Mod_key_0 : decode b_Mod_key 0 = .ok (.iload_n 1, 1) := by decide +kernel
theorem d_Mod_key_1 : decode b_Mod_key 1 = .ok (.iconst 1, 1) := by decide +kernel
theorem d_Mod_key_2 : decode b_Mod_key 2 = .ok (.bipush 30, 2) := by decide +kernel
theorem d_Mod_key_4 : decode b_Mod_key 4 = .ok (.invokestatic 84, 3) := by decide +kernel
theorem d_Mod_key_7 : decode b_Mod_key 7 = .ok (.ifCond .ne 7, 3) := by decide +kernel
theorem d_Mod_key_10 : decode b_Mod_key 10 = .ok (.iconst 1, 1) := by decide +kernel
theorem d_Mod_key_11 : decode b_Mod_key 11 = .ok (.goto 4, 3) := by decide +kernel
theorem d_Mod_key_14 : decode b_Mod_key 14 = .ok (.iconst 0, 1) := by decide +kernel
theorem d_Mod_key_15 : decode b_Mod_key 15 = .ok (.istore_n 3, 1) := by decide +kernel
theorem d_Mod_key_16 : decode b_Mod_key 16 = .ok (.aload_n 0, 1) := by decide +kernel
theorem d_Mod_key_17 : decode b_Mod_key 17 = .ok (.iload_n 3, 1) := by decide +kernel
theorem d_Mod_key_18 : decode b_Mod_key 18 = .ok (.iload_n 3, 1) := by decide +kernel
theorem d_Mod_key_19 : decode b_Mod_key 19 = .ok (.ifCond .ne 25, 3) := by decide +kernel
theorem d_Mod_key_22 : decode b_Mod_key 22 = .ok (.aload_n 0, 1) := by decide +kernel
theorem d_Mod_key_23 : decode b_Mod_key 23 = .ok (.getfield 31, 3) := by decide +kernel
theorem d_Mod_key_26 : decode b_Mod_key 26 = .ok (.iload_n 3, 1) := by decide +kernel
theorem d_Mod_key_27 : decode b_Mod_key 27 = .ok (.ifCond .eq 7, 3) := by decide +kernel
theorem d_Mod_key_30 : decode b_Mod_key 30 = .ok (.iconst 0, 1) := by decide +kernel
theorem d_Mod_key_31 : decode b_Mod_key 31 = .ok (.goto 4, 3) := by decide +kernel
theorem d_Mod_key_34 : decode b_Mod_key 34 = .ok (.iload_n 1, 1) := by decide +kernel
theorem d_Mod_key_35 : decode b_Mod_key 35 = .ok (.baload, 1) := by decide +kernel
theorem d_Mod_key_36 : decode b_Mod_key 36 = .ok (.iload_n 2, 1) := by decide +kernel
theorem d_Mod_key_37 : decode b_Mod_key 37 = .ok (.if_icmp .ne 7, 3) := by decide +kernel
theorem d_Mod_key_40 : decode b_Mod_key 40 = .ok (.iconst 1, 1) := by decide +kernel
theorem d_Mod_key_41 : decode b_Mod_key 41 = .ok (.goto 4, 3) := by decide +kernel
theorem d_Mod_key_44 : decode b_Mod_key 44 = .ok (.iconst 0, 1) := by decide +kernel
theorem d_Mod_key_45 : decode b_Mod_key 45 = .ok (.iconst 0, 1) := by decide +kernel
theorem d_Mod_key_46 : decode b_Mod_key 46 = .ok (.iconst 0, 1) := by decide +kernel
theorem d_Mod_key_47 : decode b_Mod_key 47 = .ok (.invokevirtual 88, 3) := by decide +kernel
theorem d_Mod_key_50 : decode b_Mod_key 50 = .ok (.ifCond .eq 4, 3) := by decide +kernel
theorem d_Mod_key_53 : decode b_Mod_key 53 = .ok (.return_, 1) := by decide +kernel
theorem d_Mod_key_54 : decode b_Mod_key 54 = .ok (.aload_n 0, 1) := by decide +kernel
theorem d_Mod_key_55 : decode b_Mod_key 55 = .ok (.getfield 31, 3) := by decide +kernel
theorem d_Mod_key_58 : decode b_Mod_key 58 = .ok (.iload_n 1, 1) := by decide +kernel
theorem d_Mod_key_59 : decode b_Mod_key 59 = .ok (.iload_n 2, 1) := by decide +kernel
theorem d_Mod_key_60 : decode b_Mod_key 60 = .ok (.bastore, 1) := by decide +kernel
theorem d_Mod_key_61 : decode b_Mod_key 61 = .ok (.return_, 1) := by decide +kernel
theorem d_Mod_hazard_0 : decode b_Mod_hazard 0 = .ok (.aload_n 0, 1) := by decide +kernel
theorem d_Mod_hazard_1 : decode b_Mod_hazard 1 = .ok (.aload_n 0, 1) := by decide +kernel
theorem d_Mod_hazard_2 : decode b_Mod_hazard 2 = .ok (.iload_n 1, 1) := by decide +kernel
theorem d_Mod_hazard_3 : decode b_Mod_hazard 3 = .ok (.invokevirtual 92, 3) := by decide +kernel
theorem d_Mod_hazard_6 : decode b_Mod_hazard 6 = .ok (.ifCond .ne 7, 3) := by decide +kernel
theorem d_Mod_hazard_9 : decode b_Mod_hazard 9 = .ok (.iconst 1, 1) := by decide +kernel
theorem d_Mod_hazard_10 : decode b_Mod_hazard 10 = .ok (.goto 4, 3) := by decide +kernel
theorem d_Mod_hazard_13 : decode b_Mod_hazard 13 = .ok (.iconst 0, 1) := by decide +kernel
theorem d_Mod_hazard_14 : decode b_Mod_hazard 14 = .ok (.iload_n 2, 1) := by decide +kernel
theorem d_Mod_hazard_15 : decode b_Mod_hazard 15 = .ok (.iconst 0, 1) := by decide +kernel
theorem d_Mod_hazard_16 : decode b_Mod_hazard 16 = .ok (.sipush 255, 3) := by decide +kernel
theorem d_Mod_hazard_19 : decode b_Mod_hazard 19 = .ok (.invokestatic 84, 3) := by decide +kernel
theorem d_Mod_hazard_22 : decode b_Mod_hazard 22 = .ok (.ifCond .ne 7, 3) := by decide +kernel
theorem d_Mod_hazard_25 : decode b_Mod_hazard 25 = .ok (.iconst 1, 1) := by decide +kernel
theorem d_Mod_hazard_26 : decode b_Mod_hazard 26 = .ok (.goto 4, 3) := by decide +kernel
theorem d_Mod_hazard_29 : decode b_Mod_hazard 29 = .ok (.iconst 0, 1) := by decide +kernel
theorem d_Mod_hazard_30 : decode b_Mod_hazard 30 = .ok (.iconst 0, 1) := by decide +kernel
theorem d_Mod_hazard_31 : decode b_Mod_hazard 31 = .ok (.iconst 0, 1) := by decide +kernel
theorem d_Mod_hazard_32 : decode b_Mod_hazard 32 = .ok (.invokevirtual 88, 3) := by decide +kernel
theorem d_Mod_hazard_35 : decode b_Mod_hazard 35 = .ok (.ifCond .eq 4, 3) := by decide +kernel
theorem d_Mod_hazard_38 : decode b_Mod_hazard 38 = .ok (.return_, 1) := by decide +kernel
theorem d_Mod_hazard_39 : decode b_Mod_hazard 39 = .ok (.aload_n 0, 1) := by decide +kernel
theorem d_Mod_hazard_40 : decode b_Mod_hazard 40 = .ok (.getfield 16, 3) := by decide +kernel
theorem d_Mod_hazard_43 : decode b_Mod_hazard 43 = .ok (.iload_n 1, 1) := by decide +kernel
theorem d_Mod_hazard_44 : decode b_Mod_hazard 44 = .ok (.iload_n 2, 1) := by decide +kernel
theorem d_Mod_hazard_45 : decode b_Mod_hazard 45 = .ok (.iastore, 1) := by decide +kernel
theorem d_Mod_hazard_46 : decode b_Mod_hazard 46 = .ok (.return_, 1) := by decide +kernel
theorem d_Mod_isPassed_0 : decode b_Mod_isPassed 0 = .ok (.aload_n 0, 1) := by decide +kernel
theorem d_Mod_isPassed_1 : decode b_Mod_isPassed 1 = .ok (.getfield 28, 3) := by decide +kernel
theorem d_Mod_isPassed_4 : decode b_Mod_isPassed 4 = .ok (.iload_n 1, 1) := by decide +kernel
theorem d_Mod_isPassed_5 : decode b_Mod_isPassed 5 = .ok (.iaload, 1) := by decide +kernel
theorem d_Mod_isPassed_6 : decode b_Mod_isPassed 6 = .ok (.ifCond .eq 17, 3) := by decide +kernel
theorem d_Mod_isPassed_9 : decode b_Mod_isPassed 9 = .ok (.aload_n 0, 1) := by decide +kernel
theorem d_Mod_isPassed_10 : decode b_Mod_isPassed 10 = .ok (.getfield 31, 3) := by decide +kernel
theorem d_Mod_isPassed_13 : decode b_Mod_isPassed 13 = .ok (.aload_n 0, 1) := by decide +kernel
theorem d_Mod_isPassed_14 : decode b_Mod_isPassed 14 = .ok (.getfield 28, 3) := by decide +kernel
theorem d_Mod_isPassed_17 : decode b_Mod_isPassed 17 = .ok (.iload_n 1, 1) := by decide +kernel
theorem d_Mod_isPassed_18 : decode b_Mod_isPassed 18 = .ok (.iaload, 1) := by decide +kernel
theorem d_Mod_isPassed_19 : decode b_Mod_isPassed 19 = .ok (.baload, 1) := by decide +kernel
theorem d_Mod_isPassed_20 : decode b_Mod_isPassed 20 = .ok (.ifCond .eq 7, 3) := by decide +kernel
theorem d_Mod_isPassed_23 : decode b_Mod_isPassed 23 = .ok (.iconst 1, 1) := by decide +kernel
theorem d_Mod_isPassed_24 : decode b_Mod_isPassed 24 = .ok (.goto 4, 3) := by decide +kernel
theorem d_Mod_isPassed_27 : decode b_Mod_isPassed 27 = .ok (.iconst 0, 1) := by decide +kernel
theorem d_Mod_isPassed_28 : decode b_Mod_isPassed 28 = .ok (.ireturn, 1) := by decide +kernel
theorem d_Mod_costOf_0 : decode b_Mod_costOf 0 = .ok (.bipush 100, 2) := by decide +kernel
theorem d_Mod_costOf_2 : decode b_Mod_costOf 2 = .ok (.aload_n 0, 1) := by decide +kernel
theorem d_Mod_costOf_3 : decode b_Mod_costOf 3 = .ok (.getfield 25, 3) := by decide +kernel
theorem d_Mod_costOf_6 : decode b_Mod_costOf 6 = .ok (.iload_n 1, 1) := by decide +kernel
theorem d_Mod_costOf_7 : decode b_Mod_costOf 7 = .ok (.iaload, 1) := by decide +kernel
theorem d_Mod_costOf_8 : decode b_Mod_costOf 8 = .ok (.imul, 1) := by decide +kernel
theorem d_Mod_costOf_9 : decode b_Mod_costOf 9 = .ok (.aload_n 0, 1) := by decide +kernel
theorem d_Mod_costOf_10 : decode b_Mod_costOf 10 = .ok (.getfield 7, 3) := by decide +kernel
theorem d_Mod_costOf_13 : decode b_Mod_costOf 13 = .ok (.aload_n 0, 1) := by decide +kernel
theorem d_Mod_costOf_14 : decode b_Mod_costOf 14 = .ok (.getfield 19, 3) := by decide +kernel
theorem d_Mod_costOf_17 : decode b_Mod_costOf 17 = .ok (.iload_n 1, 1) := by decide +kernel
theorem d_Mod_costOf_18 : decode b_Mod_costOf 18 = .ok (.iaload, 1) := by decide +kernel
theorem d_Mod_costOf_19 : decode b_Mod_costOf 19 = .ok (.iaload, 1) := by decide +kernel
theorem d_Mod_costOf_20 : decode b_Mod_costOf 20 = .ok (.aload_n 0, 1) := by decide +kernel
theorem d_Mod_costOf_21 : decode b_Mod_costOf 21 = .ok (.getfield 7, 3) := by decide +kernel
theorem d_Mod_costOf_24 : decode b_Mod_costOf 24 = .ok (.aload_n 0, 1) := by decide +kernel
theorem d_Mod_costOf_25 : decode b_Mod_costOf 25 = .ok (.getfield 22, 3) := by decide +kernel
theorem d_Mod_costOf_28 : decode b_Mod_costOf 28 = .ok (.iload_n 1, 1) := by decide +kernel
theorem d_Mod_costOf_29 : decode b_Mod_costOf 29 = .ok (.iaload, 1) := by decide +kernel
theorem d_Mod_costOf_30 : decode b_Mod_costOf 30 = .ok (.iaload, 1) := by decide +kernel
theorem d_Mod_costOf_31 : decode b_Mod_costOf 31 = .ok (.if_icmp .ne 7, 3) := by decide +kernel
theorem d_Mod_costOf_34 : decode b_Mod_costOf 34 = .ok (.iconst 0, 1) := by decide +kernel
theorem d_Mod_costOf_35 : decode b_Mod_costOf 35 = .ok (.goto 4, 3) := by decide +kernel
theorem d_Mod_costOf_38 : decode b_Mod_costOf 38 = .ok (.iconst 1, 1) := by decide +kernel
theorem d_Mod_costOf_39 : decode b_Mod_costOf 39 = .ok (.iadd, 1) := by decide +kernel
theorem d_Mod_costOf_40 : decode b_Mod_costOf 40 = .ok (.ireturn, 1) := by decide +kernel
theorem d_Mod_reckon_0 : decode b_Mod_reckon 0 = .ok (.iconst 0, 1) := by decide +kernel
theorem d_Mod_reckon_1 : decode b_Mod_reckon 1 = .ok (.istore_n 3, 1) := by decide +kernel
theorem d_Mod_reckon_2 : decode b_Mod_reckon 2 = .ok (.iload_n 3, 1) := by decide +kernel
theorem d_Mod_reckon_3 : decode b_Mod_reckon 3 = .ok (.bipush 40, 2) := by decide +kernel
theorem d_Mod_reckon_5 : decode b_Mod_reckon 5 = .ok (.if_icmp .ge 17, 3) := by decide +kernel
theorem d_Mod_reckon_8 : decode b_Mod_reckon 8 = .ok (.aload_n 0, 1) := by decide +kernel
theorem d_Mod_reckon_9 : decode b_Mod_reckon 9 = .ok (.getfield 35, 3) := by decide +kernel
theorem d_Mod_reckon_12 : decode b_Mod_reckon 12 = .ok (.iload_n 3, 1) := by decide +kernel
theorem d_Mod_reckon_13 : decode b_Mod_reckon 13 = .ok (.ldc 99, 2) := by decide +kernel
theorem d_Mod_reckon_15 : decode b_Mod_reckon 15 = .ok (.iastore, 1) := by decide +kernel
theorem d_Mod_reckon_16 : decode b_Mod_reckon 16 = .ok (.iinc 3 1, 3) := by decide +kernel
theorem d_Mod_reckon_19 : decode b_Mod_reckon 19 = .ok (.goto (-17), 3) := by decide +kernel
theorem d_Mod_reckon_22 : decode b_Mod_reckon 22 = .ok (.aload_n 0, 1) := by decide +kernel
theorem d_Mod_reckon_23 : decode b_Mod_reckon 23 = .ok (.getfield 35, 3) := by decide +kernel
theorem d_Mod_reckon_26 : decode b_Mod_reckon 26 = .ok (.iload_n 1, 1) := by decide +kernel
theorem d_Mod_reckon_27 : decode b_Mod_reckon 27 = .ok (.iconst 0, 1) := by decide +kernel
theorem d_Mod_reckon_28 : decode b_Mod_reckon 28 = .ok (.iastore, 1) := by decide +kernel
theorem d_Mod_reckon_29 : decode b_Mod_reckon 29 = .ok (.iconst 1, 1) := by decide +kernel
theorem d_Mod_reckon_30 : decode b_Mod_reckon 30 = .ok (.istore_n 3, 1) := by decide +kernel
theorem d_Mod_reckon_31 : decode b_Mod_reckon 31 = .ok (.iload_n 3, 1) := by decide +kernel
theorem d_Mod_reckon_32 : decode b_Mod_reckon 32 = .ok (.ifCond .eq 187, 3) := by decide +kernel
theorem d_Mod_reckon_35 : decode b_Mod_reckon 35 = .ok (.iconst 0, 1) := by decide +kernel
theorem d_Mod_reckon_36 : decode b_Mod_reckon 36 = .ok (.istore_n 3, 1) := by decide +kernel
theorem d_Mod_reckon_37 : decode b_Mod_reckon 37 = .ok (.iconst 0, 1) := by decide +kernel
theorem d_Mod_reckon_38 : decode b_Mod_reckon 38 = .ok (.istore 4, 2) := by decide +kernel
theorem d_Mod_reckon_40 : decode b_Mod_reckon 40 = .ok (.iload 4, 2) := by decide +kernel
theorem d_Mod_reckon_42 : decode b_Mod_reckon 42 = .ok (.iconst 2, 1) := by decide +kernel
theorem d_Mod_reckon_43 : decode b_Mod_reckon 43 = .ok (.aload_n 0, 1) := by decide +kernel
theorem d_Mod_reckon_44 : decode b_Mod_reckon 44 = .ok (.getfield 96, 3) := by decide +kernel
theorem d_Mod_reckon_47 : decode b_Mod_reckon 47 = .ok (.imul, 1) := by decide +kernel
theorem d_Mod_reckon_48 : decode b_Mod_reckon 48 = .ok (.if_icmp .ge 168, 3) := by decide +kernel
theorem d_Mod_reckon_51 : decode b_Mod_reckon 51 = .ok (.iload 4, 2) := by decide +kernel
theorem d_Mod_reckon_53 : decode b_Mod_reckon 53 = .ok (.iconst 2, 1) := by decide +kernel
theorem d_Mod_reckon_54 : decode b_Mod_reckon 54 = .ok (.irem, 1) := by decide +kernel
theorem d_Mod_reckon_55 : decode b_Mod_reckon 55 = .ok (.ifCond .ne 15, 3) := by decide +kernel
theorem d_Mod_reckon_58 : decode b_Mod_reckon 58 = .ok (.aload_n 0, 1) := by decide +kernel
theorem d_Mod_reckon_59 : decode b_Mod_reckon 59 = .ok (.getfield 19, 3) := by decide +kernel
theorem d_Mod_reckon_62 : decode b_Mod_reckon 62 = .ok (.iload 4, 2) := by decide +kernel
theorem d_Mod_reckon_64 : decode b_Mod_reckon 64 = .ok (.iconst 2, 1) := by decide +kernel
theorem d_Mod_reckon_65 : decode b_Mod_reckon 65 = .ok (.idiv, 1) := by decide +kernel
theorem d_Mod_reckon_66 : decode b_Mod_reckon 66 = .ok (.iaload, 1) := by decide +kernel
theorem d_Mod_reckon_67 : decode b_Mod_reckon 67 = .ok (.goto 12, 3) := by decide +kernel
theorem d_Mod_reckon_70 : decode b_Mod_reckon 70 = .ok (.aload_n 0, 1) := by decide +kernel
theorem d_Mod_reckon_71 : decode b_Mod_reckon 71 = .ok (.getfield 22, 3) := by decide +kernel
theorem d_Mod_reckon_74 : decode b_Mod_reckon 74 = .ok (.iload 4, 2) := by decide +kernel
theorem d_Mod_reckon_76 : decode b_Mod_reckon 76 = .ok (.iconst 2, 1) := by decide +kernel
theorem d_Mod_reckon_77 : decode b_Mod_reckon 77 = .ok (.idiv, 1) := by decide +kernel
theorem d_Mod_reckon_78 : decode b_Mod_reckon 78 = .ok (.iaload, 1) := by decide +kernel
theorem d_Mod_reckon_79 : decode b_Mod_reckon 79 = .ok (.istore 5, 2) := by decide +kernel
theorem d_Mod_reckon_81 : decode b_Mod_reckon 81 = .ok (.iload 4, 2) := by decide +kernel
theorem d_Mod_reckon_83 : decode b_Mod_reckon 83 = .ok (.iconst 2, 1) := by decide +kernel
theorem d_Mod_reckon_84 : decode b_Mod_reckon 84 = .ok (.irem, 1) := by decide +kernel
theorem d_Mod_reckon_85 : decode b_Mod_reckon 85 = .ok (.ifCond .ne 15, 3) := by decide +kernel
theorem d_Mod_reckon_88 : decode b_Mod_reckon 88 = .ok (.aload_n 0, 1) := by decide +kernel
theorem d_Mod_reckon_89 : decode b_Mod_reckon 89 = .ok (.getfield 22, 3) := by decide +kernel
theorem d_Mod_reckon_92 : decode b_Mod_reckon 92 = .ok (.iload 4, 2) := by decide +kernel
theorem d_Mod_reckon_94 : decode b_Mod_reckon 94 = .ok (.iconst 2, 1) := by decide +kernel
theorem d_Mod_reckon_95 : decode b_Mod_reckon 95 = .ok (.idiv, 1) := by decide +kernel
theorem d_Mod_reckon_96 : decode b_Mod_reckon 96 = .ok (.iaload, 1) := by decide +kernel
theorem d_Mod_reckon_97 : decode b_Mod_reckon 97 = .ok (.goto 12, 3) := by decide +kernel
theorem d_Mod_reckon_100 : decode b_Mod_reckon 100 = .ok (.aload_n 0, 1) := by decide +kernel
theorem d_Mod_reckon_101 : decode b_Mod_reckon 101 = .ok (.getfield 19, 3) := by decide +kernel
theorem d_Mod_reckon_104 : decode b_Mod_reckon 104 = .ok (.iload 4, 2) := by decide +kernel
theorem d_Mod_reckon_106 : decode b_Mod_reckon 106 = .ok (.iconst 2, 1) := by decide +kernel
theorem d_Mod_reckon_107 : decode b_Mod_reckon 107 = .ok (.idiv, 1) := by decide +kernel
theorem d_Mod_reckon_108 : decode b_Mod_reckon 108 = .ok (.iaload, 1) := by decide +kernel
theorem d_Mod_reckon_109 : decode b_Mod_reckon 109 = .ok (.istore 6, 2) := by decide +kernel
theorem d_Mod_reckon_111 : decode b_Mod_reckon 111 = .ok (.aload_n 0, 1) := by decide +kernel
theorem d_Mod_reckon_112 : decode b_Mod_reckon 112 = .ok (.iload 4, 2) := by decide +kernel
theorem d_Mod_reckon_114 : decode b_Mod_reckon 114 = .ok (.iconst 2, 1) := by decide +kernel
theorem d_Mod_reckon_115 : decode b_Mod_reckon 115 = .ok (.idiv, 1) := by decide +kernel
theorem d_Mod_reckon_116 : decode b_Mod_reckon 116 = .ok (.invokevirtual 100, 3) := by decide +kernel
theorem d_Mod_reckon_119 : decode b_Mod_reckon 119 = .ok (.ifCond .eq 45, 3) := by decide +kernel
theorem d_Mod_reckon_122 : decode b_Mod_reckon 122 = .ok (.aload_n 0, 1) := by decide +kernel
theorem d_Mod_reckon_123 : decode b_Mod_reckon 123 = .ok (.getfield 16, 3) := by decide +kernel
theorem d_Mod_reckon_126 : decode b_Mod_reckon 126 = .ok (.iload 6, 2) := by decide +kernel
theorem d_Mod_reckon_128 : decode b_Mod_reckon 128 = .ok (.iaload, 1) := by decide +kernel
theorem d_Mod_reckon_129 : decode b_Mod_reckon 129 = .ok (.iload_n 2, 1) := by decide +kernel
theorem d_Mod_reckon_130 : decode b_Mod_reckon 130 = .ok (.iand, 1) := by decide +kernel
theorem d_Mod_reckon_131 : decode b_Mod_reckon 131 = .ok (.ifCond .ne 33, 3) := by decide +kernel
theorem d_Mod_reckon_134 : decode b_Mod_reckon 134 = .ok (.aload_n 0, 1) := by decide +kernel
theorem d_Mod_reckon_135 : decode b_Mod_reckon 135 = .ok (.getfield 35, 3) := by decide +kernel
theorem d_Mod_reckon_138 : decode b_Mod_reckon 138 = .ok (.iload 5, 2) := by decide +kernel
theorem d_Mod_reckon_140 : decode b_Mod_reckon 140 = .ok (.iaload, 1) := by decide +kernel
theorem d_Mod_reckon_141 : decode b_Mod_reckon 141 = .ok (.aload_n 0, 1) := by decide +kernel
theorem d_Mod_reckon_142 : decode b_Mod_reckon 142 = .ok (.iload 4, 2) := by decide +kernel
theorem d_Mod_reckon_144 : decode b_Mod_reckon 144 = .ok (.iconst 2, 1) := by decide +kernel
theorem d_Mod_reckon_145 : decode b_Mod_reckon 145 = .ok (.idiv, 1) := by decide +kernel
theorem d_Mod_reckon_146 : decode b_Mod_reckon 146 = .ok (.invokevirtual 103, 3) := by decide +kernel
theorem d_Mod_reckon_149 : decode b_Mod_reckon 149 = .ok (.iadd, 1) := by decide +kernel
theorem d_Mod_reckon_150 : decode b_Mod_reckon 150 = .ok (.aload_n 0, 1) := by decide +kernel
theorem d_Mod_reckon_151 : decode b_Mod_reckon 151 = .ok (.getfield 35, 3) := by decide +kernel
theorem d_Mod_reckon_154 : decode b_Mod_reckon 154 = .ok (.iload 6, 2) := by decide +kernel
theorem d_Mod_reckon_156 : decode b_Mod_reckon 156 = .ok (.iaload, 1) := by decide +kernel
theorem d_Mod_reckon_157 : decode b_Mod_reckon 157 = .ok (.if_icmp .ge 7, 3) := by decide +kernel
theorem d_Mod_reckon_160 : decode b_Mod_reckon 160 = .ok (.iconst 1, 1) := by decide +kernel
theorem d_Mod_reckon_161 : decode b_Mod_reckon 161 = .ok (.goto 4, 3) := by decide +kernel
theorem d_Mod_reckon_164 : decode b_Mod_reckon 164 = .ok (.iconst 0, 1) := by decide +kernel
theorem d_Mod_reckon_165 : decode b_Mod_reckon 165 = .ok (.istore 7, 2) := by decide +kernel
theorem d_Mod_reckon_167 : decode b_Mod_reckon 167 = .ok (.iload 7, 2) := by decide +kernel
theorem d_Mod_reckon_169 : decode b_Mod_reckon 169 = .ok (.ifCond .eq 26, 3) := by decide +kernel
theorem d_Mod_reckon_172 : decode b_Mod_reckon 172 = .ok (.aload_n 0, 1) := by decide +kernel
theorem d_Mod_reckon_173 : decode b_Mod_reckon 173 = .ok (.getfield 35, 3) := by decide +kernel
theorem d_Mod_reckon_176 : decode b_Mod_reckon 176 = .ok (.iload 6, 2) := by decide +kernel
theorem d_Mod_reckon_178 : decode b_Mod_reckon 178 = .ok (.aload_n 0, 1) := by decide +kernel
theorem d_Mod_reckon_179 : decode b_Mod_reckon 179 = .ok (.getfield 35, 3) := by decide +kernel
theorem d_Mod_reckon_182 : decode b_Mod_reckon 182 = .ok (.iload 5, 2) := by decide +kernel
theorem d_Mod_reckon_184 : decode b_Mod_reckon 184 = .ok (.iaload, 1) := by decide +kernel
theorem d_Mod_reckon_185 : decode b_Mod_reckon 185 = .ok (.aload_n 0, 1) := by decide +kernel
theorem d_Mod_reckon_186 : decode b_Mod_reckon 186 = .ok (.iload 4, 2) := by decide +kernel
theorem d_Mod_reckon_188 : decode b_Mod_reckon 188 = .ok (.iconst 2, 1) := by decide +kernel
theorem d_Mod_reckon_189 : decode b_Mod_reckon 189 = .ok (.idiv, 1) := by decide +kernel
theorem d_Mod_reckon_190 : decode b_Mod_reckon 190 = .ok (.invokevirtual 103, 3) := by decide +kernel
theorem d_Mod_reckon_193 : decode b_Mod_reckon 193 = .ok (.iadd, 1) := by decide +kernel
theorem d_Mod_reckon_194 : decode b_Mod_reckon 194 = .ok (.iastore, 1) := by decide +kernel
theorem d_Mod_reckon_195 : decode b_Mod_reckon 195 = .ok (.iload_n 3, 1) := by decide +kernel
theorem d_Mod_reckon_196 : decode b_Mod_reckon 196 = .ok (.ifCond .ne 8, 3) := by decide +kernel
theorem d_Mod_reckon_199 : decode b_Mod_reckon 199 = .ok (.iload 7, 2) := by decide +kernel
theorem d_Mod_reckon_201 : decode b_Mod_reckon 201 = .ok (.ifCond .eq 7, 3) := by decide +kernel
theorem d_Mod_reckon_204 : decode b_Mod_reckon 204 = .ok (.iconst 1, 1) := by decide +kernel
theorem d_Mod_reckon_205 : decode b_Mod_reckon 205 = .ok (.goto 4, 3) := by decide +kernel
theorem d_Mod_reckon_208 : decode b_Mod_reckon 208 = .ok (.iconst 0, 1) := by decide +kernel
theorem d_Mod_reckon_209 : decode b_Mod_reckon 209 = .ok (.istore_n 3, 1) := by decide +kernel
theorem d_Mod_reckon_210 : decode b_Mod_reckon 210 = .ok (.iinc 4 1, 3) := by decide +kernel
theorem d_Mod_reckon_213 : decode b_Mod_reckon 213 = .ok (.goto (-173), 3) := by decide +kernel
theorem d_Mod_reckon_216 : decode b_Mod_reckon 216 = .ok (.goto (-185), 3) := by decide +kernel
theorem d_Mod_reckon_219 : decode b_Mod_reckon 219 = .ok (.return_, 1) := by decide +kernel
theorem d_Mod_nearest_0 : decode b_Mod_nearest 0 = .ok (.iconst (-1), 1) := by decide +kernel
theorem d_Mod_nearest_1 : decode b_Mod_nearest 1 = .ok (.istore_n 2, 1) := by decide +kernel
theorem d_Mod_nearest_2 : decode b_Mod_nearest 2 = .ok (.iconst 0, 1) := by decide +kernel
theorem d_Mod_nearest_3 : decode b_Mod_nearest 3 = .ok (.istore_n 3, 1) := by decide +kernel
theorem d_Mod_nearest_4 : decode b_Mod_nearest 4 = .ok (.iload_n 3, 1) := by decide +kernel
theorem d_Mod_nearest_5 : decode b_Mod_nearest 5 = .ok (.aload_n 0, 1) := by decide +kernel
theorem d_Mod_nearest_6 : decode b_Mod_nearest 6 = .ok (.getfield 81, 3) := by decide +kernel
theorem d_Mod_nearest_9 : decode b_Mod_nearest 9 = .ok (.if_icmp .ge 51, 3) := by decide +kernel
theorem d_Mod_nearest_12 : decode b_Mod_nearest 12 = .ok (.aload_n 0, 1) := by decide +kernel
theorem d_Mod_nearest_13 : decode b_Mod_nearest 13 = .ok (.getfield 13, 3) := by decide +kernel
theorem d_Mod_nearest_16 : decode b_Mod_nearest 16 = .ok (.iload_n 3, 1) := by decide +kernel
theorem d_Mod_nearest_17 : decode b_Mod_nearest 17 = .ok (.iaload, 1) := by decide +kernel
theorem d_Mod_nearest_18 : decode b_Mod_nearest 18 = .ok (.iload_n 1, 1) := by decide +kernel
theorem d_Mod_nearest_19 : decode b_Mod_nearest 19 = .ok (.if_icmp .ne 35, 3) := by decide +kernel
theorem d_Mod_nearest_22 : decode b_Mod_nearest 22 = .ok (.aload_n 0, 1) := by decide +kernel
theorem d_Mod_nearest_23 : decode b_Mod_nearest 23 = .ok (.getfield 35, 3) := by decide +kernel
theorem d_Mod_nearest_26 : decode b_Mod_nearest 26 = .ok (.iload_n 3, 1) := by decide +kernel
theorem d_Mod_nearest_27 : decode b_Mod_nearest 27 = .ok (.iaload, 1) := by decide +kernel
theorem d_Mod_nearest_28 : decode b_Mod_nearest 28 = .ok (.ldc 99, 2) := by decide +kernel
theorem d_Mod_nearest_30 : decode b_Mod_nearest 30 = .ok (.if_icmp .ge 24, 3) := by decide +kernel
theorem d_Mod_nearest_33 : decode b_Mod_nearest 33 = .ok (.iload_n 2, 1) := by decide +kernel
theorem d_Mod_nearest_34 : decode b_Mod_nearest 34 = .ok (.ifCond .lt 18, 3) := by decide +kernel
theorem d_Mod_nearest_37 : decode b_Mod_nearest 37 = .ok (.aload_n 0, 1) := by decide +kernel
theorem d_Mod_nearest_38 : decode b_Mod_nearest 38 = .ok (.getfield 35, 3) := by decide +kernel
theorem d_Mod_nearest_41 : decode b_Mod_nearest 41 = .ok (.iload_n 3, 1) := by decide +kernel
theorem d_Mod_nearest_42 : decode b_Mod_nearest 42 = .ok (.iaload, 1) := by decide +kernel
theorem d_Mod_nearest_43 : decode b_Mod_nearest 43 = .ok (.aload_n 0, 1) := by decide +kernel
theorem d_Mod_nearest_44 : decode b_Mod_nearest 44 = .ok (.getfield 35, 3) := by decide +kernel
theorem d_Mod_nearest_47 : decode b_Mod_nearest 47 = .ok (.iload_n 2, 1) := by decide +kernel
theorem d_Mod_nearest_48 : decode b_Mod_nearest 48 = .ok (.iaload, 1) := by decide +kernel
theorem d_Mod_nearest_49 : decode b_Mod_nearest 49 = .ok (.if_icmp .ge 5, 3) := by decide +kernel
theorem d_Mod_nearest_52 : decode b_Mod_nearest 52 = .ok (.iload_n 3, 1) := by decide +kernel
theorem d_Mod_nearest_53 : decode b_Mod_nearest 53 = .ok (.istore_n 2, 1) := by decide +kernel
theorem d_Mod_nearest_54 : decode b_Mod_nearest 54 = .ok (.iinc 3 1, 3) := by decide +kernel
theorem d_Mod_nearest_57 : decode b_Mod_nearest 57 = .ok (.goto (-53), 3) := by decide +kernel
theorem d_Mod_nearest_60 : decode b_Mod_nearest 60 = .ok (.iload_n 2, 1) := by decide +kernel
theorem d_Mod_nearest_61 : decode b_Mod_nearest 61 = .ok (.ireturn, 1) := by decide +kernel
theorem d_Mod_into_0 : decode b_Mod_into 0 = .ok (.iconst 0, 1) := by decide +kernel
theorem d_Mod_into_1 : decode b_Mod_into 1 = .ok (.istore_n 2, 1) := by decide +kernel
theorem d_Mod_into_2 : decode b_Mod_into 2 = .ok (.iload_n 2, 1) := by decide +kernel
theorem d_Mod_into_3 : decode b_Mod_into 3 = .ok (.aload_n 0, 1) := by decide +kernel
theorem d_Mod_into_4 : decode b_Mod_into 4 = .ok (.getfield 96, 3) := by decide +kernel
theorem d_Mod_into_7 : decode b_Mod_into 7 = .ok (.if_icmp .ge 86, 3) := by decide +kernel
theorem d_Mod_into_10 : decode b_Mod_into 10 = .ok (.aload_n 0, 1) := by decide +kernel
theorem d_Mod_into_11 : decode b_Mod_into 11 = .ok (.getfield 19, 3) := by decide +kernel
theorem d_Mod_into_14 : decode b_Mod_into 14 = .ok (.iload_n 2, 1) := by decide +kernel
theorem d_Mod_into_15 : decode b_Mod_into 15 = .ok (.iaload, 1) := by decide +kernel
theorem d_Mod_into_16 : decode b_Mod_into 16 = .ok (.iload_n 1, 1) := by decide +kernel
theorem d_Mod_into_17 : decode b_Mod_into 17 = .ok (.if_icmp .ne 12, 3) := by decide +kernel
theorem d_Mod_into_20 : decode b_Mod_into 20 = .ok (.aload_n 0, 1) := by decide +kernel
theorem d_Mod_into_21 : decode b_Mod_into 21 = .ok (.getfield 22, 3) := by decide +kernel
theorem d_Mod_into_24 : decode b_Mod_into 24 = .ok (.iload_n 2, 1) := by decide +kernel
theorem d_Mod_into_25 : decode b_Mod_into 25 = .ok (.iaload, 1) := by decide +kernel
theorem d_Mod_into_26 : decode b_Mod_into 26 = .ok (.goto 9, 3) := by decide +kernel
theorem d_Mod_into_29 : decode b_Mod_into 29 = .ok (.aload_n 0, 1) := by decide +kernel
theorem d_Mod_into_30 : decode b_Mod_into 30 = .ok (.getfield 19, 3) := by decide +kernel
theorem d_Mod_into_33 : decode b_Mod_into 33 = .ok (.iload_n 2, 1) := by decide +kernel
theorem d_Mod_into_34 : decode b_Mod_into 34 = .ok (.iaload, 1) := by decide +kernel
theorem d_Mod_into_35 : decode b_Mod_into 35 = .ok (.istore_n 3, 1) := by decide +kernel
theorem d_Mod_into_36 : decode b_Mod_into 36 = .ok (.aload_n 0, 1) := by decide +kernel
theorem d_Mod_into_37 : decode b_Mod_into 37 = .ok (.getfield 19, 3) := by decide +kernel
theorem d_Mod_into_40 : decode b_Mod_into 40 = .ok (.iload_n 2, 1) := by decide +kernel
theorem d_Mod_into_41 : decode b_Mod_into 41 = .ok (.iaload, 1) := by decide +kernel
theorem d_Mod_into_42 : decode b_Mod_into 42 = .ok (.iload_n 1, 1) := by decide +kernel
theorem d_Mod_into_43 : decode b_Mod_into 43 = .ok (.if_icmp .eq 13, 3) := by decide +kernel
theorem d_Mod_into_46 : decode b_Mod_into 46 = .ok (.aload_n 0, 1) := by decide +kernel
theorem d_Mod_into_47 : decode b_Mod_into 47 = .ok (.getfield 22, 3) := by decide +kernel
theorem d_Mod_into_50 : decode b_Mod_into 50 = .ok (.iload_n 2, 1) := by decide +kernel
theorem d_Mod_into_51 : decode b_Mod_into 51 = .ok (.iaload, 1) := by decide +kernel
theorem d_Mod_into_52 : decode b_Mod_into 52 = .ok (.iload_n 1, 1) := by decide +kernel
theorem d_Mod_into_53 : decode b_Mod_into 53 = .ok (.if_icmp .ne 34, 3) := by decide +kernel
theorem d_Mod_into_56 : decode b_Mod_into 56 = .ok (.aload_n 0, 1) := by decide +kernel
theorem d_Mod_into_57 : decode b_Mod_into 57 = .ok (.iload_n 2, 1) := by decide +kernel
theorem d_Mod_into_58 : decode b_Mod_into 58 = .ok (.invokevirtual 100, 3) := by decide +kernel
theorem d_Mod_into_61 : decode b_Mod_into 61 = .ok (.ifCond .eq 26, 3) := by decide +kernel
theorem d_Mod_into_64 : decode b_Mod_into 64 = .ok (.aload_n 0, 1) := by decide +kernel
theorem d_Mod_into_65 : decode b_Mod_into 65 = .ok (.getfield 35, 3) := by decide +kernel
theorem d_Mod_into_68 : decode b_Mod_into 68 = .ok (.iload_n 3, 1) := by decide +kernel
theorem d_Mod_into_69 : decode b_Mod_into 69 = .ok (.iaload, 1) := by decide +kernel
theorem d_Mod_into_70 : decode b_Mod_into 70 = .ok (.aload_n 0, 1) := by decide +kernel
theorem d_Mod_into_71 : decode b_Mod_into 71 = .ok (.iload_n 2, 1) := by decide +kernel
theorem d_Mod_into_72 : decode b_Mod_into 72 = .ok (.invokevirtual 103, 3) := by decide +kernel
theorem d_Mod_into_75 : decode b_Mod_into 75 = .ok (.iadd, 1) := by decide +kernel
theorem d_Mod_into_76 : decode b_Mod_into 76 = .ok (.aload_n 0, 1) := by decide +kernel
theorem d_Mod_into_77 : decode b_Mod_into 77 = .ok (.getfield 35, 3) := by decide +kernel
theorem d_Mod_into_80 : decode b_Mod_into 80 = .ok (.iload_n 1, 1) := by decide +kernel
theorem d_Mod_into_81 : decode b_Mod_into 81 = .ok (.iaload, 1) := by decide +kernel
theorem d_Mod_into_82 : decode b_Mod_into 82 = .ok (.if_icmp .ne 5, 3) := by decide +kernel
theorem d_Mod_into_85 : decode b_Mod_into 85 = .ok (.iload_n 2, 1) := by decide +kernel
theorem d_Mod_into_86 : decode b_Mod_into 86 = .ok (.ireturn, 1) := by decide +kernel
theorem d_Mod_into_87 : decode b_Mod_into 87 = .ok (.iinc 2 1, 3) := by decide +kernel
theorem d_Mod_into_90 : decode b_Mod_into 90 = .ok (.goto (-88), 3) := by decide +kernel
theorem d_Mod_into_93 : decode b_Mod_into 93 = .ok (.iconst (-1), 1) := by decide +kernel
theorem d_Mod_into_94 : decode b_Mod_into 94 = .ok (.ireturn, 1) := by decide +kernel
theorem d_Mod_way_0 : decode b_Mod_way 0 = .ok (.aload_n 0, 1) := by decide +kernel
theorem d_Mod_way_1 : decode b_Mod_way 1 = .ok (.aload_n 0, 1) := by decide +kernel
theorem d_Mod_way_2 : decode b_Mod_way 2 = .ok (.iload_n 1, 1) := by decide +kernel
theorem d_Mod_way_3 : decode b_Mod_way 3 = .ok (.invokevirtual 92, 3) := by decide +kernel
theorem d_Mod_way_6 : decode b_Mod_way 6 = .ok (.ifCond .eq 12, 3) := by decide +kernel
theorem d_Mod_way_9 : decode b_Mod_way 9 = .ok (.iload_n 2, 1) := by decide +kernel
theorem d_Mod_way_10 : decode b_Mod_way 10 = .ok (.iconst 0, 1) := by decide +kernel
theorem d_Mod_way_11 : decode b_Mod_way 11 = .ok (.iconst 2, 1) := by decide +kernel
theorem d_Mod_way_12 : decode b_Mod_way 12 = .ok (.invokestatic 84, 3) := by decide +kernel
theorem d_Mod_way_15 : decode b_Mod_way 15 = .ok (.ifCond .ne 7, 3) := by decide +kernel
theorem d_Mod_way_18 : decode b_Mod_way 18 = .ok (.iconst 1, 1) := by decide +kernel
theorem d_Mod_way_19 : decode b_Mod_way 19 = .ok (.goto 4, 3) := by decide +kernel
theorem d_Mod_way_22 : decode b_Mod_way 22 = .ok (.iconst 0, 1) := by decide +kernel
theorem d_Mod_way_23 : decode b_Mod_way 23 = .ok (.iload_n 3, 1) := by decide +kernel
theorem d_Mod_way_24 : decode b_Mod_way 24 = .ok (.iconst 0, 1) := by decide +kernel
theorem d_Mod_way_25 : decode b_Mod_way 25 = .ok (.sipush 255, 3) := by decide +kernel
theorem d_Mod_way_28 : decode b_Mod_way 28 = .ok (.invokestatic 84, 3) := by decide +kernel
theorem d_Mod_way_31 : decode b_Mod_way 31 = .ok (.ifCond .ne 7, 3) := by decide +kernel
theorem d_Mod_way_34 : decode b_Mod_way 34 = .ok (.iconst 1, 1) := by decide +kernel
theorem d_Mod_way_35 : decode b_Mod_way 35 = .ok (.goto 4, 3) := by decide +kernel
theorem d_Mod_way_38 : decode b_Mod_way 38 = .ok (.iconst 0, 1) := by decide +kernel
theorem d_Mod_way_39 : decode b_Mod_way 39 = .ok (.iconst 0, 1) := by decide +kernel
theorem d_Mod_way_40 : decode b_Mod_way 40 = .ok (.iconst 0, 1) := by decide +kernel
theorem d_Mod_way_41 : decode b_Mod_way 41 = .ok (.invokevirtual 88, 3) := by decide +kernel
theorem d_Mod_way_44 : decode b_Mod_way 44 = .ok (.ifCond .eq 5, 3) := by decide +kernel
theorem d_Mod_way_47 : decode b_Mod_way 47 = .ok (.iconst 0, 1) := by decide +kernel
theorem d_Mod_way_48 : decode b_Mod_way 48 = .ok (.ireturn, 1) := by decide +kernel
theorem d_Mod_way_49 : decode b_Mod_way 49 = .ok (.aload_n 0, 1) := by decide +kernel
theorem d_Mod_way_50 : decode b_Mod_way 50 = .ok (.iload_n 1, 1) := by decide +kernel
theorem d_Mod_way_51 : decode b_Mod_way 51 = .ok (.iload_n 3, 1) := by decide +kernel
theorem d_Mod_way_52 : decode b_Mod_way 52 = .ok (.invokevirtual 107, 3) := by decide +kernel
theorem d_Mod_way_55 : decode b_Mod_way 55 = .ok (.aload_n 0, 1) := by decide +kernel
theorem d_Mod_way_56 : decode b_Mod_way 56 = .ok (.aload_n 0, 1) := by decide +kernel
theorem d_Mod_way_57 : decode b_Mod_way 57 = .ok (.iload_n 2, 1) := by decide +kernel
theorem d_Mod_way_58 : decode b_Mod_way 58 = .ok (.invokevirtual 111, 3) := by decide +kernel
theorem d_Mod_way_61 : decode b_Mod_way 61 = .ok (.putfield 41, 3) := by decide +kernel
theorem d_Mod_way_64 : decode b_Mod_way 64 = .ok (.aload_n 0, 1) := by decide +kernel
theorem d_Mod_way_65 : decode b_Mod_way 65 = .ok (.iconst 0, 1) := by decide +kernel
theorem d_Mod_way_66 : decode b_Mod_way 66 = .ok (.putfield 114, 3) := by decide +kernel
theorem d_Mod_way_69 : decode b_Mod_way 69 = .ok (.aload_n 0, 1) := by decide +kernel
theorem d_Mod_way_70 : decode b_Mod_way 70 = .ok (.iconst 0, 1) := by decide +kernel
theorem d_Mod_way_71 : decode b_Mod_way 71 = .ok (.putfield 117, 3) := by decide +kernel
theorem d_Mod_way_74 : decode b_Mod_way 74 = .ok (.aload_n 0, 1) := by decide +kernel
theorem d_Mod_way_75 : decode b_Mod_way 75 = .ok (.getfield 41, 3) := by decide +kernel
theorem d_Mod_way_78 : decode b_Mod_way 78 = .ok (.ifCond .ge 5, 3) := by decide +kernel
theorem d_Mod_way_81 : decode b_Mod_way 81 = .ok (.iconst (-1), 1) := by decide +kernel
theorem d_Mod_way_82 : decode b_Mod_way 82 = .ok (.ireturn, 1) := by decide +kernel
theorem d_Mod_way_83 : decode b_Mod_way 83 = .ok (.aload_n 0, 1) := by decide +kernel
theorem d_Mod_way_84 : decode b_Mod_way 84 = .ok (.aload_n 0, 1) := by decide +kernel
theorem d_Mod_way_85 : decode b_Mod_way 85 = .ok (.getfield 35, 3) := by decide +kernel
theorem d_Mod_way_88 : decode b_Mod_way 88 = .ok (.aload_n 0, 1) := by decide +kernel
theorem d_Mod_way_89 : decode b_Mod_way 89 = .ok (.getfield 41, 3) := by decide +kernel
theorem d_Mod_way_92 : decode b_Mod_way 92 = .ok (.iaload, 1) := by decide +kernel
theorem d_Mod_way_93 : decode b_Mod_way 93 = .ok (.bipush 100, 2) := by decide +kernel
theorem d_Mod_way_95 : decode b_Mod_way 95 = .ok (.irem, 1) := by decide +kernel
theorem d_Mod_way_96 : decode b_Mod_way 96 = .ok (.putfield 117, 3) := by decide +kernel
theorem d_Mod_way_99 : decode b_Mod_way 99 = .ok (.aload_n 0, 1) := by decide +kernel
theorem d_Mod_way_100 : decode b_Mod_way 100 = .ok (.getfield 41, 3) := by decide +kernel
theorem d_Mod_way_103 : decode b_Mod_way 103 = .ok (.istore 4, 2) := by decide +kernel
theorem d_Mod_way_105 : decode b_Mod_way 105 = .ok (.iload 4, 2) := by decide +kernel
theorem d_Mod_way_107 : decode b_Mod_way 107 = .ok (.iload_n 1, 1) := by decide +kernel
theorem d_Mod_way_108 : decode b_Mod_way 108 = .ok (.if_icmp .eq 66, 3) := by decide +kernel
theorem d_Mod_way_111 : decode b_Mod_way 111 = .ok (.aload_n 0, 1) := by decide +kernel
theorem d_Mod_way_112 : decode b_Mod_way 112 = .ok (.iload 4, 2) := by decide +kernel
theorem d_Mod_way_114 : decode b_Mod_way 114 = .ok (.invokevirtual 120, 3) := by decide +kernel
theorem d_Mod_way_117 : decode b_Mod_way 117 = .ok (.istore 5, 2) := by decide +kernel
theorem d_Mod_way_119 : decode b_Mod_way 119 = .ok (.aload_n 0, 1) := by decide +kernel
theorem d_Mod_way_120 : decode b_Mod_way 120 = .ok (.getfield 38, 3) := by decide +kernel
theorem d_Mod_way_123 : decode b_Mod_way 123 = .ok (.aload_n 0, 1) := by decide +kernel
theorem d_Mod_way_124 : decode b_Mod_way 124 = .ok (.getfield 114, 3) := by decide +kernel
theorem d_Mod_way_127 : decode b_Mod_way 127 = .ok (.iload 5, 2) := by decide +kernel
theorem d_Mod_way_129 : decode b_Mod_way 129 = .ok (.iastore, 1) := by decide +kernel
theorem d_Mod_way_130 : decode b_Mod_way 130 = .ok (.aload_n 0, 1) := by decide +kernel
theorem d_Mod_way_131 : decode b_Mod_way 131 = .ok (.dup, 1) := by decide +kernel
theorem d_Mod_way_132 : decode b_Mod_way 132 = .ok (.getfield 114, 3) := by decide +kernel
theorem d_Mod_way_135 : decode b_Mod_way 135 = .ok (.iconst 1, 1) := by decide +kernel
theorem d_Mod_way_136 : decode b_Mod_way 136 = .ok (.iadd, 1) := by decide +kernel
theorem d_Mod_way_137 : decode b_Mod_way 137 = .ok (.putfield 114, 3) := by decide +kernel
theorem d_Mod_way_140 : decode b_Mod_way 140 = .ok (.aload_n 0, 1) := by decide +kernel
theorem d_Mod_way_141 : decode b_Mod_way 141 = .ok (.getfield 19, 3) := by decide +kernel
theorem d_Mod_way_144 : decode b_Mod_way 144 = .ok (.iload 5, 2) := by decide +kernel
theorem d_Mod_way_146 : decode b_Mod_way 146 = .ok (.iaload, 1) := by decide +kernel
theorem d_Mod_way_147 : decode b_Mod_way 147 = .ok (.iload 4, 2) := by decide +kernel
theorem d_Mod_way_149 : decode b_Mod_way 149 = .ok (.if_icmp .ne 13, 3) := by decide +kernel
theorem d_Mod_way_152 : decode b_Mod_way 152 = .ok (.aload_n 0, 1) := by decide +kernel
theorem d_Mod_way_153 : decode b_Mod_way 153 = .ok (.getfield 22, 3) := by decide +kernel
theorem d_Mod_way_156 : decode b_Mod_way 156 = .ok (.iload 5, 2) := by decide +kernel
theorem d_Mod_way_158 : decode b_Mod_way 158 = .ok (.iaload, 1) := by decide +kernel
theorem d_Mod_way_159 : decode b_Mod_way 159 = .ok (.goto 10, 3) := by decide +kernel
theorem d_Mod_way_162 : decode b_Mod_way 162 = .ok (.aload_n 0, 1) := by decide +kernel
theorem d_Mod_way_163 : decode b_Mod_way 163 = .ok (.getfield 19, 3) := by decide +kernel
theorem d_Mod_way_166 : decode b_Mod_way 166 = .ok (.iload 5, 2) := by decide +kernel
theorem d_Mod_way_168 : decode b_Mod_way 168 = .ok (.iaload, 1) := by decide +kernel
theorem d_Mod_way_169 : decode b_Mod_way 169 = .ok (.istore 4, 2) := by decide +kernel
theorem d_Mod_way_171 : decode b_Mod_way 171 = .ok (.goto (-66), 3) := by decide +kernel
theorem d_Mod_way_174 : decode b_Mod_way 174 = .ok (.aload_n 0, 1) := by decide +kernel
theorem d_Mod_way_175 : decode b_Mod_way 175 = .ok (.getfield 35, 3) := by decide +kernel
theorem d_Mod_way_178 : decode b_Mod_way 178 = .ok (.aload_n 0, 1) := by decide +kernel
theorem d_Mod_way_179 : decode b_Mod_way 179 = .ok (.getfield 41, 3) := by decide +kernel
theorem d_Mod_way_182 : decode b_Mod_way 182 = .ok (.iaload, 1) := by decide +kernel
theorem d_Mod_way_183 : decode b_Mod_way 183 = .ok (.bipush 100, 2) := by decide +kernel
theorem d_Mod_way_185 : decode b_Mod_way 185 = .ok (.idiv, 1) := by decide +kernel
theorem d_Mod_way_186 : decode b_Mod_way 186 = .ok (.ireturn, 1) := by decide +kernel
theorem d_Mod_step_0 : decode b_Mod_step 0 = .ok (.aload_n 0, 1) := by decide +kernel
theorem d_Mod_step_1 : decode b_Mod_step 1 = .ok (.iload_n 1, 1) := by decide +kernel
theorem d_Mod_step_2 : decode b_Mod_step 2 = .ok (.ifCond .ge 7, 3) := by decide +kernel
theorem d_Mod_step_5 : decode b_Mod_step 5 = .ok (.iconst 1, 1) := by decide +kernel
theorem d_Mod_step_6 : decode b_Mod_step 6 = .ok (.goto 4, 3) := by decide +kernel
theorem d_Mod_step_9 : decode b_Mod_step 9 = .ok (.iconst 0, 1) := by decide +kernel
theorem d_Mod_step_10 : decode b_Mod_step 10 = .ok (.iconst 0, 1) := by decide +kernel
theorem d_Mod_step_11 : decode b_Mod_step 11 = .ok (.iconst 0, 1) := by decide +kernel
theorem d_Mod_step_12 : decode b_Mod_step 12 = .ok (.iconst 0, 1) := by decide +kernel
theorem d_Mod_step_13 : decode b_Mod_step 13 = .ok (.invokevirtual 88, 3) := by decide +kernel
theorem d_Mod_step_16 : decode b_Mod_step 16 = .ok (.ifCond .eq 5, 3) := by decide +kernel
theorem d_Mod_step_19 : decode b_Mod_step 19 = .ok (.iconst 0, 1) := by decide +kernel
theorem d_Mod_step_20 : decode b_Mod_step 20 = .ok (.ireturn, 1) := by decide +kernel
theorem d_Mod_step_21 : decode b_Mod_step 21 = .ok (.iload_n 1, 1) := by decide +kernel
theorem d_Mod_step_22 : decode b_Mod_step 22 = .ok (.aload_n 0, 1) := by decide +kernel
theorem d_Mod_step_23 : decode b_Mod_step 23 = .ok (.getfield 114, 3) := by decide +kernel
theorem d_Mod_step_26 : decode b_Mod_step 26 = .ok (.if_icmp .ge 19, 3) := by decide +kernel
theorem d_Mod_step_29 : decode b_Mod_step 29 = .ok (.aload_n 0, 1) := by decide +kernel
theorem d_Mod_step_30 : decode b_Mod_step 30 = .ok (.getfield 38, 3) := by decide +kernel
theorem d_Mod_step_33 : decode b_Mod_step 33 = .ok (.aload_n 0, 1) := by decide +kernel
theorem d_Mod_step_34 : decode b_Mod_step 34 = .ok (.getfield 114, 3) := by decide +kernel
theorem d_Mod_step_37 : decode b_Mod_step 37 = .ok (.iconst 1, 1) := by decide +kernel
theorem d_Mod_step_38 : decode b_Mod_step 38 = .ok (.isub, 1) := by decide +kernel
theorem d_Mod_step_39 : decode b_Mod_step 39 = .ok (.iload_n 1, 1) := by decide +kernel
theorem d_Mod_step_40 : decode b_Mod_step 40 = .ok (.isub, 1) := by decide +kernel
theorem d_Mod_step_41 : decode b_Mod_step 41 = .ok (.iaload, 1) := by decide +kernel
theorem d_Mod_step_42 : decode b_Mod_step 42 = .ok (.goto 4, 3) := by decide +kernel
theorem d_Mod_step_45 : decode b_Mod_step 45 = .ok (.iconst (-1), 1) := by decide +kernel
theorem d_Mod_step_46 : decode b_Mod_step 46 = .ok (.ireturn, 1) := by decide +kernel
theorem d_Mod_told_0 : decode b_Mod_told 0 = .ok (.aload_n 0, 1) := by decide +kernel
theorem d_Mod_told_1 : decode b_Mod_told 1 = .ok (.iload_n 1, 1) := by decide +kernel
theorem d_Mod_told_2 : decode b_Mod_told 2 = .ok (.iconst 0, 1) := by decide +kernel
theorem d_Mod_told_3 : decode b_Mod_told 3 = .ok (.iconst 2, 1) := by decide +kernel
theorem d_Mod_told_4 : decode b_Mod_told 4 = .ok (.invokestatic 84, 3) := by decide +kernel
theorem d_Mod_told_7 : decode b_Mod_told 7 = .ok (.ifCond .ne 7, 3) := by decide +kernel
theorem d_Mod_told_10 : decode b_Mod_told 10 = .ok (.iconst 1, 1) := by decide +kernel
theorem d_Mod_told_11 : decode b_Mod_told 11 = .ok (.goto 4, 3) := by decide +kernel
theorem d_Mod_told_14 : decode b_Mod_told 14 = .ok (.iconst 0, 1) := by decide +kernel
theorem d_Mod_told_15 : decode b_Mod_told 15 = .ok (.iconst 0, 1) := by decide +kernel
theorem d_Mod_told_16 : decode b_Mod_told 16 = .ok (.iconst 0, 1) := by decide +kernel
theorem d_Mod_told_17 : decode b_Mod_told 17 = .ok (.iconst 0, 1) := by decide +kernel
theorem d_Mod_told_18 : decode b_Mod_told 18 = .ok (.invokevirtual 88, 3) := by decide +kernel
theorem d_Mod_told_21 : decode b_Mod_told 21 = .ok (.ifCond .eq 5, 3) := by decide +kernel
theorem d_Mod_told_24 : decode b_Mod_told 24 = .ok (.iconst 0, 1) := by decide +kernel
theorem d_Mod_told_25 : decode b_Mod_told 25 = .ok (.ireturn, 1) := by decide +kernel
theorem d_Mod_told_26 : decode b_Mod_told 26 = .ok (.iload_n 1, 1) := by decide +kernel
theorem d_Mod_told_27 : decode b_Mod_told 27 = .ok (.ifCond .ne 10, 3) := by decide +kernel
theorem d_Mod_told_30 : decode b_Mod_told 30 = .ok (.aload_n 0, 1) := by decide +kernel
theorem d_Mod_told_31 : decode b_Mod_told 31 = .ok (.getfield 114, 3) := by decide +kernel
theorem d_Mod_told_34 : decode b_Mod_told 34 = .ok (.goto 19, 3) := by decide +kernel
theorem d_Mod_told_37 : decode b_Mod_told 37 = .ok (.iload_n 1, 1) := by decide +kernel
theorem d_Mod_told_38 : decode b_Mod_told 38 = .ok (.iconst 1, 1) := by decide +kernel
theorem d_Mod_told_39 : decode b_Mod_told 39 = .ok (.if_icmp .ne 10, 3) := by decide +kernel
theorem d_Mod_told_42 : decode b_Mod_told 42 = .ok (.aload_n 0, 1) := by decide +kernel
theorem d_Mod_told_43 : decode b_Mod_told 43 = .ok (.getfield 117, 3) := by decide +kernel
theorem d_Mod_told_46 : decode b_Mod_told 46 = .ok (.goto 7, 3) := by decide +kernel
theorem d_Mod_told_49 : decode b_Mod_told 49 = .ok (.aload_n 0, 1) := by decide +kernel
theorem d_Mod_told_50 : decode b_Mod_told 50 = .ok (.getfield 41, 3) := by decide +kernel
theorem d_Mod_told_53 : decode b_Mod_told 53 = .ok (.ireturn, 1) := by decide +kernel
theorem d_Mod_hoses_0 : decode b_Mod_hoses 0 = .ok (.aload_n 0, 1) := by decide +kernel
theorem d_Mod_hoses_1 : decode b_Mod_hoses 1 = .ok (.aload_n 0, 1) := by decide +kernel
theorem d_Mod_hoses_2 : decode b_Mod_hoses 2 = .ok (.iload_n 1, 1) := by decide +kernel
theorem d_Mod_hoses_3 : decode b_Mod_hoses 3 = .ok (.invokevirtual 92, 3) := by decide +kernel
theorem d_Mod_hoses_6 : decode b_Mod_hoses 6 = .ok (.ifCond .ne 7, 3) := by decide +kernel
theorem d_Mod_hoses_9 : decode b_Mod_hoses 9 = .ok (.iconst 1, 1) := by decide +kernel
theorem d_Mod_hoses_10 : decode b_Mod_hoses 10 = .ok (.goto 4, 3) := by decide +kernel
theorem d_Mod_hoses_13 : decode b_Mod_hoses 13 = .ok (.iconst 0, 1) := by decide +kernel
theorem d_Mod_hoses_14 : decode b_Mod_hoses 14 = .ok (.iload_n 2, 1) := by decide +kernel
theorem d_Mod_hoses_15 : decode b_Mod_hoses 15 = .ok (.iconst 1, 1) := by decide +kernel
theorem d_Mod_hoses_16 : decode b_Mod_hoses 16 = .ok (.bipush 100, 2) := by decide +kernel
theorem d_Mod_hoses_18 : decode b_Mod_hoses 18 = .ok (.invokestatic 84, 3) := by decide +kernel
theorem d_Mod_hoses_21 : decode b_Mod_hoses 21 = .ok (.ifCond .ne 7, 3) := by decide +kernel
theorem d_Mod_hoses_24 : decode b_Mod_hoses 24 = .ok (.iconst 1, 1) := by decide +kernel
theorem d_Mod_hoses_25 : decode b_Mod_hoses 25 = .ok (.goto 4, 3) := by decide +kernel
theorem d_Mod_hoses_28 : decode b_Mod_hoses 28 = .ok (.iconst 0, 1) := by decide +kernel
theorem d_Mod_hoses_29 : decode b_Mod_hoses 29 = .ok (.iconst 0, 1) := by decide +kernel
theorem d_Mod_hoses_30 : decode b_Mod_hoses 30 = .ok (.iconst 0, 1) := by decide +kernel
theorem d_Mod_hoses_31 : decode b_Mod_hoses 31 = .ok (.invokevirtual 88, 3) := by decide +kernel
theorem d_Mod_hoses_34 : decode b_Mod_hoses 34 = .ok (.ifCond .eq 5, 3) := by decide +kernel
theorem d_Mod_hoses_37 : decode b_Mod_hoses 37 = .ok (.iconst 0, 1) := by decide +kernel
theorem d_Mod_hoses_38 : decode b_Mod_hoses 38 = .ok (.ireturn, 1) := by decide +kernel
theorem d_Mod_hoses_39 : decode b_Mod_hoses 39 = .ok (.aload_n 0, 1) := by decide +kernel
theorem d_Mod_hoses_40 : decode b_Mod_hoses 40 = .ok (.iload_n 1, 1) := by decide +kernel
theorem d_Mod_hoses_41 : decode b_Mod_hoses 41 = .ok (.iconst 0, 1) := by decide +kernel
theorem d_Mod_hoses_42 : decode b_Mod_hoses 42 = .ok (.invokevirtual 107, 3) := by decide +kernel
theorem d_Mod_hoses_45 : decode b_Mod_hoses 45 = .ok (.aload_n 0, 1) := by decide +kernel
theorem d_Mod_hoses_46 : decode b_Mod_hoses 46 = .ok (.iconst 1, 1) := by decide +kernel
theorem d_Mod_hoses_47 : decode b_Mod_hoses 47 = .ok (.invokevirtual 111, 3) := by decide +kernel
theorem d_Mod_hoses_50 : decode b_Mod_hoses 50 = .ok (.istore_n 3, 1) := by decide +kernel
theorem d_Mod_hoses_51 : decode b_Mod_hoses 51 = .ok (.iload_n 3, 1) := by decide +kernel
theorem d_Mod_hoses_52 : decode b_Mod_hoses 52 = .ok (.ifCond .ge 7, 3) := by decide +kernel
theorem d_Mod_hoses_55 : decode b_Mod_hoses 55 = .ok (.iconst (-1), 1) := by decide +kernel
theorem d_Mod_hoses_56 : decode b_Mod_hoses 56 = .ok (.goto 18, 3) := by decide +kernel
theorem d_Mod_hoses_59 : decode b_Mod_hoses 59 = .ok (.aload_n 0, 1) := by decide +kernel
theorem d_Mod_hoses_60 : decode b_Mod_hoses 60 = .ok (.getfield 35, 3) := by decide +kernel
theorem d_Mod_hoses_63 : decode b_Mod_hoses 63 = .ok (.iload_n 3, 1) := by decide +kernel
theorem d_Mod_hoses_64 : decode b_Mod_hoses 64 = .ok (.iaload, 1) := by decide +kernel
theorem d_Mod_hoses_65 : decode b_Mod_hoses 65 = .ok (.bipush 100, 2) := by decide +kernel
theorem d_Mod_hoses_67 : decode b_Mod_hoses 67 = .ok (.idiv, 1) := by decide +kernel
theorem d_Mod_hoses_68 : decode b_Mod_hoses 68 = .ok (.iload_n 2, 1) := by decide +kernel
theorem d_Mod_hoses_69 : decode b_Mod_hoses 69 = .ok (.iadd, 1) := by decide +kernel
theorem d_Mod_hoses_70 : decode b_Mod_hoses 70 = .ok (.iconst 1, 1) := by decide +kernel
theorem d_Mod_hoses_71 : decode b_Mod_hoses 71 = .ok (.isub, 1) := by decide +kernel
theorem d_Mod_hoses_72 : decode b_Mod_hoses 72 = .ok (.iload_n 2, 1) := by decide +kernel
theorem d_Mod_hoses_73 : decode b_Mod_hoses 73 = .ok (.idiv, 1) := by decide +kernel
theorem d_Mod_hoses_74 : decode b_Mod_hoses 74 = .ok (.ireturn, 1) := by decide +kernel
theorem d_Mod_trapped_0 : decode b_Mod_trapped 0 = .ok (.aload_n 0, 1) := by decide +kernel
theorem d_Mod_trapped_1 : decode b_Mod_trapped 1 = .ok (.iload_n 1, 1) := by decide +kernel
theorem d_Mod_trapped_2 : decode b_Mod_trapped 2 = .ok (.ifCond .ge 7, 3) := by decide +kernel
theorem d_Mod_trapped_5 : decode b_Mod_trapped 5 = .ok (.iconst 1, 1) := by decide +kernel
theorem d_Mod_trapped_6 : decode b_Mod_trapped 6 = .ok (.goto 4, 3) := by decide +kernel
theorem d_Mod_trapped_9 : decode b_Mod_trapped 9 = .ok (.iconst 0, 1) := by decide +kernel
theorem d_Mod_trapped_10 : decode b_Mod_trapped 10 = .ok (.iconst 0, 1) := by decide +kernel
theorem d_Mod_trapped_11 : decode b_Mod_trapped 11 = .ok (.iconst 0, 1) := by decide +kernel
theorem d_Mod_trapped_12 : decode b_Mod_trapped 12 = .ok (.iconst 0, 1) := by decide +kernel
theorem d_Mod_trapped_13 : decode b_Mod_trapped 13 = .ok (.invokevirtual 88, 3) := by decide +kernel
theorem d_Mod_trapped_16 : decode b_Mod_trapped 16 = .ok (.ifCond .eq 5, 3) := by decide +kernel
theorem d_Mod_trapped_19 : decode b_Mod_trapped 19 = .ok (.iconst 0, 1) := by decide +kernel
theorem d_Mod_trapped_20 : decode b_Mod_trapped 20 = .ok (.ireturn, 1) := by decide +kernel
theorem d_Mod_trapped_21 : decode b_Mod_trapped 21 = .ok (.iload_n 1, 1) := by decide +kernel
theorem d_Mod_trapped_22 : decode b_Mod_trapped 22 = .ok (.istore_n 2, 1) := by decide +kernel
theorem d_Mod_trapped_23 : decode b_Mod_trapped 23 = .ok (.iconst 0, 1) := by decide +kernel
theorem d_Mod_trapped_24 : decode b_Mod_trapped 24 = .ok (.istore_n 3, 1) := by decide +kernel
theorem d_Mod_trapped_25 : decode b_Mod_trapped 25 = .ok (.iload_n 3, 1) := by decide +kernel
theorem d_Mod_trapped_26 : decode b_Mod_trapped 26 = .ok (.aload_n 0, 1) := by decide +kernel
theorem d_Mod_trapped_27 : decode b_Mod_trapped 27 = .ok (.getfield 81, 3) := by decide +kernel
theorem d_Mod_trapped_30 : decode b_Mod_trapped 30 = .ok (.if_icmp .ge 42, 3) := by decide +kernel
theorem d_Mod_trapped_33 : decode b_Mod_trapped 33 = .ok (.aload_n 0, 1) := by decide +kernel
theorem d_Mod_trapped_34 : decode b_Mod_trapped 34 = .ok (.iload_n 3, 1) := by decide +kernel
theorem d_Mod_trapped_35 : decode b_Mod_trapped 35 = .ok (.iconst 0, 1) := by decide +kernel
theorem d_Mod_trapped_36 : decode b_Mod_trapped 36 = .ok (.invokevirtual 107, 3) := by decide +kernel
theorem d_Mod_trapped_39 : decode b_Mod_trapped 39 = .ok (.aload_n 0, 1) := by decide +kernel
theorem d_Mod_trapped_40 : decode b_Mod_trapped 40 = .ok (.getfield 13, 3) := by decide +kernel
theorem d_Mod_trapped_43 : decode b_Mod_trapped 43 = .ok (.iload_n 3, 1) := by decide +kernel
theorem d_Mod_trapped_44 : decode b_Mod_trapped 44 = .ok (.iaload, 1) := by decide +kernel
theorem d_Mod_trapped_45 : decode b_Mod_trapped 45 = .ok (.iconst 2, 1) := by decide +kernel
theorem d_Mod_trapped_46 : decode b_Mod_trapped 46 = .ok (.if_icmp .ge 20, 3) := by decide +kernel
theorem d_Mod_trapped_49 : decode b_Mod_trapped 49 = .ok (.aload_n 0, 1) := by decide +kernel
theorem d_Mod_trapped_50 : decode b_Mod_trapped 50 = .ok (.iconst 2, 1) := by decide +kernel
theorem d_Mod_trapped_51 : decode b_Mod_trapped 51 = .ok (.invokevirtual 111, 3) := by decide +kernel
theorem d_Mod_trapped_54 : decode b_Mod_trapped 54 = .ok (.ifCond .ge 12, 3) := by decide +kernel
theorem d_Mod_trapped_57 : decode b_Mod_trapped 57 = .ok (.iload_n 2, 1) := by decide +kernel
theorem d_Mod_trapped_58 : decode b_Mod_trapped 58 = .ok (.ifCond .ne 5, 3) := by decide +kernel
theorem d_Mod_trapped_61 : decode b_Mod_trapped 61 = .ok (.iload_n 3, 1) := by decide +kernel
theorem d_Mod_trapped_62 : decode b_Mod_trapped 62 = .ok (.ireturn, 1) := by decide +kernel
theorem d_Mod_trapped_63 : decode b_Mod_trapped 63 = .ok (.iinc 2 (-1), 3) := by decide +kernel
theorem d_Mod_trapped_66 : decode b_Mod_trapped 66 = .ok (.iinc 3 1, 3) := by decide +kernel
theorem d_Mod_trapped_69 : decode b_Mod_trapped 69 = .ok (.goto (-44), 3) := by decide +kernel
theorem d_Mod_trapped_72 : decode b_Mod_trapped 72 = .ok (.iconst (-1), 1) := by decide +kernel
theorem d_Mod_trapped_73 : decode b_Mod_trapped 73 = .ok (.ireturn, 1) := by decide +kernel
theorem d_Mod_missing_0 : decode b_Mod_missing 0 = .ok (.aload_n 0, 1) := by decide +kernel
theorem d_Mod_missing_1 : decode b_Mod_missing 1 = .ok (.iload_n 1, 1) := by decide +kernel
theorem d_Mod_missing_2 : decode b_Mod_missing 2 = .ok (.ifCond .ge 7, 3) := by decide +kernel
theorem d_Mod_missing_5 : decode b_Mod_missing 5 = .ok (.iconst 1, 1) := by decide +kernel
theorem d_Mod_missing_6 : decode b_Mod_missing 6 = .ok (.goto 4, 3) := by decide +kernel
theorem d_Mod_missing_9 : decode b_Mod_missing 9 = .ok (.iconst 0, 1) := by decide +kernel
theorem d_Mod_missing_10 : decode b_Mod_missing 10 = .ok (.iconst 0, 1) := by decide +kernel
theorem d_Mod_missing_11 : decode b_Mod_missing 11 = .ok (.iconst 0, 1) := by decide +kernel
theorem d_Mod_missing_12 : decode b_Mod_missing 12 = .ok (.iconst 0, 1) := by decide +kernel
theorem d_Mod_missing_13 : decode b_Mod_missing 13 = .ok (.invokevirtual 88, 3) := by decide +kernel
theorem d_Mod_missing_16 : decode b_Mod_missing 16 = .ok (.ifCond .eq 5, 3) := by decide +kernel
theorem d_Mod_missing_19 : decode b_Mod_missing 19 = .ok (.iconst 0, 1) := by decide +kernel
theorem d_Mod_missing_20 : decode b_Mod_missing 20 = .ok (.ireturn, 1) := by decide +kernel
theorem d_Mod_missing_21 : decode b_Mod_missing 21 = .ok (.iload_n 1, 1) := by decide +kernel
theorem d_Mod_missing_22 : decode b_Mod_missing 22 = .ok (.istore_n 2, 1) := by decide +kernel
theorem d_Mod_missing_23 : decode b_Mod_missing 23 = .ok (.iconst 1, 1) := by decide +kernel
theorem d_Mod_missing_24 : decode b_Mod_missing 24 = .ok (.istore_n 3, 1) := by decide +kernel
theorem d_Mod_missing_25 : decode b_Mod_missing 25 = .ok (.iload_n 3, 1) := by decide +kernel
theorem d_Mod_missing_26 : decode b_Mod_missing 26 = .ok (.bipush 30, 2) := by decide +kernel
theorem d_Mod_missing_28 : decode b_Mod_missing 28 = .ok (.if_icmp .gt 76, 3) := by decide +kernel
theorem d_Mod_missing_31 : decode b_Mod_missing 31 = .ok (.iconst 0, 1) := by decide +kernel
theorem d_Mod_missing_32 : decode b_Mod_missing 32 = .ok (.istore 4, 2) := by decide +kernel
theorem d_Mod_missing_34 : decode b_Mod_missing 34 = .ok (.iconst 0, 1) := by decide +kernel
theorem d_Mod_missing_35 : decode b_Mod_missing 35 = .ok (.istore 5, 2) := by decide +kernel
theorem d_Mod_missing_37 : decode b_Mod_missing 37 = .ok (.iload 5, 2) := by decide +kernel
theorem d_Mod_missing_39 : decode b_Mod_missing 39 = .ok (.aload_n 0, 1) := by decide +kernel
theorem d_Mod_missing_40 : decode b_Mod_missing 40 = .ok (.getfield 96, 3) := by decide +kernel
theorem d_Mod_missing_43 : decode b_Mod_missing 43 = .ok (.if_icmp .ge 32, 3) := by decide +kernel
theorem d_Mod_missing_46 : decode b_Mod_missing 46 = .ok (.iload 4, 2) := by decide +kernel
theorem d_Mod_missing_48 : decode b_Mod_missing 48 = .ok (.ifCond .ne 14, 3) := by decide +kernel
theorem d_Mod_missing_51 : decode b_Mod_missing 51 = .ok (.aload_n 0, 1) := by decide +kernel
theorem d_Mod_missing_52 : decode b_Mod_missing 52 = .ok (.getfield 28, 3) := by decide +kernel
theorem d_Mod_missing_55 : decode b_Mod_missing 55 = .ok (.iload 5, 2) := by decide +kernel
theorem d_Mod_missing_57 : decode b_Mod_missing 57 = .ok (.iaload, 1) := by decide +kernel
theorem d_Mod_missing_58 : decode b_Mod_missing 58 = .ok (.iload_n 3, 1) := by decide +kernel
theorem d_Mod_missing_59 : decode b_Mod_missing 59 = .ok (.if_icmp .ne 7, 3) := by decide +kernel
theorem d_Mod_missing_62 : decode b_Mod_missing 62 = .ok (.iconst 1, 1) := by decide +kernel
theorem d_Mod_missing_63 : decode b_Mod_missing 63 = .ok (.goto 4, 3) := by decide +kernel
theorem d_Mod_missing_66 : decode b_Mod_missing 66 = .ok (.iconst 0, 1) := by decide +kernel
theorem d_Mod_missing_67 : decode b_Mod_missing 67 = .ok (.istore 4, 2) := by decide +kernel
theorem d_Mod_missing_69 : decode b_Mod_missing 69 = .ok (.iinc 5 1, 3) := by decide +kernel
theorem d_Mod_missing_72 : decode b_Mod_missing 72 = .ok (.goto (-35), 3) := by decide +kernel
theorem d_Mod_missing_75 : decode b_Mod_missing 75 = .ok (.iload 4, 2) := by decide +kernel
theorem d_Mod_missing_77 : decode b_Mod_missing 77 = .ok (.ifCond .eq 21, 3) := by decide +kernel
theorem d_Mod_missing_80 : decode b_Mod_missing 80 = .ok (.aload_n 0, 1) := by decide +kernel
theorem d_Mod_missing_81 : decode b_Mod_missing 81 = .ok (.getfield 31, 3) := by decide +kernel
theorem d_Mod_missing_84 : decode b_Mod_missing 84 = .ok (.iload_n 3, 1) := by decide +kernel
theorem d_Mod_missing_85 : decode b_Mod_missing 85 = .ok (.baload, 1) := by decide +kernel
theorem d_Mod_missing_86 : decode b_Mod_missing 86 = .ok (.ifCond .ne 12, 3) := by decide +kernel
theorem d_Mod_missing_89 : decode b_Mod_missing 89 = .ok (.iload_n 2, 1) := by decide +kernel
theorem d_Mod_missing_90 : decode b_Mod_missing 90 = .ok (.ifCond .ne 5, 3) := by decide +kernel
theorem d_Mod_missing_93 : decode b_Mod_missing 93 = .ok (.iload_n 3, 1) := by decide +kernel
theorem d_Mod_missing_94 : decode b_Mod_missing 94 = .ok (.ireturn, 1) := by decide +kernel
theorem d_Mod_missing_95 : decode b_Mod_missing 95 = .ok (.iinc 2 (-1), 3) := by decide +kernel
theorem d_Mod_missing_98 : decode b_Mod_missing 98 = .ok (.iinc 3 1, 3) := by decide +kernel
theorem d_Mod_missing_101 : decode b_Mod_missing 101 = .ok (.goto (-76), 3) := by decide +kernel
theorem d_Mod_missing_104 : decode b_Mod_missing 104 = .ok (.iconst (-1), 1) := by decide +kernel
theorem d_Mod_missing_105 : decode b_Mod_missing 105 = .ok (.ireturn, 1) := by decide +kernel
theorem d_Mod_detectorOf_0 : decode b_Mod_detectorOf 0 = .ok (.iconst (-1), 1) := by decide +kernel
theorem d_Mod_detectorOf_1 : decode b_Mod_detectorOf 1 = .ok (.istore_n 3, 1) := by decide +kernel
theorem d_Mod_detectorOf_2 : decode b_Mod_detectorOf 2 = .ok (.iconst 0, 1) := by decide +kernel
theorem d_Mod_detectorOf_3 : decode b_Mod_detectorOf 3 = .ok (.istore 4, 2) := by decide +kernel
theorem d_Mod_detectorOf_5 : decode b_Mod_detectorOf 5 = .ok (.iload 4, 2) := by decide +kernel
theorem d_Mod_detectorOf_7 : decode b_Mod_detectorOf 7 = .ok (.aload_n 0, 1) := by decide +kernel
theorem d_Mod_detectorOf_8 : decode b_Mod_detectorOf 8 = .ok (.getfield 123, 3) := by decide +kernel
theorem d_Mod_detectorOf_11 : decode b_Mod_detectorOf 11 = .ok (.if_icmp .ge 38, 3) := by decide +kernel
theorem d_Mod_detectorOf_14 : decode b_Mod_detectorOf 14 = .ok (.aload_n 0, 1) := by decide +kernel
theorem d_Mod_detectorOf_15 : decode b_Mod_detectorOf 15 = .ok (.getfield 45, 3) := by decide +kernel
theorem d_Mod_detectorOf_18 : decode b_Mod_detectorOf 18 = .ok (.iload 4, 2) := by decide +kernel
theorem d_Mod_detectorOf_20 : decode b_Mod_detectorOf 20 = .ok (.iaload, 1) := by decide +kernel
theorem d_Mod_detectorOf_21 : decode b_Mod_detectorOf 21 = .ok (.iload_n 1, 1) := by decide +kernel
theorem d_Mod_detectorOf_22 : decode b_Mod_detectorOf 22 = .ok (.if_icmp .ne 19, 3) := by decide +kernel
theorem d_Mod_detectorOf_25 : decode b_Mod_detectorOf 25 = .ok (.aload_n 0, 1) := by decide +kernel
theorem d_Mod_detectorOf_26 : decode b_Mod_detectorOf 26 = .ok (.getfield 48, 3) := by decide +kernel
theorem d_Mod_detectorOf_29 : decode b_Mod_detectorOf 29 = .ok (.iload 4, 2) := by decide +kernel
theorem d_Mod_detectorOf_31 : decode b_Mod_detectorOf 31 = .ok (.iaload, 1) := by decide +kernel
theorem d_Mod_detectorOf_32 : decode b_Mod_detectorOf 32 = .ok (.iload_n 2, 1) := by decide +kernel
theorem d_Mod_detectorOf_33 : decode b_Mod_detectorOf 33 = .ok (.if_icmp .ne 8, 3) := by decide +kernel
theorem d_Mod_detectorOf_36 : decode b_Mod_detectorOf 36 = .ok (.iload 4, 2) := by decide +kernel
theorem d_Mod_detectorOf_38 : decode b_Mod_detectorOf 38 = .ok (.goto 4, 3) := by decide +kernel
theorem d_Mod_detectorOf_41 : decode b_Mod_detectorOf 41 = .ok (.iload_n 3, 1) := by decide +kernel
theorem d_Mod_detectorOf_42 : decode b_Mod_detectorOf 42 = .ok (.istore_n 3, 1) := by decide +kernel
theorem d_Mod_detectorOf_43 : decode b_Mod_detectorOf 43 = .ok (.iinc 4 1, 3) := by decide +kernel
theorem d_Mod_detectorOf_46 : decode b_Mod_detectorOf 46 = .ok (.goto (-41), 3) := by decide +kernel
theorem d_Mod_detectorOf_49 : decode b_Mod_detectorOf 49 = .ok (.iload_n 3, 1) := by decide +kernel
theorem d_Mod_detectorOf_50 : decode b_Mod_detectorOf 50 = .ok (.ireturn, 1) := by decide +kernel
theorem d_Mod_isDetector_0 : decode b_Mod_isDetector 0 = .ok (.iload_n 0, 1) := by decide +kernel
theorem d_Mod_isDetector_1 : decode b_Mod_isDetector 1 = .ok (.iconst 1, 1) := by decide +kernel
theorem d_Mod_isDetector_2 : decode b_Mod_isDetector 2 = .ok (.bipush 9, 2) := by decide +kernel
theorem d_Mod_isDetector_4 : decode b_Mod_isDetector 4 = .ok (.invokestatic 84, 3) := by decide +kernel
theorem d_Mod_isDetector_7 : decode b_Mod_isDetector 7 = .ok (.ifCond .eq 17, 3) := by decide +kernel
theorem d_Mod_isDetector_10 : decode b_Mod_isDetector 10 = .ok (.iload_n 1, 1) := by decide +kernel
theorem d_Mod_isDetector_11 : decode b_Mod_isDetector 11 = .ok (.iconst 1, 1) := by decide +kernel
theorem d_Mod_isDetector_12 : decode b_Mod_isDetector 12 = .ok (.bipush 99, 2) := by decide +kernel
theorem d_Mod_isDetector_14 : decode b_Mod_isDetector 14 = .ok (.invokestatic 84, 3) := by decide +kernel
theorem d_Mod_isDetector_17 : decode b_Mod_isDetector 17 = .ok (.ifCond .eq 7, 3) := by decide +kernel
theorem d_Mod_isDetector_20 : decode b_Mod_isDetector 20 = .ok (.iconst 1, 1) := by decide +kernel
theorem d_Mod_isDetector_21 : decode b_Mod_isDetector 21 = .ok (.goto 4, 3) := by decide +kernel
theorem d_Mod_isDetector_24 : decode b_Mod_isDetector 24 = .ok (.iconst 0, 1) := by decide +kernel
theorem d_Mod_isDetector_25 : decode b_Mod_isDetector 25 = .ok (.ireturn, 1) := by decide +kernel
theorem d_Mod_detector_0 : decode b_Mod_detector 0 = .ok (.aload_n 0, 1) := by decide +kernel
theorem d_Mod_detector_1 : decode b_Mod_detector 1 = .ok (.aload_n 0, 1) := by decide +kernel
theorem d_Mod_detector_2 : decode b_Mod_detector 2 = .ok (.iload_n 3, 1) := by decide +kernel
theorem d_Mod_detector_3 : decode b_Mod_detector 3 = .ok (.invokevirtual 92, 3) := by decide +kernel
theorem d_Mod_detector_6 : decode b_Mod_detector 6 = .ok (.ifCond .ne 7, 3) := by decide +kernel
theorem d_Mod_detector_9 : decode b_Mod_detector 9 = .ok (.iconst 1, 1) := by decide +kernel
theorem d_Mod_detector_10 : decode b_Mod_detector 10 = .ok (.goto 4, 3) := by decide +kernel
theorem d_Mod_detector_13 : decode b_Mod_detector 13 = .ok (.iconst 0, 1) := by decide +kernel
theorem d_Mod_detector_14 : decode b_Mod_detector 14 = .ok (.iload_n 1, 1) := by decide +kernel
theorem d_Mod_detector_15 : decode b_Mod_detector 15 = .ok (.iload_n 2, 1) := by decide +kernel
theorem d_Mod_detector_16 : decode b_Mod_detector 16 = .ok (.invokestatic 126, 3) := by decide +kernel
theorem d_Mod_detector_19 : decode b_Mod_detector 19 = .ok (.ifCond .ne 7, 3) := by decide +kernel
theorem d_Mod_detector_22 : decode b_Mod_detector 22 = .ok (.iconst 1, 1) := by decide +kernel
theorem d_Mod_detector_23 : decode b_Mod_detector 23 = .ok (.goto 4, 3) := by decide +kernel
theorem d_Mod_detector_26 : decode b_Mod_detector 26 = .ok (.iconst 0, 1) := by decide +kernel
theorem d_Mod_detector_27 : decode b_Mod_detector 27 = .ok (.aload_n 0, 1) := by decide +kernel
theorem d_Mod_detector_28 : decode b_Mod_detector 28 = .ok (.iload_n 1, 1) := by decide +kernel
theorem d_Mod_detector_29 : decode b_Mod_detector 29 = .ok (.iload_n 2, 1) := by decide +kernel
theorem d_Mod_detector_30 : decode b_Mod_detector 30 = .ok (.invokevirtual 130, 3) := by decide +kernel
theorem d_Mod_detector_33 : decode b_Mod_detector 33 = .ok (.ifCond .lt 7, 3) := by decide +kernel
theorem d_Mod_detector_36 : decode b_Mod_detector 36 = .ok (.iconst 1, 1) := by decide +kernel
theorem d_Mod_detector_37 : decode b_Mod_detector 37 = .ok (.goto 4, 3) := by decide +kernel
theorem d_Mod_detector_40 : decode b_Mod_detector 40 = .ok (.iconst 0, 1) := by decide +kernel
theorem d_Mod_detector_41 : decode b_Mod_detector 41 = .ok (.aload_n 0, 1) := by decide +kernel
theorem d_Mod_detector_42 : decode b_Mod_detector 42 = .ok (.getfield 123, 3) := by decide +kernel
theorem d_Mod_detector_45 : decode b_Mod_detector 45 = .ok (.bipush 100, 2) := by decide +kernel
theorem d_Mod_detector_47 : decode b_Mod_detector 47 = .ok (.if_icmp .ne 7, 3) := by decide +kernel
theorem d_Mod_detector_50 : decode b_Mod_detector 50 = .ok (.iconst 1, 1) := by decide +kernel
theorem d_Mod_detector_51 : decode b_Mod_detector 51 = .ok (.goto 4, 3) := by decide +kernel
theorem d_Mod_detector_54 : decode b_Mod_detector 54 = .ok (.iconst 0, 1) := by decide +kernel
theorem d_Mod_detector_55 : decode b_Mod_detector 55 = .ok (.invokevirtual 88, 3) := by decide +kernel
theorem d_Mod_detector_58 : decode b_Mod_detector 58 = .ok (.ifCond .eq 4, 3) := by decide +kernel
theorem d_Mod_detector_61 : decode b_Mod_detector 61 = .ok (.return_, 1) := by decide +kernel
theorem d_Mod_detector_62 : decode b_Mod_detector 62 = .ok (.aload_n 0, 1) := by decide +kernel
theorem d_Mod_detector_63 : decode b_Mod_detector 63 = .ok (.getfield 45, 3) := by decide +kernel
theorem d_Mod_detector_66 : decode b_Mod_detector 66 = .ok (.aload_n 0, 1) := by decide +kernel
theorem d_Mod_detector_67 : decode b_Mod_detector 67 = .ok (.getfield 123, 3) := by decide +kernel
theorem d_Mod_detector_70 : decode b_Mod_detector 70 = .ok (.iload_n 1, 1) := by decide +kernel
theorem d_Mod_detector_71 : decode b_Mod_detector 71 = .ok (.iastore, 1) := by decide +kernel
theorem d_Mod_detector_72 : decode b_Mod_detector 72 = .ok (.aload_n 0, 1) := by decide +kernel
theorem d_Mod_detector_73 : decode b_Mod_detector 73 = .ok (.getfield 48, 3) := by decide +kernel
theorem d_Mod_detector_76 : decode b_Mod_detector 76 = .ok (.aload_n 0, 1) := by decide +kernel
theorem d_Mod_detector_77 : decode b_Mod_detector 77 = .ok (.getfield 123, 3) := by decide +kernel
theorem d_Mod_detector_80 : decode b_Mod_detector 80 = .ok (.iload_n 2, 1) := by decide +kernel
theorem d_Mod_detector_81 : decode b_Mod_detector 81 = .ok (.iastore, 1) := by decide +kernel
theorem d_Mod_detector_82 : decode b_Mod_detector 82 = .ok (.aload_n 0, 1) := by decide +kernel
theorem d_Mod_detector_83 : decode b_Mod_detector 83 = .ok (.getfield 51, 3) := by decide +kernel
theorem d_Mod_detector_86 : decode b_Mod_detector 86 = .ok (.aload_n 0, 1) := by decide +kernel
theorem d_Mod_detector_87 : decode b_Mod_detector 87 = .ok (.getfield 123, 3) := by decide +kernel
theorem d_Mod_detector_90 : decode b_Mod_detector 90 = .ok (.iload_n 3, 1) := by decide +kernel
theorem d_Mod_detector_91 : decode b_Mod_detector 91 = .ok (.iastore, 1) := by decide +kernel
theorem d_Mod_detector_92 : decode b_Mod_detector 92 = .ok (.aload_n 0, 1) := by decide +kernel
theorem d_Mod_detector_93 : decode b_Mod_detector 93 = .ok (.dup, 1) := by decide +kernel
theorem d_Mod_detector_94 : decode b_Mod_detector 94 = .ok (.getfield 123, 3) := by decide +kernel
theorem d_Mod_detector_97 : decode b_Mod_detector 97 = .ok (.iconst 1, 1) := by decide +kernel
theorem d_Mod_detector_98 : decode b_Mod_detector 98 = .ok (.iadd, 1) := by decide +kernel
theorem d_Mod_detector_99 : decode b_Mod_detector 99 = .ok (.putfield 123, 3) := by decide +kernel
theorem d_Mod_detector_102 : decode b_Mod_detector 102 = .ok (.return_, 1) := by decide +kernel
theorem d_Mod_alarm_0 : decode b_Mod_alarm 0 = .ok (.aload_n 0, 1) := by decide +kernel
theorem d_Mod_alarm_1 : decode b_Mod_alarm 1 = .ok (.iload_n 1, 1) := by decide +kernel
theorem d_Mod_alarm_2 : decode b_Mod_alarm 2 = .ok (.iload_n 2, 1) := by decide +kernel
theorem d_Mod_alarm_3 : decode b_Mod_alarm 3 = .ok (.invokestatic 126, 3) := by decide +kernel
theorem d_Mod_alarm_6 : decode b_Mod_alarm 6 = .ok (.ifCond .ne 7, 3) := by decide +kernel
theorem d_Mod_alarm_9 : decode b_Mod_alarm 9 = .ok (.iconst 1, 1) := by decide +kernel
theorem d_Mod_alarm_10 : decode b_Mod_alarm 10 = .ok (.goto 4, 3) := by decide +kernel
theorem d_Mod_alarm_13 : decode b_Mod_alarm 13 = .ok (.iconst 0, 1) := by decide +kernel
theorem d_Mod_alarm_14 : decode b_Mod_alarm 14 = .ok (.iconst 0, 1) := by decide +kernel
theorem d_Mod_alarm_15 : decode b_Mod_alarm 15 = .ok (.iconst 0, 1) := by decide +kernel
theorem d_Mod_alarm_16 : decode b_Mod_alarm 16 = .ok (.iconst 0, 1) := by decide +kernel
theorem d_Mod_alarm_17 : decode b_Mod_alarm 17 = .ok (.invokevirtual 88, 3) := by decide +kernel
theorem d_Mod_alarm_20 : decode b_Mod_alarm 20 = .ok (.ifCond .eq 5, 3) := by decide +kernel
theorem d_Mod_alarm_23 : decode b_Mod_alarm 23 = .ok (.iconst 0, 1) := by decide +kernel
theorem d_Mod_alarm_24 : decode b_Mod_alarm 24 = .ok (.ireturn, 1) := by decide +kernel
theorem d_Mod_alarm_25 : decode b_Mod_alarm 25 = .ok (.aload_n 0, 1) := by decide +kernel
theorem d_Mod_alarm_26 : decode b_Mod_alarm 26 = .ok (.iload_n 1, 1) := by decide +kernel
theorem d_Mod_alarm_27 : decode b_Mod_alarm 27 = .ok (.iload_n 2, 1) := by decide +kernel
theorem d_Mod_alarm_28 : decode b_Mod_alarm 28 = .ok (.invokevirtual 130, 3) := by decide +kernel
theorem d_Mod_alarm_31 : decode b_Mod_alarm 31 = .ok (.istore_n 3, 1) := by decide +kernel
theorem d_Mod_alarm_32 : decode b_Mod_alarm 32 = .ok (.iload_n 3, 1) := by decide +kernel
theorem d_Mod_alarm_33 : decode b_Mod_alarm 33 = .ok (.ifCond .ge 9, 3) := by decide +kernel
theorem d_Mod_alarm_36 : decode b_Mod_alarm 36 = .ok (.iconst (-1), 1) := by decide +kernel
theorem d_Mod_alarm_37 : decode b_Mod_alarm 37 = .ok (.iload_n 1, 1) := by decide +kernel
theorem d_Mod_alarm_38 : decode b_Mod_alarm 38 = .ok (.isub, 1) := by decide +kernel
theorem d_Mod_alarm_39 : decode b_Mod_alarm 39 = .ok (.goto 9, 3) := by decide +kernel
theorem d_Mod_alarm_42 : decode b_Mod_alarm 42 = .ok (.aload_n 0, 1) := by decide +kernel
theorem d_Mod_alarm_43 : decode b_Mod_alarm 43 = .ok (.getfield 51, 3) := by decide +kernel
theorem d_Mod_alarm_46 : decode b_Mod_alarm 46 = .ok (.iload_n 3, 1) := by decide +kernel
theorem d_Mod_alarm_47 : decode b_Mod_alarm 47 = .ok (.iaload, 1) := by decide +kernel
theorem d_Mod_alarm_48 : decode b_Mod_alarm 48 = .ok (.ireturn, 1) := by decide +kernel
theorem d_Mod_isHour_0 : decode b_Mod_isHour 0 = .ok (.iload_n 0, 1) := by decide +kernel
theorem d_Mod_isHour_1 : decode b_Mod_isHour 1 = .ok (.iconst 0, 1) := by decide +kernel
theorem d_Mod_isHour_2 : decode b_Mod_isHour 2 = .ok (.bipush 23, 2) := by decide +kernel
theorem d_Mod_isHour_4 : decode b_Mod_isHour 4 = .ok (.invokestatic 84, 3) := by decide +kernel
theorem d_Mod_isHour_7 : decode b_Mod_isHour 7 = .ok (.ireturn, 1) := by decide +kernel
theorem d_Mod_people_0 : decode b_Mod_people 0 = .ok (.aload_n 0, 1) := by decide +kernel
theorem d_Mod_people_1 : decode b_Mod_people 1 = .ok (.aload_n 0, 1) := by decide +kernel
theorem d_Mod_people_2 : decode b_Mod_people 2 = .ok (.iload_n 1, 1) := by decide +kernel
theorem d_Mod_people_3 : decode b_Mod_people 3 = .ok (.invokevirtual 92, 3) := by decide +kernel
theorem d_Mod_people_6 : decode b_Mod_people 6 = .ok (.ifCond .ne 7, 3) := by decide +kernel
theorem d_Mod_people_9 : decode b_Mod_people 9 = .ok (.iconst 1, 1) := by decide +kernel
theorem d_Mod_people_10 : decode b_Mod_people 10 = .ok (.goto 4, 3) := by decide +kernel
theorem d_Mod_people_13 : decode b_Mod_people 13 = .ok (.iconst 0, 1) := by decide +kernel
theorem d_Mod_people_14 : decode b_Mod_people 14 = .ok (.iload_n 2, 1) := by decide +kernel
theorem d_Mod_people_15 : decode b_Mod_people 15 = .ok (.invokestatic 134, 3) := by decide +kernel
theorem d_Mod_people_18 : decode b_Mod_people 18 = .ok (.ifCond .eq 22, 3) := by decide +kernel
theorem d_Mod_people_21 : decode b_Mod_people 21 = .ok (.iload_n 3, 1) := by decide +kernel
theorem d_Mod_people_22 : decode b_Mod_people 22 = .ok (.invokestatic 134, 3) := by decide +kernel
theorem d_Mod_people_25 : decode b_Mod_people 25 = .ok (.ifCond .eq 15, 3) := by decide +kernel
theorem d_Mod_people_28 : decode b_Mod_people 28 = .ok (.iload 4, 2) := by decide +kernel
theorem d_Mod_people_30 : decode b_Mod_people 30 = .ok (.iconst 0, 1) := by decide +kernel
theorem d_Mod_people_31 : decode b_Mod_people 31 = .ok (.sipush 999, 3) := by decide +kernel
theorem d_Mod_people_34 : decode b_Mod_people 34 = .ok (.invokestatic 84, 3) := by decide +kernel
theorem d_Mod_people_37 : decode b_Mod_people 37 = .ok (.ifCond .ne 7, 3) := by decide +kernel
theorem d_Mod_people_40 : decode b_Mod_people 40 = .ok (.iconst 1, 1) := by decide +kernel
theorem d_Mod_people_41 : decode b_Mod_people 41 = .ok (.goto 4, 3) := by decide +kernel
theorem d_Mod_people_44 : decode b_Mod_people 44 = .ok (.iconst 0, 1) := by decide +kernel
theorem d_Mod_people_45 : decode b_Mod_people 45 = .ok (.aload_n 0, 1) := by decide +kernel
theorem d_Mod_people_46 : decode b_Mod_people 46 = .ok (.getfield 137, 3) := by decide +kernel
theorem d_Mod_people_49 : decode b_Mod_people 49 = .ok (.bipush 60, 2) := by decide +kernel
theorem d_Mod_people_51 : decode b_Mod_people 51 = .ok (.if_icmp .ne 7, 3) := by decide +kernel
theorem d_Mod_people_54 : decode b_Mod_people 54 = .ok (.iconst 1, 1) := by decide +kernel
theorem d_Mod_people_55 : decode b_Mod_people 55 = .ok (.goto 4, 3) := by decide +kernel
theorem d_Mod_people_58 : decode b_Mod_people 58 = .ok (.iconst 0, 1) := by decide +kernel
theorem d_Mod_people_59 : decode b_Mod_people 59 = .ok (.iconst 0, 1) := by decide +kernel
theorem d_Mod_people_60 : decode b_Mod_people 60 = .ok (.invokevirtual 88, 3) := by decide +kernel
theorem d_Mod_people_63 : decode b_Mod_people 63 = .ok (.ifCond .eq 5, 3) := by decide +kernel
theorem d_Mod_people_66 : decode b_Mod_people 66 = .ok (.iconst 0, 1) := by decide +kernel
theorem d_Mod_people_67 : decode b_Mod_people 67 = .ok (.ireturn, 1) := by decide +kernel
theorem d_Mod_people_68 : decode b_Mod_people 68 = .ok (.aload_n 0, 1) := by decide +kernel
theorem d_Mod_people_69 : decode b_Mod_people 69 = .ok (.getfield 54, 3) := by decide +kernel
theorem d_Mod_people_72 : decode b_Mod_people 72 = .ok (.aload_n 0, 1) := by decide +kernel
theorem d_Mod_people_73 : decode b_Mod_people 73 = .ok (.getfield 137, 3) := by decide +kernel
theorem d_Mod_people_76 : decode b_Mod_people 76 = .ok (.iload_n 1, 1) := by decide +kernel
theorem d_Mod_people_77 : decode b_Mod_people 77 = .ok (.iastore, 1) := by decide +kernel
theorem d_Mod_people_78 : decode b_Mod_people 78 = .ok (.aload_n 0, 1) := by decide +kernel
theorem d_Mod_people_79 : decode b_Mod_people 79 = .ok (.getfield 57, 3) := by decide +kernel
theorem d_Mod_people_82 : decode b_Mod_people 82 = .ok (.aload_n 0, 1) := by decide +kernel
theorem d_Mod_people_83 : decode b_Mod_people 83 = .ok (.getfield 137, 3) := by decide +kernel
theorem d_Mod_people_86 : decode b_Mod_people 86 = .ok (.iload_n 2, 1) := by decide +kernel
theorem d_Mod_people_87 : decode b_Mod_people 87 = .ok (.iastore, 1) := by decide +kernel
theorem d_Mod_people_88 : decode b_Mod_people 88 = .ok (.aload_n 0, 1) := by decide +kernel
theorem d_Mod_people_89 : decode b_Mod_people 89 = .ok (.getfield 60, 3) := by decide +kernel
theorem d_Mod_people_92 : decode b_Mod_people 92 = .ok (.aload_n 0, 1) := by decide +kernel
theorem d_Mod_people_93 : decode b_Mod_people 93 = .ok (.getfield 137, 3) := by decide +kernel
theorem d_Mod_people_96 : decode b_Mod_people 96 = .ok (.iload_n 3, 1) := by decide +kernel
theorem d_Mod_people_97 : decode b_Mod_people 97 = .ok (.iastore, 1) := by decide +kernel
theorem d_Mod_people_98 : decode b_Mod_people 98 = .ok (.aload_n 0, 1) := by decide +kernel
theorem d_Mod_people_99 : decode b_Mod_people 99 = .ok (.getfield 63, 3) := by decide +kernel
theorem d_Mod_people_102 : decode b_Mod_people 102 = .ok (.aload_n 0, 1) := by decide +kernel
theorem d_Mod_people_103 : decode b_Mod_people 103 = .ok (.getfield 137, 3) := by decide +kernel
theorem d_Mod_people_106 : decode b_Mod_people 106 = .ok (.iload 4, 2) := by decide +kernel
theorem d_Mod_people_108 : decode b_Mod_people 108 = .ok (.iastore, 1) := by decide +kernel
theorem d_Mod_people_109 : decode b_Mod_people 109 = .ok (.aload_n 0, 1) := by decide +kernel
theorem d_Mod_people_110 : decode b_Mod_people 110 = .ok (.dup, 1) := by decide +kernel
theorem d_Mod_people_111 : decode b_Mod_people 111 = .ok (.getfield 137, 3) := by decide +kernel
theorem d_Mod_people_114 : decode b_Mod_people 114 = .ok (.iconst 1, 1) := by decide +kernel
theorem d_Mod_people_115 : decode b_Mod_people 115 = .ok (.iadd, 1) := by decide +kernel
theorem d_Mod_people_116 : decode b_Mod_people 116 = .ok (.putfield 137, 3) := by decide +kernel
theorem d_Mod_people_119 : decode b_Mod_people 119 = .ok (.aload_n 0, 1) := by decide +kernel
theorem d_Mod_people_120 : decode b_Mod_people 120 = .ok (.getfield 137, 3) := by decide +kernel
theorem d_Mod_people_123 : decode b_Mod_people 123 = .ok (.iconst 1, 1) := by decide +kernel
theorem d_Mod_people_124 : decode b_Mod_people 124 = .ok (.isub, 1) := by decide +kernel
theorem d_Mod_people_125 : decode b_Mod_people 125 = .ok (.ireturn, 1) := by decide +kernel
theorem d_Mod_inside_0 : decode b_Mod_inside 0 = .ok (.aload_n 0, 1) := by decide +kernel
theorem d_Mod_inside_1 : decode b_Mod_inside 1 = .ok (.iload_n 1, 1) := by decide +kernel
theorem d_Mod_inside_2 : decode b_Mod_inside 2 = .ok (.iconst (-1), 1) := by decide +kernel
theorem d_Mod_inside_3 : decode b_Mod_inside 3 = .ok (.bipush 19, 2) := by decide +kernel
theorem d_Mod_inside_5 : decode b_Mod_inside 5 = .ok (.invokestatic 84, 3) := by decide +kernel
theorem d_Mod_inside_8 : decode b_Mod_inside 8 = .ok (.ifCond .ne 7, 3) := by decide +kernel
theorem d_Mod_inside_11 : decode b_Mod_inside 11 = .ok (.iconst 1, 1) := by decide +kernel
theorem d_Mod_inside_12 : decode b_Mod_inside 12 = .ok (.goto 4, 3) := by decide +kernel
theorem d_Mod_inside_15 : decode b_Mod_inside 15 = .ok (.iconst 0, 1) := by decide +kernel
theorem d_Mod_inside_16 : decode b_Mod_inside 16 = .ok (.iload_n 2, 1) := by decide +kernel
theorem d_Mod_inside_17 : decode b_Mod_inside 17 = .ok (.invokestatic 134, 3) := by decide +kernel
theorem d_Mod_inside_20 : decode b_Mod_inside 20 = .ok (.ifCond .ne 7, 3) := by decide +kernel
theorem d_Mod_inside_23 : decode b_Mod_inside 23 = .ok (.iconst 1, 1) := by decide +kernel
theorem d_Mod_inside_24 : decode b_Mod_inside 24 = .ok (.goto 4, 3) := by decide +kernel
theorem d_Mod_inside_27 : decode b_Mod_inside 27 = .ok (.iconst 0, 1) := by decide +kernel
theorem d_Mod_inside_28 : decode b_Mod_inside 28 = .ok (.iconst 0, 1) := by decide +kernel
theorem d_Mod_inside_29 : decode b_Mod_inside 29 = .ok (.iconst 0, 1) := by decide +kernel
theorem d_Mod_inside_30 : decode b_Mod_inside 30 = .ok (.invokevirtual 88, 3) := by decide +kernel
theorem d_Mod_inside_33 : decode b_Mod_inside 33 = .ok (.ifCond .eq 5, 3) := by decide +kernel
theorem d_Mod_inside_36 : decode b_Mod_inside 36 = .ok (.iconst 0, 1) := by decide +kernel
theorem d_Mod_inside_37 : decode b_Mod_inside 37 = .ok (.ireturn, 1) := by decide +kernel
theorem d_Mod_inside_38 : decode b_Mod_inside 38 = .ok (.iconst 0, 1) := by decide +kernel
theorem d_Mod_inside_39 : decode b_Mod_inside 39 = .ok (.istore_n 3, 1) := by decide +kernel
theorem d_Mod_inside_40 : decode b_Mod_inside 40 = .ok (.iconst 0, 1) := by decide +kernel
theorem d_Mod_inside_41 : decode b_Mod_inside 41 = .ok (.istore 4, 2) := by decide +kernel
theorem d_Mod_inside_43 : decode b_Mod_inside 43 = .ok (.iload 4, 2) := by decide +kernel
theorem d_Mod_inside_45 : decode b_Mod_inside 45 = .ok (.aload_n 0, 1) := by decide +kernel
theorem d_Mod_inside_46 : decode b_Mod_inside 46 = .ok (.getfield 137, 3) := by decide +kernel
theorem d_Mod_inside_49 : decode b_Mod_inside 49 = .ok (.if_icmp .ge 112, 3) := by decide +kernel
theorem d_Mod_inside_52 : decode b_Mod_inside 52 = .ok (.aload_n 0, 1) := by decide +kernel
theorem d_Mod_inside_53 : decode b_Mod_inside 53 = .ok (.getfield 57, 3) := by decide +kernel
theorem d_Mod_inside_56 : decode b_Mod_inside 56 = .ok (.iload 4, 2) := by decide +kernel
theorem d_Mod_inside_58 : decode b_Mod_inside 58 = .ok (.iaload, 1) := by decide +kernel
theorem d_Mod_inside_59 : decode b_Mod_inside 59 = .ok (.istore 5, 2) := by decide +kernel
theorem d_Mod_inside_61 : decode b_Mod_inside 61 = .ok (.aload_n 0, 1) := by decide +kernel
theorem d_Mod_inside_62 : decode b_Mod_inside 62 = .ok (.getfield 60, 3) := by decide +kernel
theorem d_Mod_inside_65 : decode b_Mod_inside 65 = .ok (.iload 4, 2) := by decide +kernel
theorem d_Mod_inside_67 : decode b_Mod_inside 67 = .ok (.iaload, 1) := by decide +kernel
theorem d_Mod_inside_68 : decode b_Mod_inside 68 = .ok (.istore 6, 2) := by decide +kernel
theorem d_Mod_inside_70 : decode b_Mod_inside 70 = .ok (.iload 5, 2) := by decide +kernel
theorem d_Mod_inside_72 : decode b_Mod_inside 72 = .ok (.iload 6, 2) := by decide +kernel
theorem d_Mod_inside_74 : decode b_Mod_inside 74 = .ok (.if_icmp .gt 23, 3) := by decide +kernel
theorem d_Mod_inside_77 : decode b_Mod_inside 77 = .ok (.iload_n 2, 1) := by decide +kernel
theorem d_Mod_inside_78 : decode b_Mod_inside 78 = .ok (.iload 5, 2) := by decide +kernel
theorem d_Mod_inside_80 : decode b_Mod_inside 80 = .ok (.if_icmp .lt 13, 3) := by decide +kernel
theorem d_Mod_inside_83 : decode b_Mod_inside 83 = .ok (.iload_n 2, 1) := by decide +kernel
theorem d_Mod_inside_84 : decode b_Mod_inside 84 = .ok (.iload 6, 2) := by decide +kernel
theorem d_Mod_inside_86 : decode b_Mod_inside 86 = .ok (.if_icmp .gt 7, 3) := by decide +kernel
theorem d_Mod_inside_89 : decode b_Mod_inside 89 = .ok (.iconst 1, 1) := by decide +kernel
theorem d_Mod_inside_90 : decode b_Mod_inside 90 = .ok (.goto 24, 3) := by decide +kernel
theorem d_Mod_inside_93 : decode b_Mod_inside 93 = .ok (.iconst 0, 1) := by decide +kernel
theorem d_Mod_inside_94 : decode b_Mod_inside 94 = .ok (.goto 20, 3) := by decide +kernel
theorem d_Mod_inside_97 : decode b_Mod_inside 97 = .ok (.iload_n 2, 1) := by decide +kernel
theorem d_Mod_inside_98 : decode b_Mod_inside 98 = .ok (.iload 5, 2) := by decide +kernel
theorem d_Mod_inside_100 : decode b_Mod_inside 100 = .ok (.if_icmp .ge 9, 3) := by decide +kernel
theorem d_Mod_inside_103 : decode b_Mod_inside 103 = .ok (.iload_n 2, 1) := by decide +kernel
theorem d_Mod_inside_104 : decode b_Mod_inside 104 = .ok (.iload 6, 2) := by decide +kernel
theorem d_Mod_inside_106 : decode b_Mod_inside 106 = .ok (.if_icmp .gt 7, 3) := by decide +kernel
theorem d_Mod_inside_109 : decode b_Mod_inside 109 = .ok (.iconst 1, 1) := by decide +kernel
theorem d_Mod_inside_110 : decode b_Mod_inside 110 = .ok (.goto 4, 3) := by decide +kernel
theorem d_Mod_inside_113 : decode b_Mod_inside 113 = .ok (.iconst 0, 1) := by decide +kernel
theorem d_Mod_inside_114 : decode b_Mod_inside 114 = .ok (.istore 7, 2) := by decide +kernel
theorem d_Mod_inside_116 : decode b_Mod_inside 116 = .ok (.iload_n 3, 1) := by decide +kernel
theorem d_Mod_inside_117 : decode b_Mod_inside 117 = .ok (.iload 7, 2) := by decide +kernel
theorem d_Mod_inside_119 : decode b_Mod_inside 119 = .ok (.ifCond .eq 33, 3) := by decide +kernel
theorem d_Mod_inside_122 : decode b_Mod_inside 122 = .ok (.iload_n 1, 1) := by decide +kernel
theorem d_Mod_inside_123 : decode b_Mod_inside 123 = .ok (.ifCond .lt 19, 3) := by decide +kernel
theorem d_Mod_inside_126 : decode b_Mod_inside 126 = .ok (.aload_n 0, 1) := by decide +kernel
theorem d_Mod_inside_127 : decode b_Mod_inside 127 = .ok (.getfield 7, 3) := by decide +kernel
theorem d_Mod_inside_130 : decode b_Mod_inside 130 = .ok (.aload_n 0, 1) := by decide +kernel
theorem d_Mod_inside_131 : decode b_Mod_inside 131 = .ok (.getfield 54, 3) := by decide +kernel
theorem d_Mod_inside_134 : decode b_Mod_inside 134 = .ok (.iload 4, 2) := by decide +kernel
theorem d_Mod_inside_136 : decode b_Mod_inside 136 = .ok (.iaload, 1) := by decide +kernel
theorem d_Mod_inside_137 : decode b_Mod_inside 137 = .ok (.iaload, 1) := by decide +kernel
theorem d_Mod_inside_138 : decode b_Mod_inside 138 = .ok (.iload_n 1, 1) := by decide +kernel
theorem d_Mod_inside_139 : decode b_Mod_inside 139 = .ok (.if_icmp .ne 13, 3) := by decide +kernel
theorem d_Mod_inside_142 : decode b_Mod_inside 142 = .ok (.aload_n 0, 1) := by decide +kernel
theorem d_Mod_inside_143 : decode b_Mod_inside 143 = .ok (.getfield 63, 3) := by decide +kernel
theorem d_Mod_inside_146 : decode b_Mod_inside 146 = .ok (.iload 4, 2) := by decide +kernel
theorem d_Mod_inside_148 : decode b_Mod_inside 148 = .ok (.iaload, 1) := by decide +kernel
theorem d_Mod_inside_149 : decode b_Mod_inside 149 = .ok (.goto 4, 3) := by decide +kernel
theorem d_Mod_inside_152 : decode b_Mod_inside 152 = .ok (.iconst 0, 1) := by decide +kernel
theorem d_Mod_inside_153 : decode b_Mod_inside 153 = .ok (.iadd, 1) := by decide +kernel
theorem d_Mod_inside_154 : decode b_Mod_inside 154 = .ok (.istore_n 3, 1) := by decide +kernel
theorem d_Mod_inside_155 : decode b_Mod_inside 155 = .ok (.iinc 4 1, 3) := by decide +kernel
theorem d_Mod_inside_158 : decode b_Mod_inside 158 = .ok (.goto (-115), 3) := by decide +kernel
theorem d_Mod_inside_161 : decode b_Mod_inside 161 = .ok (.iload_n 3, 1) := by decide +kernel
theorem d_Mod_inside_162 : decode b_Mod_inside 162 = .ok (.ireturn, 1) := by decide +kernel
theorem d_Mod_isPoint_0 : decode b_Mod_isPoint 0 = .ok (.iload_n 0, 1) := by decide +kernel
theorem d_Mod_isPoint_1 : decode b_Mod_isPoint 1 = .ok (.ldc 140, 2) := by decide +kernel
theorem d_Mod_isPoint_3 : decode b_Mod_isPoint 3 = .ok (.ldc 141, 2) := by decide +kernel
theorem d_Mod_isPoint_5 : decode b_Mod_isPoint 5 = .ok (.invokestatic 84, 3) := by decide +kernel
theorem d_Mod_isPoint_8 : decode b_Mod_isPoint 8 = .ok (.ifCond .eq 29, 3) := by decide +kernel
theorem d_Mod_isPoint_11 : decode b_Mod_isPoint 11 = .ok (.iload_n 1, 1) := by decide +kernel
theorem d_Mod_isPoint_12 : decode b_Mod_isPoint 12 = .ok (.ldc 140, 2) := by decide +kernel
theorem d_Mod_isPoint_14 : decode b_Mod_isPoint 14 = .ok (.ldc 141, 2) := by decide +kernel
theorem d_Mod_isPoint_16 : decode b_Mod_isPoint 16 = .ok (.invokestatic 84, 3) := by decide +kernel
theorem d_Mod_isPoint_19 : decode b_Mod_isPoint 19 = .ok (.ifCond .eq 18, 3) := by decide +kernel
theorem d_Mod_isPoint_22 : decode b_Mod_isPoint 22 = .ok (.iload_n 2, 1) := by decide +kernel
theorem d_Mod_isPoint_23 : decode b_Mod_isPoint 23 = .ok (.ldc 140, 2) := by decide +kernel
theorem d_Mod_isPoint_25 : decode b_Mod_isPoint 25 = .ok (.ldc 141, 2) := by decide +kernel
theorem d_Mod_isPoint_27 : decode b_Mod_isPoint 27 = .ok (.invokestatic 84, 3) := by decide +kernel
theorem d_Mod_isPoint_30 : decode b_Mod_isPoint 30 = .ok (.ifCond .eq 7, 3) := by decide +kernel
theorem d_Mod_isPoint_33 : decode b_Mod_isPoint 33 = .ok (.iconst 1, 1) := by decide +kernel
theorem d_Mod_isPoint_34 : decode b_Mod_isPoint 34 = .ok (.goto 4, 3) := by decide +kernel
theorem d_Mod_isPoint_37 : decode b_Mod_isPoint 37 = .ok (.iconst 0, 1) := by decide +kernel
theorem d_Mod_isPoint_38 : decode b_Mod_isPoint 38 = .ok (.ireturn, 1) := by decide +kernel
theorem d_Mod_window_0 : decode b_Mod_window 0 = .ok (.aload_n 0, 1) := by decide +kernel
theorem d_Mod_window_1 : decode b_Mod_window 1 = .ok (.aload_n 0, 1) := by decide +kernel
theorem d_Mod_window_2 : decode b_Mod_window 2 = .ok (.iload_n 1, 1) := by decide +kernel
theorem d_Mod_window_3 : decode b_Mod_window 3 = .ok (.invokevirtual 92, 3) := by decide +kernel
theorem d_Mod_window_6 : decode b_Mod_window 6 = .ok (.ifCond .ne 7, 3) := by decide +kernel
theorem d_Mod_window_9 : decode b_Mod_window 9 = .ok (.iconst 1, 1) := by decide +kernel
theorem d_Mod_window_10 : decode b_Mod_window 10 = .ok (.goto 4, 3) := by decide +kernel
theorem d_Mod_window_13 : decode b_Mod_window 13 = .ok (.iconst 0, 1) := by decide +kernel
theorem d_Mod_window_14 : decode b_Mod_window 14 = .ok (.iload_n 2, 1) := by decide +kernel
theorem d_Mod_window_15 : decode b_Mod_window 15 = .ok (.iload_n 3, 1) := by decide +kernel
theorem d_Mod_window_16 : decode b_Mod_window 16 = .ok (.iload 4, 2) := by decide +kernel
theorem d_Mod_window_18 : decode b_Mod_window 18 = .ok (.invokestatic 142, 3) := by decide +kernel
theorem d_Mod_window_21 : decode b_Mod_window 21 = .ok (.ifCond .ne 7, 3) := by decide +kernel
theorem d_Mod_window_24 : decode b_Mod_window 24 = .ok (.iconst 1, 1) := by decide +kernel
theorem d_Mod_window_25 : decode b_Mod_window 25 = .ok (.goto 4, 3) := by decide +kernel
theorem d_Mod_window_28 : decode b_Mod_window 28 = .ok (.iconst 0, 1) := by decide +kernel
theorem d_Mod_window_29 : decode b_Mod_window 29 = .ok (.aload_n 0, 1) := by decide +kernel
theorem d_Mod_window_30 : decode b_Mod_window 30 = .ok (.getfield 145, 3) := by decide +kernel
theorem d_Mod_window_33 : decode b_Mod_window 33 = .ok (.bipush 30, 2) := by decide +kernel
theorem d_Mod_window_35 : decode b_Mod_window 35 = .ok (.if_icmp .ne 7, 3) := by decide +kernel
theorem d_Mod_window_38 : decode b_Mod_window 38 = .ok (.iconst 1, 1) := by decide +kernel
theorem d_Mod_window_39 : decode b_Mod_window 39 = .ok (.goto 4, 3) := by decide +kernel
theorem d_Mod_window_42 : decode b_Mod_window 42 = .ok (.iconst 0, 1) := by decide +kernel
theorem d_Mod_window_43 : decode b_Mod_window 43 = .ok (.iconst 0, 1) := by decide +kernel
theorem d_Mod_window_44 : decode b_Mod_window 44 = .ok (.invokevirtual 88, 3) := by decide +kernel
theorem d_Mod_window_47 : decode b_Mod_window 47 = .ok (.ifCond .eq 5, 3) := by decide +kernel
theorem d_Mod_window_50 : decode b_Mod_window 50 = .ok (.iconst 0, 1) := by decide +kernel
theorem d_Mod_window_51 : decode b_Mod_window 51 = .ok (.ireturn, 1) := by decide +kernel
theorem d_Mod_window_52 : decode b_Mod_window 52 = .ok (.aload_n 0, 1) := by decide +kernel
theorem d_Mod_window_53 : decode b_Mod_window 53 = .ok (.getfield 66, 3) := by decide +kernel
theorem d_Mod_window_56 : decode b_Mod_window 56 = .ok (.aload_n 0, 1) := by decide +kernel
theorem d_Mod_window_57 : decode b_Mod_window 57 = .ok (.getfield 145, 3) := by decide +kernel
theorem d_Mod_window_60 : decode b_Mod_window 60 = .ok (.iload_n 2, 1) := by decide +kernel
theorem d_Mod_window_61 : decode b_Mod_window 61 = .ok (.iastore, 1) := by decide +kernel
theorem d_Mod_window_62 : decode b_Mod_window 62 = .ok (.aload_n 0, 1) := by decide +kernel
theorem d_Mod_window_63 : decode b_Mod_window 63 = .ok (.getfield 69, 3) := by decide +kernel
theorem d_Mod_window_66 : decode b_Mod_window 66 = .ok (.aload_n 0, 1) := by decide +kernel
theorem d_Mod_window_67 : decode b_Mod_window 67 = .ok (.getfield 145, 3) := by decide +kernel
theorem d_Mod_window_70 : decode b_Mod_window 70 = .ok (.iload_n 3, 1) := by decide +kernel
theorem d_Mod_window_71 : decode b_Mod_window 71 = .ok (.iastore, 1) := by decide +kernel
theorem d_Mod_window_72 : decode b_Mod_window 72 = .ok (.aload_n 0, 1) := by decide +kernel
theorem d_Mod_window_73 : decode b_Mod_window 73 = .ok (.getfield 72, 3) := by decide +kernel
theorem d_Mod_window_76 : decode b_Mod_window 76 = .ok (.aload_n 0, 1) := by decide +kernel
theorem d_Mod_window_77 : decode b_Mod_window 77 = .ok (.getfield 145, 3) := by decide +kernel
theorem d_Mod_window_80 : decode b_Mod_window 80 = .ok (.iload 4, 2) := by decide +kernel
theorem d_Mod_window_82 : decode b_Mod_window 82 = .ok (.iastore, 1) := by decide +kernel
theorem d_Mod_window_83 : decode b_Mod_window 83 = .ok (.aload_n 0, 1) := by decide +kernel
theorem d_Mod_window_84 : decode b_Mod_window 84 = .ok (.dup, 1) := by decide +kernel
theorem d_Mod_window_85 : decode b_Mod_window 85 = .ok (.getfield 145, 3) := by decide +kernel
theorem d_Mod_window_88 : decode b_Mod_window 88 = .ok (.iconst 1, 1) := by decide +kernel
theorem d_Mod_window_89 : decode b_Mod_window 89 = .ok (.iadd, 1) := by decide +kernel
theorem d_Mod_window_90 : decode b_Mod_window 90 = .ok (.putfield 145, 3) := by decide +kernel
theorem d_Mod_window_93 : decode b_Mod_window 93 = .ok (.aload_n 0, 1) := by decide +kernel
theorem d_Mod_window_94 : decode b_Mod_window 94 = .ok (.getfield 145, 3) := by decide +kernel
theorem d_Mod_window_97 : decode b_Mod_window 97 = .ok (.iconst 1, 1) := by decide +kernel
theorem d_Mod_window_98 : decode b_Mod_window 98 = .ok (.isub, 1) := by decide +kernel
theorem d_Mod_window_99 : decode b_Mod_window 99 = .ok (.ireturn, 1) := by decide +kernel
theorem d_Mod_squareTo_0 : decode b_Mod_squareTo 0 = .ok (.aload_n 0, 1) := by decide +kernel
theorem d_Mod_squareTo_1 : decode b_Mod_squareTo 1 = .ok (.getfield 66, 3) := by decide +kernel
theorem d_Mod_squareTo_4 : decode b_Mod_squareTo 4 = .ok (.iload_n 1, 1) := by decide +kernel
theorem d_Mod_squareTo_5 : decode b_Mod_squareTo 5 = .ok (.iaload, 1) := by decide +kernel
theorem d_Mod_squareTo_6 : decode b_Mod_squareTo 6 = .ok (.iload_n 2, 1) := by decide +kernel
theorem d_Mod_squareTo_7 : decode b_Mod_squareTo 7 = .ok (.isub, 1) := by decide +kernel
theorem d_Mod_squareTo_8 : decode b_Mod_squareTo 8 = .ok (.i2l, 1) := by decide +kernel
theorem d_Mod_squareTo_9 : decode b_Mod_squareTo 9 = .ok (.lstore 5, 2) := by decide +kernel
theorem d_Mod_squareTo_11 : decode b_Mod_squareTo 11 = .ok (.aload_n 0, 1) := by decide +kernel
theorem d_Mod_squareTo_12 : decode b_Mod_squareTo 12 = .ok (.getfield 69, 3) := by decide +kernel
theorem d_Mod_squareTo_15 : decode b_Mod_squareTo 15 = .ok (.iload_n 1, 1) := by decide +kernel
theorem d_Mod_squareTo_16 : decode b_Mod_squareTo 16 = .ok (.iaload, 1) := by decide +kernel
theorem d_Mod_squareTo_17 : decode b_Mod_squareTo 17 = .ok (.iload_n 3, 1) := by decide +kernel
theorem d_Mod_squareTo_18 : decode b_Mod_squareTo 18 = .ok (.isub, 1) := by decide +kernel
theorem d_Mod_squareTo_19 : decode b_Mod_squareTo 19 = .ok (.i2l, 1) := by decide +kernel
theorem d_Mod_squareTo_20 : decode b_Mod_squareTo 20 = .ok (.lstore 7, 2) := by decide +kernel
theorem d_Mod_squareTo_22 : decode b_Mod_squareTo 22 = .ok (.aload_n 0, 1) := by decide +kernel
theorem d_Mod_squareTo_23 : decode b_Mod_squareTo 23 = .ok (.getfield 72, 3) := by decide +kernel
theorem d_Mod_squareTo_26 : decode b_Mod_squareTo 26 = .ok (.iload_n 1, 1) := by decide +kernel
theorem d_Mod_squareTo_27 : decode b_Mod_squareTo 27 = .ok (.iaload, 1) := by decide +kernel
theorem d_Mod_squareTo_28 : decode b_Mod_squareTo 28 = .ok (.iload 4, 2) := by decide +kernel
theorem d_Mod_squareTo_30 : decode b_Mod_squareTo 30 = .ok (.isub, 1) := by decide +kernel
theorem d_Mod_squareTo_31 : decode b_Mod_squareTo 31 = .ok (.i2l, 1) := by decide +kernel
theorem d_Mod_squareTo_32 : decode b_Mod_squareTo 32 = .ok (.lstore 9, 2) := by decide +kernel
theorem d_Mod_squareTo_34 : decode b_Mod_squareTo 34 = .ok (.lload 5, 2) := by decide +kernel
theorem d_Mod_squareTo_36 : decode b_Mod_squareTo 36 = .ok (.lload 5, 2) := by decide +kernel
theorem d_Mod_squareTo_38 : decode b_Mod_squareTo 38 = .ok (.lmul, 1) := by decide +kernel
theorem d_Mod_squareTo_39 : decode b_Mod_squareTo 39 = .ok (.lload 7, 2) := by decide +kernel
theorem d_Mod_squareTo_41 : decode b_Mod_squareTo 41 = .ok (.lload 7, 2) := by decide +kernel
theorem d_Mod_squareTo_43 : decode b_Mod_squareTo 43 = .ok (.lmul, 1) := by decide +kernel
theorem d_Mod_squareTo_44 : decode b_Mod_squareTo 44 = .ok (.ladd, 1) := by decide +kernel
theorem d_Mod_squareTo_45 : decode b_Mod_squareTo 45 = .ok (.lload 9, 2) := by decide +kernel
theorem d_Mod_squareTo_47 : decode b_Mod_squareTo 47 = .ok (.lload 9, 2) := by decide +kernel
theorem d_Mod_squareTo_49 : decode b_Mod_squareTo 49 = .ok (.lmul, 1) := by decide +kernel
theorem d_Mod_squareTo_50 : decode b_Mod_squareTo 50 = .ok (.ladd, 1) := by decide +kernel
theorem d_Mod_squareTo_51 : decode b_Mod_squareTo 51 = .ok (.lreturn, 1) := by decide +kernel
theorem d_Mod_reaches_0 : decode b_Mod_reaches 0 = .ok (.iload_n 1, 1) := by decide +kernel
theorem d_Mod_reaches_1 : decode b_Mod_reaches 1 = .ok (.iconst 0, 1) := by decide +kernel
theorem d_Mod_reaches_2 : decode b_Mod_reaches 2 = .ok (.aload_n 0, 1) := by decide +kernel
theorem d_Mod_reaches_3 : decode b_Mod_reaches 3 = .ok (.getfield 145, 3) := by decide +kernel
theorem d_Mod_reaches_6 : decode b_Mod_reaches 6 = .ok (.iconst 1, 1) := by decide +kernel
theorem d_Mod_reaches_7 : decode b_Mod_reaches 7 = .ok (.isub, 1) := by decide +kernel
theorem d_Mod_reaches_8 : decode b_Mod_reaches 8 = .ok (.invokestatic 84, 3) := by decide +kernel
theorem d_Mod_reaches_11 : decode b_Mod_reaches 11 = .ok (.ifCond .ne 7, 3) := by decide +kernel
theorem d_Mod_reaches_14 : decode b_Mod_reaches 14 = .ok (.iconst 1, 1) := by decide +kernel
theorem d_Mod_reaches_15 : decode b_Mod_reaches 15 = .ok (.goto 4, 3) := by decide +kernel
theorem d_Mod_reaches_18 : decode b_Mod_reaches 18 = .ok (.iconst 0, 1) := by decide +kernel
theorem d_Mod_reaches_19 : decode b_Mod_reaches 19 = .ok (.istore 6, 2) := by decide +kernel
theorem d_Mod_reaches_21 : decode b_Mod_reaches 21 = .ok (.aload_n 0, 1) := by decide +kernel
theorem d_Mod_reaches_22 : decode b_Mod_reaches 22 = .ok (.iload 6, 2) := by decide +kernel
theorem d_Mod_reaches_24 : decode b_Mod_reaches 24 = .ok (.iload_n 2, 1) := by decide +kernel
theorem d_Mod_reaches_25 : decode b_Mod_reaches 25 = .ok (.iload_n 3, 1) := by decide +kernel
theorem d_Mod_reaches_26 : decode b_Mod_reaches 26 = .ok (.iload 4, 2) := by decide +kernel
theorem d_Mod_reaches_28 : decode b_Mod_reaches 28 = .ok (.invokestatic 142, 3) := by decide +kernel
theorem d_Mod_reaches_31 : decode b_Mod_reaches 31 = .ok (.ifCond .eq 14, 3) := by decide +kernel
theorem d_Mod_reaches_34 : decode b_Mod_reaches 34 = .ok (.iload 5, 2) := by decide +kernel
theorem d_Mod_reaches_36 : decode b_Mod_reaches 36 = .ok (.iconst 1, 1) := by decide +kernel
theorem d_Mod_reaches_37 : decode b_Mod_reaches 37 = .ok (.ldc 141, 2) := by decide +kernel
theorem d_Mod_reaches_39 : decode b_Mod_reaches 39 = .ok (.invokestatic 84, 3) := by decide +kernel
theorem d_Mod_reaches_42 : decode b_Mod_reaches 42 = .ok (.ifCond .ne 7, 3) := by decide +kernel
theorem d_Mod_reaches_45 : decode b_Mod_reaches 45 = .ok (.iconst 1, 1) := by decide +kernel
theorem d_Mod_reaches_46 : decode b_Mod_reaches 46 = .ok (.goto 4, 3) := by decide +kernel
theorem d_Mod_reaches_49 : decode b_Mod_reaches 49 = .ok (.iconst 0, 1) := by decide +kernel
theorem d_Mod_reaches_50 : decode b_Mod_reaches 50 = .ok (.iconst 0, 1) := by decide +kernel
theorem d_Mod_reaches_51 : decode b_Mod_reaches 51 = .ok (.iconst 0, 1) := by decide +kernel
theorem d_Mod_reaches_52 : decode b_Mod_reaches 52 = .ok (.invokevirtual 88, 3) := by decide +kernel
theorem d_Mod_reaches_55 : decode b_Mod_reaches 55 = .ok (.ifCond .eq 5, 3) := by decide +kernel
theorem d_Mod_reaches_58 : decode b_Mod_reaches 58 = .ok (.iconst 0, 1) := by decide +kernel
theorem d_Mod_reaches_59 : decode b_Mod_reaches 59 = .ok (.ireturn, 1) := by decide +kernel
theorem d_Mod_reaches_60 : decode b_Mod_reaches 60 = .ok (.aload_n 0, 1) := by decide +kernel
theorem d_Mod_reaches_61 : decode b_Mod_reaches 61 = .ok (.getfield 72, 3) := by decide +kernel
theorem d_Mod_reaches_64 : decode b_Mod_reaches 64 = .ok (.iload_n 1, 1) := by decide +kernel
theorem d_Mod_reaches_65 : decode b_Mod_reaches 65 = .ok (.iaload, 1) := by decide +kernel
theorem d_Mod_reaches_66 : decode b_Mod_reaches 66 = .ok (.iload 4, 2) := by decide +kernel
theorem d_Mod_reaches_68 : decode b_Mod_reaches 68 = .ok (.if_icmp .lt 27, 3) := by decide +kernel
theorem d_Mod_reaches_71 : decode b_Mod_reaches 71 = .ok (.aload_n 0, 1) := by decide +kernel
theorem d_Mod_reaches_72 : decode b_Mod_reaches 72 = .ok (.iload_n 1, 1) := by decide +kernel
theorem d_Mod_reaches_73 : decode b_Mod_reaches 73 = .ok (.iload_n 2, 1) := by decide +kernel
theorem d_Mod_reaches_74 : decode b_Mod_reaches 74 = .ok (.iload_n 3, 1) := by decide +kernel
theorem d_Mod_reaches_75 : decode b_Mod_reaches 75 = .ok (.iload 4, 2) := by decide +kernel
theorem d_Mod_reaches_77 : decode b_Mod_reaches 77 = .ok (.invokevirtual 148, 3) := by decide +kernel
theorem d_Mod_reaches_80 : decode b_Mod_reaches 80 = .ok (.iload 5, 2) := by decide +kernel
theorem d_Mod_reaches_82 : decode b_Mod_reaches 82 = .ok (.i2l, 1) := by decide +kernel
theorem d_Mod_reaches_83 : decode b_Mod_reaches 83 = .ok (.iload 5, 2) := by decide +kernel
theorem d_Mod_reaches_85 : decode b_Mod_reaches 85 = .ok (.i2l, 1) := by decide +kernel
theorem d_Mod_reaches_86 : decode b_Mod_reaches 86 = .ok (.lmul, 1) := by decide +kernel
theorem d_Mod_reaches_87 : decode b_Mod_reaches 87 = .ok (.lcmp, 1) := by decide +kernel
theorem d_Mod_reaches_88 : decode b_Mod_reaches 88 = .ok (.ifCond .gt 7, 3) := by decide +kernel
theorem d_Mod_reaches_91 : decode b_Mod_reaches 91 = .ok (.iconst 1, 1) := by decide +kernel
theorem d_Mod_reaches_92 : decode b_Mod_reaches 92 = .ok (.goto 4, 3) := by decide +kernel
theorem d_Mod_reaches_95 : decode b_Mod_reaches 95 = .ok (.iconst 0, 1) := by decide +kernel
theorem d_Mod_reaches_96 : decode b_Mod_reaches 96 = .ok (.ireturn, 1) := by decide +kernel
theorem d_Mod_ladder_0 : decode b_Mod_ladder 0 = .ok (.iload_n 1, 1) := by decide +kernel
theorem d_Mod_ladder_1 : decode b_Mod_ladder 1 = .ok (.iconst 0, 1) := by decide +kernel
theorem d_Mod_ladder_2 : decode b_Mod_ladder 2 = .ok (.aload_n 0, 1) := by decide +kernel
theorem d_Mod_ladder_3 : decode b_Mod_ladder 3 = .ok (.getfield 145, 3) := by decide +kernel
theorem d_Mod_ladder_6 : decode b_Mod_ladder 6 = .ok (.iconst 1, 1) := by decide +kernel
theorem d_Mod_ladder_7 : decode b_Mod_ladder 7 = .ok (.isub, 1) := by decide +kernel
theorem d_Mod_ladder_8 : decode b_Mod_ladder 8 = .ok (.invokestatic 84, 3) := by decide +kernel
theorem d_Mod_ladder_11 : decode b_Mod_ladder 11 = .ok (.ifCond .ne 7, 3) := by decide +kernel
theorem d_Mod_ladder_14 : decode b_Mod_ladder 14 = .ok (.iconst 1, 1) := by decide +kernel
theorem d_Mod_ladder_15 : decode b_Mod_ladder 15 = .ok (.goto 4, 3) := by decide +kernel
theorem d_Mod_ladder_18 : decode b_Mod_ladder 18 = .ok (.iconst 0, 1) := by decide +kernel
theorem d_Mod_ladder_19 : decode b_Mod_ladder 19 = .ok (.istore 5, 2) := by decide +kernel
theorem d_Mod_ladder_21 : decode b_Mod_ladder 21 = .ok (.aload_n 0, 1) := by decide +kernel
theorem d_Mod_ladder_22 : decode b_Mod_ladder 22 = .ok (.iload 5, 2) := by decide +kernel
theorem d_Mod_ladder_24 : decode b_Mod_ladder 24 = .ok (.iload_n 2, 1) := by decide +kernel
theorem d_Mod_ladder_25 : decode b_Mod_ladder 25 = .ok (.iload_n 3, 1) := by decide +kernel
theorem d_Mod_ladder_26 : decode b_Mod_ladder 26 = .ok (.iload 4, 2) := by decide +kernel
theorem d_Mod_ladder_28 : decode b_Mod_ladder 28 = .ok (.invokestatic 142, 3) := by decide +kernel
theorem d_Mod_ladder_31 : decode b_Mod_ladder 31 = .ok (.ifCond .ne 7, 3) := by decide +kernel
theorem d_Mod_ladder_34 : decode b_Mod_ladder 34 = .ok (.iconst 1, 1) := by decide +kernel
theorem d_Mod_ladder_35 : decode b_Mod_ladder 35 = .ok (.goto 4, 3) := by decide +kernel
theorem d_Mod_ladder_38 : decode b_Mod_ladder 38 = .ok (.iconst 0, 1) := by decide +kernel
theorem d_Mod_ladder_39 : decode b_Mod_ladder 39 = .ok (.iconst 0, 1) := by decide +kernel
theorem d_Mod_ladder_40 : decode b_Mod_ladder 40 = .ok (.iconst 0, 1) := by decide +kernel
theorem d_Mod_ladder_41 : decode b_Mod_ladder 41 = .ok (.invokevirtual 88, 3) := by decide +kernel
theorem d_Mod_ladder_44 : decode b_Mod_ladder 44 = .ok (.ifCond .eq 5, 3) := by decide +kernel
theorem d_Mod_ladder_47 : decode b_Mod_ladder 47 = .ok (.iconst 0, 1) := by decide +kernel
theorem d_Mod_ladder_48 : decode b_Mod_ladder 48 = .ok (.ireturn, 1) := by decide +kernel
theorem d_Mod_ladder_49 : decode b_Mod_ladder 49 = .ok (.aload_n 0, 1) := by decide +kernel
theorem d_Mod_ladder_50 : decode b_Mod_ladder 50 = .ok (.iload_n 1, 1) := by decide +kernel
theorem d_Mod_ladder_51 : decode b_Mod_ladder 51 = .ok (.iload_n 2, 1) := by decide +kernel
theorem d_Mod_ladder_52 : decode b_Mod_ladder 52 = .ok (.iload_n 3, 1) := by decide +kernel
theorem d_Mod_ladder_53 : decode b_Mod_ladder 53 = .ok (.iload 4, 2) := by decide +kernel
theorem d_Mod_ladder_55 : decode b_Mod_ladder 55 = .ok (.invokevirtual 148, 3) := by decide +kernel
theorem d_Mod_ladder_58 : decode b_Mod_ladder 58 = .ok (.lstore 6, 2) := by decide +kernel
theorem d_Mod_ladder_60 : decode b_Mod_ladder 60 = .ok (.aload_n 0, 1) := by decide +kernel
theorem d_Mod_ladder_61 : decode b_Mod_ladder 61 = .ok (.getfield 72, 3) := by decide +kernel
theorem d_Mod_ladder_64 : decode b_Mod_ladder 64 = .ok (.iload_n 1, 1) := by decide +kernel
theorem d_Mod_ladder_65 : decode b_Mod_ladder 65 = .ok (.iaload, 1) := by decide +kernel
theorem d_Mod_ladder_66 : decode b_Mod_ladder 66 = .ok (.iload 4, 2) := by decide +kernel
theorem d_Mod_ladder_68 : decode b_Mod_ladder 68 = .ok (.if_icmp .lt 12, 3) := by decide +kernel
theorem d_Mod_ladder_71 : decode b_Mod_ladder 71 = .ok (.lload 6, 2) := by decide +kernel
theorem d_Mod_ladder_73 : decode b_Mod_ladder 73 = .ok (.ldc2_w 152, 3) := by decide +kernel
theorem d_Mod_ladder_76 : decode b_Mod_ladder 76 = .ok (.lcmp, 1) := by decide +kernel
theorem d_Mod_ladder_77 : decode b_Mod_ladder 77 = .ok (.ifCond .le 5, 3) := by decide +kernel
theorem d_Mod_ladder_80 : decode b_Mod_ladder 80 = .ok (.iconst (-1), 1) := by decide +kernel
theorem d_Mod_ladder_81 : decode b_Mod_ladder 81 = .ok (.ireturn, 1) := by decide +kernel
theorem d_Mod_ladder_82 : decode b_Mod_ladder 82 = .ok (.iconst 1, 1) := by decide +kernel
theorem d_Mod_ladder_83 : decode b_Mod_ladder 83 = .ok (.istore 8, 2) := by decide +kernel
theorem d_Mod_ladder_85 : decode b_Mod_ladder 85 = .ok (.ldc 141, 2) := by decide +kernel
theorem d_Mod_ladder_87 : decode b_Mod_ladder 87 = .ok (.istore 9, 2) := by decide +kernel
theorem d_Mod_ladder_89 : decode b_Mod_ladder 89 = .ok (.iload 8, 2) := by decide +kernel
theorem d_Mod_ladder_91 : decode b_Mod_ladder 91 = .ok (.iload 9, 2) := by decide +kernel
theorem d_Mod_ladder_93 : decode b_Mod_ladder 93 = .ok (.if_icmp .ge 41, 3) := by decide +kernel
theorem d_Mod_ladder_96 : decode b_Mod_ladder 96 = .ok (.iload 8, 2) := by decide +kernel
theorem d_Mod_ladder_98 : decode b_Mod_ladder 98 = .ok (.iload 9, 2) := by decide +kernel
theorem d_Mod_ladder_100 : decode b_Mod_ladder 100 = .ok (.iadd, 1) := by decide +kernel
theorem d_Mod_ladder_101 : decode b_Mod_ladder 101 = .ok (.iconst 2, 1) := by decide +kernel
theorem d_Mod_ladder_102 : decode b_Mod_ladder 102 = .ok (.idiv, 1) := by decide +kernel
theorem d_Mod_ladder_103 : decode b_Mod_ladder 103 = .ok (.istore 10, 2) := by decide +kernel
theorem d_Mod_ladder_105 : decode b_Mod_ladder 105 = .ok (.iload 10, 2) := by decide +kernel
theorem d_Mod_ladder_107 : decode b_Mod_ladder 107 = .ok (.i2l, 1) := by decide +kernel
theorem d_Mod_ladder_108 : decode b_Mod_ladder 108 = .ok (.iload 10, 2) := by decide +kernel
theorem d_Mod_ladder_110 : decode b_Mod_ladder 110 = .ok (.i2l, 1) := by decide +kernel
theorem d_Mod_ladder_111 : decode b_Mod_ladder 111 = .ok (.lmul, 1) := by decide +kernel
theorem d_Mod_ladder_112 : decode b_Mod_ladder 112 = .ok (.lload 6, 2) := by decide +kernel
theorem d_Mod_ladder_114 : decode b_Mod_ladder 114 = .ok (.lcmp, 1) := by decide +kernel
theorem d_Mod_ladder_115 : decode b_Mod_ladder 115 = .ok (.ifCond .lt 10, 3) := by decide +kernel
theorem d_Mod_ladder_118 : decode b_Mod_ladder 118 = .ok (.iload 10, 2) := by decide +kernel
theorem d_Mod_ladder_120 : decode b_Mod_ladder 120 = .ok (.istore 9, 2) := by decide +kernel
theorem d_Mod_ladder_122 : decode b_Mod_ladder 122 = .ok (.goto 9, 3) := by decide +kernel
theorem d_Mod_ladder_125 : decode b_Mod_ladder 125 = .ok (.iload 10, 2) := by decide +kernel
theorem d_Mod_ladder_127 : decode b_Mod_ladder 127 = .ok (.iconst 1, 1) := by decide +kernel
theorem d_Mod_ladder_128 : decode b_Mod_ladder 128 = .ok (.iadd, 1) := by decide +kernel
theorem d_Mod_ladder_129 : decode b_Mod_ladder 129 = .ok (.istore 8, 2) := by decide +kernel
theorem d_Mod_ladder_131 : decode b_Mod_ladder 131 = .ok (.goto (-42), 3) := by decide +kernel
theorem d_Mod_ladder_134 : decode b_Mod_ladder 134 = .ok (.iload 8, 2) := by decide +kernel
theorem d_Mod_ladder_136 : decode b_Mod_ladder 136 = .ok (.ireturn, 1) := by decide +kernel
theorem d_Mod_look_0 : decode b_Mod_look 0 = .ok (.iload_n 1, 1) := by decide +kernel
theorem d_Mod_look_1 : decode b_Mod_look 1 = .ok (.iconst 0, 1) := by decide +kernel
theorem d_Mod_look_2 : decode b_Mod_look 2 = .ok (.ldc 154, 2) := by decide +kernel
theorem d_Mod_look_4 : decode b_Mod_look 4 = .ok (.invokestatic 84, 3) := by decide +kernel
theorem d_Mod_look_7 : decode b_Mod_look 7 = .ok (.ifCond .eq 22, 3) := by decide +kernel
theorem d_Mod_look_10 : decode b_Mod_look 10 = .ok (.iload_n 2, 1) := by decide +kernel
theorem d_Mod_look_11 : decode b_Mod_look 11 = .ok (.iconst 1, 1) := by decide +kernel
theorem d_Mod_look_12 : decode b_Mod_look 12 = .ok (.sipush 10000, 3) := by decide +kernel
theorem d_Mod_look_15 : decode b_Mod_look 15 = .ok (.invokestatic 84, 3) := by decide +kernel
theorem d_Mod_look_18 : decode b_Mod_look 18 = .ok (.ifCond .eq 11, 3) := by decide +kernel
theorem d_Mod_look_21 : decode b_Mod_look 21 = .ok (.iload_n 1, 1) := by decide +kernel
theorem d_Mod_look_22 : decode b_Mod_look 22 = .ok (.aload_n 0, 1) := by decide +kernel
theorem d_Mod_look_23 : decode b_Mod_look 23 = .ok (.getfield 155, 3) := by decide +kernel
theorem d_Mod_look_26 : decode b_Mod_look 26 = .ok (.if_icmp .ge 7, 3) := by decide +kernel
theorem d_Mod_look_29 : decode b_Mod_look 29 = .ok (.iconst 1, 1) := by decide +kernel
theorem d_Mod_look_30 : decode b_Mod_look 30 = .ok (.goto 4, 3) := by decide +kernel
theorem d_Mod_look_33 : decode b_Mod_look 33 = .ok (.iconst 0, 1) := by decide +kernel
theorem d_Mod_look_34 : decode b_Mod_look 34 = .ok (.istore_n 3, 1) := by decide +kernel
theorem d_Mod_look_35 : decode b_Mod_look 35 = .ok (.aload_n 0, 1) := by decide +kernel
theorem d_Mod_look_36 : decode b_Mod_look 36 = .ok (.iload_n 3, 1) := by decide +kernel
theorem d_Mod_look_37 : decode b_Mod_look 37 = .ok (.iconst 0, 1) := by decide +kernel
theorem d_Mod_look_38 : decode b_Mod_look 38 = .ok (.iconst 0, 1) := by decide +kernel
theorem d_Mod_look_39 : decode b_Mod_look 39 = .ok (.iconst 0, 1) := by decide +kernel
theorem d_Mod_look_40 : decode b_Mod_look 40 = .ok (.invokevirtual 88, 3) := by decide +kernel
theorem d_Mod_look_43 : decode b_Mod_look 43 = .ok (.ifCond .eq 4, 3) := by decide +kernel
theorem d_Mod_look_46 : decode b_Mod_look 46 = .ok (.return_, 1) := by decide +kernel
theorem d_Mod_look_47 : decode b_Mod_look 47 = .ok (.aload_n 0, 1) := by decide +kernel
theorem d_Mod_look_48 : decode b_Mod_look 48 = .ok (.iload_n 1, 1) := by decide +kernel
theorem d_Mod_look_49 : decode b_Mod_look 49 = .ok (.putfield 155, 3) := by decide +kernel
theorem d_Mod_look_52 : decode b_Mod_look 52 = .ok (.aload_n 0, 1) := by decide +kernel
theorem d_Mod_look_53 : decode b_Mod_look 53 = .ok (.iload_n 2, 1) := by decide +kernel
theorem d_Mod_look_54 : decode b_Mod_look 54 = .ok (.putfield 75, 3) := by decide +kernel
theorem d_Mod_look_57 : decode b_Mod_look 57 = .ok (.return_, 1) := by decide +kernel
theorem d_Mod_old_0 : decode b_Mod_old 0 = .ok (.aload_n 0, 1) := by decide +kernel
theorem d_Mod_old_1 : decode b_Mod_old 1 = .ok (.iload_n 1, 1) := by decide +kernel
theorem d_Mod_old_2 : decode b_Mod_old 2 = .ok (.iconst 0, 1) := by decide +kernel
theorem d_Mod_old_3 : decode b_Mod_old 3 = .ok (.ldc 154, 2) := by decide +kernel
theorem d_Mod_old_5 : decode b_Mod_old 5 = .ok (.invokestatic 84, 3) := by decide +kernel
theorem d_Mod_old_8 : decode b_Mod_old 8 = .ok (.ifCond .ne 7, 3) := by decide +kernel
theorem d_Mod_old_11 : decode b_Mod_old 11 = .ok (.iconst 1, 1) := by decide +kernel
theorem d_Mod_old_12 : decode b_Mod_old 12 = .ok (.goto 4, 3) := by decide +kernel
theorem d_Mod_old_15 : decode b_Mod_old 15 = .ok (.iconst 0, 1) := by decide +kernel
theorem d_Mod_old_16 : decode b_Mod_old 16 = .ok (.iconst 0, 1) := by decide +kernel
theorem d_Mod_old_17 : decode b_Mod_old 17 = .ok (.iconst 0, 1) := by decide +kernel
theorem d_Mod_old_18 : decode b_Mod_old 18 = .ok (.iconst 0, 1) := by decide +kernel
theorem d_Mod_old_19 : decode b_Mod_old 19 = .ok (.invokevirtual 88, 3) := by decide +kernel
theorem d_Mod_old_22 : decode b_Mod_old 22 = .ok (.ifCond .eq 5, 3) := by decide +kernel
theorem d_Mod_old_25 : decode b_Mod_old 25 = .ok (.iconst 0, 1) := by decide +kernel
theorem d_Mod_old_26 : decode b_Mod_old 26 = .ok (.ireturn, 1) := by decide +kernel
theorem d_Mod_old_27 : decode b_Mod_old 27 = .ok (.iload_n 1, 1) := by decide +kernel
theorem d_Mod_old_28 : decode b_Mod_old 28 = .ok (.aload_n 0, 1) := by decide +kernel
theorem d_Mod_old_29 : decode b_Mod_old 29 = .ok (.getfield 155, 3) := by decide +kernel
theorem d_Mod_old_32 : decode b_Mod_old 32 = .ok (.isub, 1) := by decide +kernel
theorem d_Mod_old_33 : decode b_Mod_old 33 = .ok (.aload_n 0, 1) := by decide +kernel
theorem d_Mod_old_34 : decode b_Mod_old 34 = .ok (.getfield 75, 3) := by decide +kernel
theorem d_Mod_old_37 : decode b_Mod_old 37 = .ok (.if_icmp .le 7, 3) := by decide +kernel
theorem d_Mod_old_40 : decode b_Mod_old 40 = .ok (.iconst 1, 1) := by decide +kernel
theorem d_Mod_old_41 : decode b_Mod_old 41 = .ok (.goto 4, 3) := by decide +kernel
theorem d_Mod_old_44 : decode b_Mod_old 44 = .ok (.iconst 0, 1) := by decide +kernel
theorem d_Mod_old_45 : decode b_Mod_old 45 = .ok (.ireturn, 1) := by decide +kernel
theorem d_Mod_count_0 : decode b_Mod_count 0 = .ok (.aload_n 0, 1) := by decide +kernel
theorem d_Mod_count_1 : decode b_Mod_count 1 = .ok (.iload_n 1, 1) := by decide +kernel
theorem d_Mod_count_2 : decode b_Mod_count 2 = .ok (.iconst 0, 1) := by decide +kernel
theorem d_Mod_count_3 : decode b_Mod_count 3 = .ok (.iconst 4, 1) := by decide +kernel
theorem d_Mod_count_4 : decode b_Mod_count 4 = .ok (.invokestatic 84, 3) := by decide +kernel
theorem d_Mod_count_7 : decode b_Mod_count 7 = .ok (.ifCond .ne 7, 3) := by decide +kernel
theorem d_Mod_count_10 : decode b_Mod_count 10 = .ok (.iconst 1, 1) := by decide +kernel
theorem d_Mod_count_11 : decode b_Mod_count 11 = .ok (.goto 4, 3) := by decide +kernel
theorem d_Mod_count_14 : decode b_Mod_count 14 = .ok (.iconst 0, 1) := by decide +kernel
theorem d_Mod_count_15 : decode b_Mod_count 15 = .ok (.iconst 0, 1) := by decide +kernel
theorem d_Mod_count_16 : decode b_Mod_count 16 = .ok (.iconst 0, 1) := by decide +kernel
theorem d_Mod_count_17 : decode b_Mod_count 17 = .ok (.iconst 0, 1) := by decide +kernel
theorem d_Mod_count_18 : decode b_Mod_count 18 = .ok (.invokevirtual 88, 3) := by decide +kernel
theorem d_Mod_count_21 : decode b_Mod_count 21 = .ok (.ifCond .eq 5, 3) := by decide +kernel
theorem d_Mod_count_24 : decode b_Mod_count 24 = .ok (.iconst 0, 1) := by decide +kernel
theorem d_Mod_count_25 : decode b_Mod_count 25 = .ok (.ireturn, 1) := by decide +kernel
theorem d_Mod_count_26 : decode b_Mod_count 26 = .ok (.iconst 0, 1) := by decide +kernel
theorem d_Mod_count_27 : decode b_Mod_count 27 = .ok (.istore_n 2, 1) := by decide +kernel
theorem d_Mod_count_28 : decode b_Mod_count 28 = .ok (.iconst 1, 1) := by decide +kernel
theorem d_Mod_count_29 : decode b_Mod_count 29 = .ok (.istore_n 3, 1) := by decide +kernel
theorem d_Mod_count_30 : decode b_Mod_count 30 = .ok (.iload_n 3, 1) := by decide +kernel
theorem d_Mod_count_31 : decode b_Mod_count 31 = .ok (.bipush 30, 2) := by decide +kernel
theorem d_Mod_count_33 : decode b_Mod_count 33 = .ok (.if_icmp .gt 26, 3) := by decide +kernel
theorem d_Mod_count_36 : decode b_Mod_count 36 = .ok (.iload_n 2, 1) := by decide +kernel
theorem d_Mod_count_37 : decode b_Mod_count 37 = .ok (.aload_n 0, 1) := by decide +kernel
theorem d_Mod_count_38 : decode b_Mod_count 38 = .ok (.getfield 31, 3) := by decide +kernel
theorem d_Mod_count_41 : decode b_Mod_count 41 = .ok (.iload_n 3, 1) := by decide +kernel
theorem d_Mod_count_42 : decode b_Mod_count 42 = .ok (.baload, 1) := by decide +kernel
theorem d_Mod_count_43 : decode b_Mod_count 43 = .ok (.ifCond .eq 7, 3) := by decide +kernel
theorem d_Mod_count_46 : decode b_Mod_count 46 = .ok (.iconst 1, 1) := by decide +kernel
theorem d_Mod_count_47 : decode b_Mod_count 47 = .ok (.goto 4, 3) := by decide +kernel
theorem d_Mod_count_50 : decode b_Mod_count 50 = .ok (.iconst 0, 1) := by decide +kernel
theorem d_Mod_count_51 : decode b_Mod_count 51 = .ok (.iadd, 1) := by decide +kernel
theorem d_Mod_count_52 : decode b_Mod_count 52 = .ok (.istore_n 2, 1) := by decide +kernel
theorem d_Mod_count_53 : decode b_Mod_count 53 = .ok (.iinc 3 1, 3) := by decide +kernel
theorem d_Mod_count_56 : decode b_Mod_count 56 = .ok (.goto (-26), 3) := by decide +kernel
theorem d_Mod_count_59 : decode b_Mod_count 59 = .ok (.iload_n 1, 1) := by decide +kernel
theorem d_Mod_count_60 : decode b_Mod_count 60 = .ok (.ifCond .ne 10, 3) := by decide +kernel
theorem d_Mod_count_63 : decode b_Mod_count 63 = .ok (.aload_n 0, 1) := by decide +kernel
theorem d_Mod_count_64 : decode b_Mod_count 64 = .ok (.getfield 81, 3) := by decide +kernel
theorem d_Mod_count_67 : decode b_Mod_count 67 = .ok (.goto 40, 3) := by decide +kernel
theorem d_Mod_count_70 : decode b_Mod_count 70 = .ok (.iload_n 1, 1) := by decide +kernel
theorem d_Mod_count_71 : decode b_Mod_count 71 = .ok (.iconst 1, 1) := by decide +kernel
theorem d_Mod_count_72 : decode b_Mod_count 72 = .ok (.if_icmp .ne 10, 3) := by decide +kernel
theorem d_Mod_count_75 : decode b_Mod_count 75 = .ok (.aload_n 0, 1) := by decide +kernel
theorem d_Mod_count_76 : decode b_Mod_count 76 = .ok (.getfield 96, 3) := by decide +kernel
theorem d_Mod_count_79 : decode b_Mod_count 79 = .ok (.goto 28, 3) := by decide +kernel
theorem d_Mod_count_82 : decode b_Mod_count 82 = .ok (.iload_n 1, 1) := by decide +kernel
theorem d_Mod_count_83 : decode b_Mod_count 83 = .ok (.iconst 2, 1) := by decide +kernel
theorem d_Mod_count_84 : decode b_Mod_count 84 = .ok (.if_icmp .ne 10, 3) := by decide +kernel
theorem d_Mod_count_87 : decode b_Mod_count 87 = .ok (.aload_n 0, 1) := by decide +kernel
theorem d_Mod_count_88 : decode b_Mod_count 88 = .ok (.getfield 123, 3) := by decide +kernel
theorem d_Mod_count_91 : decode b_Mod_count 91 = .ok (.goto 16, 3) := by decide +kernel
theorem d_Mod_count_94 : decode b_Mod_count 94 = .ok (.iload_n 1, 1) := by decide +kernel
theorem d_Mod_count_95 : decode b_Mod_count 95 = .ok (.iconst 3, 1) := by decide +kernel
theorem d_Mod_count_96 : decode b_Mod_count 96 = .ok (.if_icmp .ne 10, 3) := by decide +kernel
theorem d_Mod_count_99 : decode b_Mod_count 99 = .ok (.aload_n 0, 1) := by decide +kernel
theorem d_Mod_count_100 : decode b_Mod_count 100 = .ok (.getfield 145, 3) := by decide +kernel
theorem d_Mod_count_103 : decode b_Mod_count 103 = .ok (.goto 4, 3) := by decide +kernel
theorem d_Mod_count_106 : decode b_Mod_count 106 = .ok (.iload_n 2, 1) := by decide +kernel
theorem d_Mod_count_107 : decode b_Mod_count 107 = .ok (.ireturn, 1) := by decide +kernel
