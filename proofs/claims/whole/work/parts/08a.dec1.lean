theorem dX0_init_0 : decode cX0_init 0 = .ok (.aload_n 0, 1) := by decide +kernel
theorem dX0_init_1 : decode cX0_init 1 = .ok (.invokespecial 3, 3) := by decide +kernel
theorem dX0_init_4 : decode cX0_init 4 = .ok (.aload_n 0, 1) := by decide +kernel
theorem dX0_init_5 : decode cX0_init 5 = .ok (.iload_n 1, 1) := by decide +kernel
theorem dX0_init_6 : decode cX0_init 6 = .ok (.iconst 1, 1) := by decide +kernel
theorem dX0_init_7 : decode cX0_init 7 = .ok (.invokestatic 9, 3) := by decide +kernel
theorem dX0_init_10 : decode cX0_init 10 = .ok (.newarray .int, 2) := by decide +kernel
theorem dX0_init_12 : decode cX0_init 12 = .ok (.putfield 15, 3) := by decide +kernel
theorem dX0_init_15 : decode cX0_init 15 = .ok (.return_, 1) := by decide +kernel
theorem dX0_count_0 : decode cX0_count 0 = .ok (.aload_n 0, 1) := by decide +kernel
theorem dX0_count_1 : decode cX0_count 1 = .ok (.getfield 21, 3) := by decide +kernel
theorem dX0_count_4 : decode cX0_count 4 = .ok (.ireturn, 1) := by decide +kernel
theorem dX0_room_0 : decode cX0_room 0 = .ok (.aload_n 0, 1) := by decide +kernel
theorem dX0_room_1 : decode cX0_room 1 = .ok (.getfield 15, 3) := by decide +kernel
theorem dX0_room_4 : decode cX0_room 4 = .ok (.arraylength, 1) := by decide +kernel
theorem dX0_room_5 : decode cX0_room 5 = .ok (.aload_n 0, 1) := by decide +kernel
theorem dX0_room_6 : decode cX0_room 6 = .ok (.getfield 21, 3) := by decide +kernel
theorem dX0_room_9 : decode cX0_room 9 = .ok (.isub, 1) := by decide +kernel
theorem dX0_room_10 : decode cX0_room 10 = .ok (.ireturn, 1) := by decide +kernel
theorem dX0_placeOf_0 : decode cX0_placeOf 0 = .ok (.aload_n 0, 1) := by decide +kernel
theorem dX0_placeOf_1 : decode cX0_placeOf 1 = .ok (.getfield 25, 3) := by decide +kernel
theorem dX0_placeOf_4 : decode cX0_placeOf 4 = .ok (.iload_n 1, 1) := by decide +kernel
theorem dX0_placeOf_5 : decode cX0_placeOf 5 = .ok (.iadd, 1) := by decide +kernel
theorem dX0_placeOf_6 : decode cX0_placeOf 6 = .ok (.istore_n 2, 1) := by decide +kernel
theorem dX0_placeOf_7 : decode cX0_placeOf 7 = .ok (.iload_n 2, 1) := by decide +kernel
theorem dX0_placeOf_8 : decode cX0_placeOf 8 = .ok (.aload_n 0, 1) := by decide +kernel
theorem dX0_placeOf_9 : decode cX0_placeOf 9 = .ok (.getfield 15, 3) := by decide +kernel
theorem dX0_placeOf_12 : decode cX0_placeOf 12 = .ok (.arraylength, 1) := by decide +kernel
theorem dX0_placeOf_13 : decode cX0_placeOf 13 = .ok (.if_icmp .lt 13, 3) := by decide +kernel
theorem dX0_placeOf_16 : decode cX0_placeOf 16 = .ok (.iload_n 2, 1) := by decide +kernel
theorem dX0_placeOf_17 : decode cX0_placeOf 17 = .ok (.aload_n 0, 1) := by decide +kernel
theorem dX0_placeOf_18 : decode cX0_placeOf 18 = .ok (.getfield 15, 3) := by decide +kernel
theorem dX0_placeOf_21 : decode cX0_placeOf 21 = .ok (.arraylength, 1) := by decide +kernel
theorem dX0_placeOf_22 : decode cX0_placeOf 22 = .ok (.isub, 1) := by decide +kernel
theorem dX0_placeOf_23 : decode cX0_placeOf 23 = .ok (.goto 4, 3) := by decide +kernel
theorem dX0_placeOf_26 : decode cX0_placeOf 26 = .ok (.iload_n 2, 1) := by decide +kernel
theorem dX0_placeOf_27 : decode cX0_placeOf 27 = .ok (.ireturn, 1) := by decide +kernel
theorem dX0_add_0 : decode cX0_add 0 = .ok (.aload_n 0, 1) := by decide +kernel
theorem dX0_add_1 : decode cX0_add 1 = .ok (.aload_n 0, 1) := by decide +kernel
theorem dX0_add_2 : decode cX0_add 2 = .ok (.getfield 21, 3) := by decide +kernel
theorem dX0_add_5 : decode cX0_add 5 = .ok (.invokevirtual 28, 3) := by decide +kernel
theorem dX0_add_8 : decode cX0_add 8 = .ok (.istore_n 2, 1) := by decide +kernel
theorem dX0_add_9 : decode cX0_add 9 = .ok (.aload_n 0, 1) := by decide +kernel
theorem dX0_add_10 : decode cX0_add 10 = .ok (.getfield 21, 3) := by decide +kernel
theorem dX0_add_13 : decode cX0_add 13 = .ok (.aload_n 0, 1) := by decide +kernel
theorem dX0_add_14 : decode cX0_add 14 = .ok (.getfield 15, 3) := by decide +kernel
theorem dX0_add_17 : decode cX0_add 17 = .ok (.arraylength, 1) := by decide +kernel
theorem dX0_add_18 : decode cX0_add 18 = .ok (.if_icmp .ge 16, 3) := by decide +kernel
theorem dX0_add_21 : decode cX0_add 21 = .ok (.iload_n 2, 1) := by decide +kernel
theorem dX0_add_22 : decode cX0_add 22 = .ok (.ifCond .lt 12, 3) := by decide +kernel
theorem dX0_add_25 : decode cX0_add 25 = .ok (.iload_n 2, 1) := by decide +kernel
theorem dX0_add_26 : decode cX0_add 26 = .ok (.aload_n 0, 1) := by decide +kernel
theorem dX0_add_27 : decode cX0_add 27 = .ok (.getfield 15, 3) := by decide +kernel
theorem dX0_add_30 : decode cX0_add 30 = .ok (.arraylength, 1) := by decide +kernel
theorem dX0_add_31 : decode cX0_add 31 = .ok (.if_icmp .lt 5, 3) := by decide +kernel
theorem dX0_add_34 : decode cX0_add 34 = .ok (.iconst 0, 1) := by decide +kernel
theorem dX0_add_35 : decode cX0_add 35 = .ok (.ireturn, 1) := by decide +kernel
theorem dX0_add_36 : decode cX0_add 36 = .ok (.aload_n 0, 1) := by decide +kernel
theorem dX0_add_37 : decode cX0_add 37 = .ok (.getfield 15, 3) := by decide +kernel
theorem dX0_add_40 : decode cX0_add 40 = .ok (.iload_n 2, 1) := by decide +kernel
theorem dX0_add_41 : decode cX0_add 41 = .ok (.iload_n 1, 1) := by decide +kernel
theorem dX0_add_42 : decode cX0_add 42 = .ok (.iastore, 1) := by decide +kernel
theorem dX0_add_43 : decode cX0_add 43 = .ok (.aload_n 0, 1) := by decide +kernel
theorem dX0_add_44 : decode cX0_add 44 = .ok (.dup, 1) := by decide +kernel
theorem dX0_add_45 : decode cX0_add 45 = .ok (.getfield 21, 3) := by decide +kernel
theorem dX0_add_48 : decode cX0_add 48 = .ok (.iconst 1, 1) := by decide +kernel
theorem dX0_add_49 : decode cX0_add 49 = .ok (.iadd, 1) := by decide +kernel
theorem dX0_add_50 : decode cX0_add 50 = .ok (.putfield 21, 3) := by decide +kernel
theorem dX0_add_53 : decode cX0_add 53 = .ok (.iconst 1, 1) := by decide +kernel
theorem dX0_add_54 : decode cX0_add 54 = .ok (.ireturn, 1) := by decide +kernel
theorem dX0_addNumber_0 : decode cX0_addNumber 0 = .ok (.iload_n 1, 1) := by decide +kernel
theorem dX0_addNumber_1 : decode cX0_addNumber 1 = .ok (.bipush 100, 2) := by decide +kernel
theorem dX0_addNumber_3 : decode cX0_addNumber 3 = .ok (.if_icmp .lt 15, 3) := by decide +kernel
theorem dX0_addNumber_6 : decode cX0_addNumber 6 = .ok (.aload_n 0, 1) := by decide +kernel
theorem dX0_addNumber_7 : decode cX0_addNumber 7 = .ok (.bipush 48, 2) := by decide +kernel
theorem dX0_addNumber_9 : decode cX0_addNumber 9 = .ok (.iload_n 1, 1) := by decide +kernel
theorem dX0_addNumber_10 : decode cX0_addNumber 10 = .ok (.bipush 100, 2) := by decide +kernel
theorem dX0_addNumber_12 : decode cX0_addNumber 12 = .ok (.idiv, 1) := by decide +kernel
theorem dX0_addNumber_13 : decode cX0_addNumber 13 = .ok (.iadd, 1) := by decide +kernel
theorem dX0_addNumber_14 : decode cX0_addNumber 14 = .ok (.invokevirtual 32, 3) := by decide +kernel
theorem dX0_addNumber_17 : decode cX0_addNumber 17 = .ok (.pop, 1) := by decide +kernel
theorem dX0_addNumber_18 : decode cX0_addNumber 18 = .ok (.iload_n 1, 1) := by decide +kernel
theorem dX0_addNumber_19 : decode cX0_addNumber 19 = .ok (.bipush 10, 2) := by decide +kernel
theorem dX0_addNumber_21 : decode cX0_addNumber 21 = .ok (.if_icmp .lt 18, 3) := by decide +kernel
theorem dX0_addNumber_24 : decode cX0_addNumber 24 = .ok (.aload_n 0, 1) := by decide +kernel
theorem dX0_addNumber_25 : decode cX0_addNumber 25 = .ok (.bipush 48, 2) := by decide +kernel
theorem dX0_addNumber_27 : decode cX0_addNumber 27 = .ok (.iload_n 1, 1) := by decide +kernel
theorem dX0_addNumber_28 : decode cX0_addNumber 28 = .ok (.bipush 10, 2) := by decide +kernel
theorem dX0_addNumber_30 : decode cX0_addNumber 30 = .ok (.idiv, 1) := by decide +kernel
theorem dX0_addNumber_31 : decode cX0_addNumber 31 = .ok (.bipush 10, 2) := by decide +kernel
theorem dX0_addNumber_33 : decode cX0_addNumber 33 = .ok (.irem, 1) := by decide +kernel
theorem dX0_addNumber_34 : decode cX0_addNumber 34 = .ok (.iadd, 1) := by decide +kernel
theorem dX0_addNumber_35 : decode cX0_addNumber 35 = .ok (.invokevirtual 32, 3) := by decide +kernel
theorem dX0_addNumber_38 : decode cX0_addNumber 38 = .ok (.pop, 1) := by decide +kernel
theorem dX0_addNumber_39 : decode cX0_addNumber 39 = .ok (.aload_n 0, 1) := by decide +kernel
theorem dX0_addNumber_40 : decode cX0_addNumber 40 = .ok (.bipush 48, 2) := by decide +kernel
theorem dX0_addNumber_42 : decode cX0_addNumber 42 = .ok (.iload_n 1, 1) := by decide +kernel
theorem dX0_addNumber_43 : decode cX0_addNumber 43 = .ok (.bipush 10, 2) := by decide +kernel
theorem dX0_addNumber_45 : decode cX0_addNumber 45 = .ok (.irem, 1) := by decide +kernel
theorem dX0_addNumber_46 : decode cX0_addNumber 46 = .ok (.iadd, 1) := by decide +kernel
theorem dX0_addNumber_47 : decode cX0_addNumber 47 = .ok (.invokevirtual 32, 3) := by decide +kernel
theorem dX0_addNumber_50 : decode cX0_addNumber 50 = .ok (.pop, 1) := by decide +kernel
theorem dX0_addNumber_51 : decode cX0_addNumber 51 = .ok (.return_, 1) := by decide +kernel
theorem dX0_at_0 : decode cX0_at 0 = .ok (.aload_n 0, 1) := by decide +kernel
theorem dX0_at_1 : decode cX0_at 1 = .ok (.iload_n 1, 1) := by decide +kernel
theorem dX0_at_2 : decode cX0_at 2 = .ok (.invokevirtual 28, 3) := by decide +kernel
theorem dX0_at_5 : decode cX0_at 5 = .ok (.istore_n 2, 1) := by decide +kernel
theorem dX0_at_6 : decode cX0_at 6 = .ok (.iload_n 1, 1) := by decide +kernel
theorem dX0_at_7 : decode cX0_at 7 = .ok (.ifCond .lt 24, 3) := by decide +kernel
theorem dX0_at_10 : decode cX0_at 10 = .ok (.iload_n 1, 1) := by decide +kernel
theorem dX0_at_11 : decode cX0_at 11 = .ok (.aload_n 0, 1) := by decide +kernel
theorem dX0_at_12 : decode cX0_at 12 = .ok (.getfield 21, 3) := by decide +kernel
theorem dX0_at_15 : decode cX0_at 15 = .ok (.if_icmp .ge 16, 3) := by decide +kernel
theorem dX0_at_18 : decode cX0_at 18 = .ok (.iload_n 2, 1) := by decide +kernel
theorem dX0_at_19 : decode cX0_at 19 = .ok (.ifCond .lt 12, 3) := by decide +kernel
theorem dX0_at_22 : decode cX0_at 22 = .ok (.iload_n 2, 1) := by decide +kernel
theorem dX0_at_23 : decode cX0_at 23 = .ok (.aload_n 0, 1) := by decide +kernel
theorem dX0_at_24 : decode cX0_at 24 = .ok (.getfield 15, 3) := by decide +kernel
theorem dX0_at_27 : decode cX0_at 27 = .ok (.arraylength, 1) := by decide +kernel
theorem dX0_at_28 : decode cX0_at 28 = .ok (.if_icmp .lt 5, 3) := by decide +kernel
theorem dX0_at_31 : decode cX0_at 31 = .ok (.iconst (-1), 1) := by decide +kernel
theorem dX0_at_32 : decode cX0_at 32 = .ok (.ireturn, 1) := by decide +kernel
theorem dX0_at_33 : decode cX0_at 33 = .ok (.aload_n 0, 1) := by decide +kernel
theorem dX0_at_34 : decode cX0_at 34 = .ok (.getfield 15, 3) := by decide +kernel
theorem dX0_at_37 : decode cX0_at 37 = .ok (.iload_n 2, 1) := by decide +kernel
theorem dX0_at_38 : decode cX0_at 38 = .ok (.iaload, 1) := by decide +kernel
theorem dX0_at_39 : decode cX0_at 39 = .ok (.ireturn, 1) := by decide +kernel
theorem dX0_last_0 : decode cX0_last 0 = .ok (.aload_n 0, 1) := by decide +kernel
theorem dX0_last_1 : decode cX0_last 1 = .ok (.aload_n 0, 1) := by decide +kernel
theorem dX0_last_2 : decode cX0_last 2 = .ok (.getfield 21, 3) := by decide +kernel
theorem dX0_last_5 : decode cX0_last 5 = .ok (.iconst 1, 1) := by decide +kernel
theorem dX0_last_6 : decode cX0_last 6 = .ok (.isub, 1) := by decide +kernel
theorem dX0_last_7 : decode cX0_last 7 = .ok (.invokevirtual 36, 3) := by decide +kernel
theorem dX0_last_10 : decode cX0_last 10 = .ok (.ireturn, 1) := by decide +kernel
theorem dX0_removeFirst_0 : decode cX0_removeFirst 0 = .ok (.aload_n 0, 1) := by decide +kernel
theorem dX0_removeFirst_1 : decode cX0_removeFirst 1 = .ok (.getfield 21, 3) := by decide +kernel
theorem dX0_removeFirst_4 : decode cX0_removeFirst 4 = .ok (.ifCond .le 22, 3) := by decide +kernel
theorem dX0_removeFirst_7 : decode cX0_removeFirst 7 = .ok (.aload_n 0, 1) := by decide +kernel
theorem dX0_removeFirst_8 : decode cX0_removeFirst 8 = .ok (.getfield 25, 3) := by decide +kernel
theorem dX0_removeFirst_11 : decode cX0_removeFirst 11 = .ok (.ifCond .lt 15, 3) := by decide +kernel
theorem dX0_removeFirst_14 : decode cX0_removeFirst 14 = .ok (.aload_n 0, 1) := by decide +kernel
theorem dX0_removeFirst_15 : decode cX0_removeFirst 15 = .ok (.getfield 25, 3) := by decide +kernel
theorem dX0_removeFirst_18 : decode cX0_removeFirst 18 = .ok (.aload_n 0, 1) := by decide +kernel
theorem dX0_removeFirst_19 : decode cX0_removeFirst 19 = .ok (.getfield 15, 3) := by decide +kernel
theorem dX0_removeFirst_22 : decode cX0_removeFirst 22 = .ok (.arraylength, 1) := by decide +kernel
theorem dX0_removeFirst_23 : decode cX0_removeFirst 23 = .ok (.if_icmp .lt 5, 3) := by decide +kernel
theorem dX0_removeFirst_26 : decode cX0_removeFirst 26 = .ok (.iconst (-1), 1) := by decide +kernel
theorem dX0_removeFirst_27 : decode cX0_removeFirst 27 = .ok (.ireturn, 1) := by decide +kernel
theorem dX0_removeFirst_28 : decode cX0_removeFirst 28 = .ok (.aload_n 0, 1) := by decide +kernel
theorem dX0_removeFirst_29 : decode cX0_removeFirst 29 = .ok (.getfield 15, 3) := by decide +kernel
theorem dX0_removeFirst_32 : decode cX0_removeFirst 32 = .ok (.aload_n 0, 1) := by decide +kernel
theorem dX0_removeFirst_33 : decode cX0_removeFirst 33 = .ok (.getfield 25, 3) := by decide +kernel
theorem dX0_removeFirst_36 : decode cX0_removeFirst 36 = .ok (.iaload, 1) := by decide +kernel
theorem dX0_removeFirst_37 : decode cX0_removeFirst 37 = .ok (.istore_n 1, 1) := by decide +kernel
theorem dX0_removeFirst_38 : decode cX0_removeFirst 38 = .ok (.aload_n 0, 1) := by decide +kernel
theorem dX0_removeFirst_39 : decode cX0_removeFirst 39 = .ok (.aload_n 0, 1) := by decide +kernel
theorem dX0_removeFirst_40 : decode cX0_removeFirst 40 = .ok (.iconst 1, 1) := by decide +kernel
theorem dX0_removeFirst_41 : decode cX0_removeFirst 41 = .ok (.invokevirtual 28, 3) := by decide +kernel
theorem dX0_removeFirst_44 : decode cX0_removeFirst 44 = .ok (.putfield 25, 3) := by decide +kernel
theorem dX0_removeFirst_47 : decode cX0_removeFirst 47 = .ok (.aload_n 0, 1) := by decide +kernel
theorem dX0_removeFirst_48 : decode cX0_removeFirst 48 = .ok (.dup, 1) := by decide +kernel
theorem dX0_removeFirst_49 : decode cX0_removeFirst 49 = .ok (.getfield 21, 3) := by decide +kernel
theorem dX0_removeFirst_52 : decode cX0_removeFirst 52 = .ok (.iconst 1, 1) := by decide +kernel
theorem dX0_removeFirst_53 : decode cX0_removeFirst 53 = .ok (.isub, 1) := by decide +kernel
theorem dX0_removeFirst_54 : decode cX0_removeFirst 54 = .ok (.putfield 21, 3) := by decide +kernel
theorem dX0_removeFirst_57 : decode cX0_removeFirst 57 = .ok (.iload_n 1, 1) := by decide +kernel
theorem dX0_removeFirst_58 : decode cX0_removeFirst 58 = .ok (.ireturn, 1) := by decide +kernel
theorem dX0_removeLast_0 : decode cX0_removeLast 0 = .ok (.aload_n 0, 1) := by decide +kernel
theorem dX0_removeLast_1 : decode cX0_removeLast 1 = .ok (.aload_n 0, 1) := by decide +kernel
theorem dX0_removeLast_2 : decode cX0_removeLast 2 = .ok (.getfield 21, 3) := by decide +kernel
theorem dX0_removeLast_5 : decode cX0_removeLast 5 = .ok (.iconst 1, 1) := by decide +kernel
theorem dX0_removeLast_6 : decode cX0_removeLast 6 = .ok (.isub, 1) := by decide +kernel
theorem dX0_removeLast_7 : decode cX0_removeLast 7 = .ok (.invokevirtual 36, 3) := by decide +kernel
theorem dX0_removeLast_10 : decode cX0_removeLast 10 = .ok (.istore_n 1, 1) := by decide +kernel
theorem dX0_removeLast_11 : decode cX0_removeLast 11 = .ok (.aload_n 0, 1) := by decide +kernel
theorem dX0_removeLast_12 : decode cX0_removeLast 12 = .ok (.getfield 21, 3) := by decide +kernel
theorem dX0_removeLast_15 : decode cX0_removeLast 15 = .ok (.ifCond .le 13, 3) := by decide +kernel
theorem dX0_removeLast_18 : decode cX0_removeLast 18 = .ok (.aload_n 0, 1) := by decide +kernel
theorem dX0_removeLast_19 : decode cX0_removeLast 19 = .ok (.dup, 1) := by decide +kernel
theorem dX0_removeLast_20 : decode cX0_removeLast 20 = .ok (.getfield 21, 3) := by decide +kernel
theorem dX0_removeLast_23 : decode cX0_removeLast 23 = .ok (.iconst 1, 1) := by decide +kernel
theorem dX0_removeLast_24 : decode cX0_removeLast 24 = .ok (.isub, 1) := by decide +kernel
theorem dX0_removeLast_25 : decode cX0_removeLast 25 = .ok (.putfield 21, 3) := by decide +kernel
theorem dX0_removeLast_28 : decode cX0_removeLast 28 = .ok (.iload_n 1, 1) := by decide +kernel
theorem dX0_removeLast_29 : decode cX0_removeLast 29 = .ok (.ireturn, 1) := by decide +kernel
theorem dX0_clear_0 : decode cX0_clear 0 = .ok (.aload_n 0, 1) := by decide +kernel
theorem dX0_clear_1 : decode cX0_clear 1 = .ok (.iconst 0, 1) := by decide +kernel
theorem dX0_clear_2 : decode cX0_clear 2 = .ok (.putfield 25, 3) := by decide +kernel
theorem dX0_clear_5 : decode cX0_clear 5 = .ok (.aload_n 0, 1) := by decide +kernel
theorem dX0_clear_6 : decode cX0_clear 6 = .ok (.iconst 0, 1) := by decide +kernel
theorem dX0_clear_7 : decode cX0_clear 7 = .ok (.putfield 21, 3) := by decide +kernel
theorem dX0_clear_10 : decode cX0_clear 10 = .ok (.return_, 1) := by decide +kernel
theorem dX0_addAll_0 : decode cX0_addAll 0 = .ok (.aload_n 1, 1) := by decide +kernel
theorem dX0_addAll_1 : decode cX0_addAll 1 = .ok (.invokevirtual 39, 3) := by decide +kernel
theorem dX0_addAll_4 : decode cX0_addAll 4 = .ok (.istore_n 2, 1) := by decide +kernel
theorem dX0_addAll_5 : decode cX0_addAll 5 = .ok (.iconst 0, 1) := by decide +kernel
theorem dX0_addAll_6 : decode cX0_addAll 6 = .ok (.istore_n 3, 1) := by decide +kernel
theorem dX0_addAll_7 : decode cX0_addAll 7 = .ok (.iload_n 3, 1) := by decide +kernel
theorem dX0_addAll_8 : decode cX0_addAll 8 = .ok (.iload_n 2, 1) := by decide +kernel
theorem dX0_addAll_9 : decode cX0_addAll 9 = .ok (.if_icmp .ge 18, 3) := by decide +kernel
theorem dX0_addAll_12 : decode cX0_addAll 12 = .ok (.aload_n 0, 1) := by decide +kernel
theorem dX0_addAll_13 : decode cX0_addAll 13 = .ok (.aload_n 1, 1) := by decide +kernel
theorem dX0_addAll_14 : decode cX0_addAll 14 = .ok (.invokevirtual 42, 3) := by decide +kernel
theorem dX0_addAll_17 : decode cX0_addAll 17 = .ok (.invokevirtual 32, 3) := by decide +kernel
theorem dX0_addAll_20 : decode cX0_addAll 20 = .ok (.pop, 1) := by decide +kernel
theorem dX0_addAll_21 : decode cX0_addAll 21 = .ok (.iinc 3 1, 3) := by decide +kernel
theorem dX0_addAll_24 : decode cX0_addAll 24 = .ok (.goto (-17), 3) := by decide +kernel
theorem dX0_addAll_27 : decode cX0_addAll 27 = .ok (.return_, 1) := by decide +kernel
theorem dX1_init_0 : decode cX1_init 0 = .ok (.aload_n 0, 1) := by decide +kernel
theorem dX1_init_1 : decode cX1_init 1 = .ok (.invokespecial 1, 3) := by decide +kernel
theorem dX1_init_4 : decode cX1_init 4 = .ok (.return_, 1) := by decide +kernel
theorem dX1_copy_0 : decode cX1_copy 0 = .ok (.aload_n 0, 1) := by decide +kernel
theorem dX1_copy_1 : decode cX1_copy 1 = .ok (.aload_n 1, 1) := by decide +kernel
theorem dX1_copy_2 : decode cX1_copy 2 = .ok (.getfield 7, 3) := by decide +kernel
theorem dX1_copy_5 : decode cX1_copy 5 = .ok (.putfield 7, 3) := by decide +kernel
theorem dX1_copy_8 : decode cX1_copy 8 = .ok (.aload_n 0, 1) := by decide +kernel
theorem dX1_copy_9 : decode cX1_copy 9 = .ok (.aload_n 1, 1) := by decide +kernel
theorem dX1_copy_10 : decode cX1_copy 10 = .ok (.getfield 13, 3) := by decide +kernel
theorem dX1_copy_13 : decode cX1_copy 13 = .ok (.putfield 13, 3) := by decide +kernel
theorem dX1_copy_16 : decode cX1_copy 16 = .ok (.aload_n 0, 1) := by decide +kernel
theorem dX1_copy_17 : decode cX1_copy 17 = .ok (.aload_n 1, 1) := by decide +kernel
theorem dX1_copy_18 : decode cX1_copy 18 = .ok (.getfield 16, 3) := by decide +kernel
theorem dX1_copy_21 : decode cX1_copy 21 = .ok (.putfield 16, 3) := by decide +kernel
theorem dX1_copy_24 : decode cX1_copy 24 = .ok (.aload_n 0, 1) := by decide +kernel
theorem dX1_copy_25 : decode cX1_copy 25 = .ok (.aload_n 1, 1) := by decide +kernel
theorem dX1_copy_26 : decode cX1_copy 26 = .ok (.getfield 20, 3) := by decide +kernel
theorem dX1_copy_29 : decode cX1_copy 29 = .ok (.putfield 20, 3) := by decide +kernel
theorem dX1_copy_32 : decode cX1_copy 32 = .ok (.aload_n 0, 1) := by decide +kernel
theorem dX1_copy_33 : decode cX1_copy 33 = .ok (.aload_n 1, 1) := by decide +kernel
theorem dX1_copy_34 : decode cX1_copy 34 = .ok (.getfield 23, 3) := by decide +kernel
theorem dX1_copy_37 : decode cX1_copy 37 = .ok (.putfield 23, 3) := by decide +kernel
theorem dX1_copy_40 : decode cX1_copy 40 = .ok (.return_, 1) := by decide +kernel
theorem dX1_reset_0 : decode cX1_reset 0 = .ok (.aload_n 0, 1) := by decide +kernel
theorem dX1_reset_1 : decode cX1_reset 1 = .ok (.iconst 0, 1) := by decide +kernel
theorem dX1_reset_2 : decode cX1_reset 2 = .ok (.iconst 0, 1) := by decide +kernel
theorem dX1_reset_3 : decode cX1_reset 3 = .ok (.invokevirtual 26, 3) := by decide +kernel
theorem dX1_reset_6 : decode cX1_reset 6 = .ok (.aload_n 0, 1) := by decide +kernel
theorem dX1_reset_7 : decode cX1_reset 7 = .ok (.iconst 0, 1) := by decide +kernel
theorem dX1_reset_8 : decode cX1_reset 8 = .ok (.putfield 20, 3) := by decide +kernel
theorem dX1_reset_11 : decode cX1_reset 11 = .ok (.aload_n 0, 1) := by decide +kernel
theorem dX1_reset_12 : decode cX1_reset 12 = .ok (.iconst 0, 1) := by decide +kernel
theorem dX1_reset_13 : decode cX1_reset 13 = .ok (.putfield 23, 3) := by decide +kernel
theorem dX1_reset_16 : decode cX1_reset 16 = .ok (.return_, 1) := by decide +kernel
theorem dX1_goTo_0 : decode cX1_goTo 0 = .ok (.aload_n 0, 1) := by decide +kernel
theorem dX1_goTo_1 : decode cX1_goTo 1 = .ok (.iload_n 1, 1) := by decide +kernel
theorem dX1_goTo_2 : decode cX1_goTo 2 = .ok (.putfield 7, 3) := by decide +kernel
theorem dX1_goTo_5 : decode cX1_goTo 5 = .ok (.aload_n 0, 1) := by decide +kernel
theorem dX1_goTo_6 : decode cX1_goTo 6 = .ok (.iload_n 2, 1) := by decide +kernel
theorem dX1_goTo_7 : decode cX1_goTo 7 = .ok (.putfield 13, 3) := by decide +kernel
theorem dX1_goTo_10 : decode cX1_goTo 10 = .ok (.aload_n 0, 1) := by decide +kernel
theorem dX1_goTo_11 : decode cX1_goTo 11 = .ok (.iconst 0, 1) := by decide +kernel
theorem dX1_goTo_12 : decode cX1_goTo 12 = .ok (.putfield 16, 3) := by decide +kernel
theorem dX1_goTo_15 : decode cX1_goTo 15 = .ok (.return_, 1) := by decide +kernel
theorem dX2_init_0 : decode cX2_init 0 = .ok (.aload_n 0, 1) := by decide +kernel
theorem dX2_init_1 : decode cX2_init 1 = .ok (.invokespecial 3, 3) := by decide +kernel
theorem dX2_init_4 : decode cX2_init 4 = .ok (.aload_n 0, 1) := by decide +kernel
theorem dX2_init_5 : decode cX2_init 5 = .ok (.sipush 960, 3) := by decide +kernel
theorem dX2_init_8 : decode cX2_init 8 = .ok (.newarray .int, 2) := by decide +kernel
theorem dX2_init_10 : decode cX2_init 10 = .ok (.putfield 9, 3) := by decide +kernel
theorem dX2_init_13 : decode cX2_init 13 = .ok (.aload_n 0, 1) := by decide +kernel
theorem dX2_init_14 : decode cX2_init 14 = .ok (.bipush 40, 2) := by decide +kernel
theorem dX2_init_16 : decode cX2_init 16 = .ok (.newarray .boolean, 2) := by decide +kernel
theorem dX2_init_18 : decode cX2_init 18 = .ok (.putfield 15, 3) := by decide +kernel
theorem dX2_init_21 : decode cX2_init 21 = .ok (.return_, 1) := by decide +kernel
theorem dX2_count_0 : decode cX2_count 0 = .ok (.aload_n 0, 1) := by decide +kernel
theorem dX2_count_1 : decode cX2_count 1 = .ok (.getfield 19, 3) := by decide +kernel
theorem dX2_count_4 : decode cX2_count 4 = .ok (.ireturn, 1) := by decide +kernel
theorem dX2_add_0 : decode cX2_add 0 = .ok (.aload_n 0, 1) := by decide +kernel
theorem dX2_add_1 : decode cX2_add 1 = .ok (.getfield 19, 3) := by decide +kernel
theorem dX2_add_4 : decode cX2_add 4 = .ok (.bipush 40, 2) := by decide +kernel
theorem dX2_add_6 : decode cX2_add 6 = .ok (.if_icmp .lt 54, 3) := by decide +kernel
theorem dX2_add_9 : decode cX2_add 9 = .ok (.aload_n 0, 1) := by decide +kernel
theorem dX2_add_10 : decode cX2_add 10 = .ok (.getfield 9, 3) := by decide +kernel
theorem dX2_add_13 : decode cX2_add 13 = .ok (.bipush 24, 2) := by decide +kernel
theorem dX2_add_15 : decode cX2_add 15 = .ok (.aload_n 0, 1) := by decide +kernel
theorem dX2_add_16 : decode cX2_add 16 = .ok (.getfield 9, 3) := by decide +kernel
theorem dX2_add_19 : decode cX2_add 19 = .ok (.iconst 0, 1) := by decide +kernel
theorem dX2_add_20 : decode cX2_add 20 = .ok (.sipush 936, 3) := by decide +kernel
theorem dX2_add_23 : decode cX2_add 23 = .ok (.invokestatic 23, 3) := by decide +kernel
theorem dX2_add_26 : decode cX2_add 26 = .ok (.iconst 1, 1) := by decide +kernel
theorem dX2_add_27 : decode cX2_add 27 = .ok (.istore_n 2, 1) := by decide +kernel
theorem dX2_add_28 : decode cX2_add 28 = .ok (.iload_n 2, 1) := by decide +kernel
theorem dX2_add_29 : decode cX2_add 29 = .ok (.bipush 40, 2) := by decide +kernel
theorem dX2_add_31 : decode cX2_add 31 = .ok (.if_icmp .ge 23, 3) := by decide +kernel
theorem dX2_add_34 : decode cX2_add 34 = .ok (.aload_n 0, 1) := by decide +kernel
theorem dX2_add_35 : decode cX2_add 35 = .ok (.getfield 15, 3) := by decide +kernel
theorem dX2_add_38 : decode cX2_add 38 = .ok (.iload_n 2, 1) := by decide +kernel
theorem dX2_add_39 : decode cX2_add 39 = .ok (.iconst 1, 1) := by decide +kernel
theorem dX2_add_40 : decode cX2_add 40 = .ok (.isub, 1) := by decide +kernel
theorem dX2_add_41 : decode cX2_add 41 = .ok (.aload_n 0, 1) := by decide +kernel
theorem dX2_add_42 : decode cX2_add 42 = .ok (.getfield 15, 3) := by decide +kernel
theorem dX2_add_45 : decode cX2_add 45 = .ok (.iload_n 2, 1) := by decide +kernel
theorem dX2_add_46 : decode cX2_add 46 = .ok (.baload, 1) := by decide +kernel
theorem dX2_add_47 : decode cX2_add 47 = .ok (.bastore, 1) := by decide +kernel
theorem dX2_add_48 : decode cX2_add 48 = .ok (.iinc 2 1, 3) := by decide +kernel
theorem dX2_add_51 : decode cX2_add 51 = .ok (.goto (-23), 3) := by decide +kernel
theorem dX2_add_54 : decode cX2_add 54 = .ok (.aload_n 0, 1) := by decide +kernel
theorem dX2_add_55 : decode cX2_add 55 = .ok (.bipush 39, 2) := by decide +kernel
theorem dX2_add_57 : decode cX2_add 57 = .ok (.putfield 19, 3) := by decide +kernel
theorem dX2_add_60 : decode cX2_add 60 = .ok (.aload_n 0, 1) := by decide +kernel
theorem dX2_add_61 : decode cX2_add 61 = .ok (.getfield 19, 3) := by decide +kernel
theorem dX2_add_64 : decode cX2_add 64 = .ok (.ifCond .ge 4, 3) := by decide +kernel
theorem dX2_add_67 : decode cX2_add 67 = .ok (.return_, 1) := by decide +kernel
theorem dX2_add_68 : decode cX2_add 68 = .ok (.aload_n 0, 1) := by decide +kernel
theorem dX2_add_69 : decode cX2_add 69 = .ok (.getfield 9, 3) := by decide +kernel
theorem dX2_add_72 : decode cX2_add 72 = .ok (.aload_n 0, 1) := by decide +kernel
theorem dX2_add_73 : decode cX2_add 73 = .ok (.getfield 19, 3) := by decide +kernel
theorem dX2_add_76 : decode cX2_add 76 = .ok (.bipush 24, 2) := by decide +kernel
theorem dX2_add_78 : decode cX2_add 78 = .ok (.imul, 1) := by decide +kernel
theorem dX2_add_79 : decode cX2_add 79 = .ok (.aload_n 0, 1) := by decide +kernel
theorem dX2_add_80 : decode cX2_add 80 = .ok (.getfield 19, 3) := by decide +kernel
theorem dX2_add_83 : decode cX2_add 83 = .ok (.iconst 1, 1) := by decide +kernel
theorem dX2_add_84 : decode cX2_add 84 = .ok (.iadd, 1) := by decide +kernel
theorem dX2_add_85 : decode cX2_add 85 = .ok (.bipush 24, 2) := by decide +kernel
theorem dX2_add_87 : decode cX2_add 87 = .ok (.imul, 1) := by decide +kernel
theorem dX2_add_88 : decode cX2_add 88 = .ok (.iconst 0, 1) := by decide +kernel
theorem dX2_add_89 : decode cX2_add 89 = .ok (.invokestatic 29, 3) := by decide +kernel
theorem dX2_add_92 : decode cX2_add 92 = .ok (.aload_n 0, 1) := by decide +kernel
theorem dX2_add_93 : decode cX2_add 93 = .ok (.getfield 15, 3) := by decide +kernel
theorem dX2_add_96 : decode cX2_add 96 = .ok (.aload_n 0, 1) := by decide +kernel
theorem dX2_add_97 : decode cX2_add 97 = .ok (.getfield 19, 3) := by decide +kernel
theorem dX2_add_100 : decode cX2_add 100 = .ok (.iload_n 1, 1) := by decide +kernel
theorem dX2_add_101 : decode cX2_add 101 = .ok (.bastore, 1) := by decide +kernel
theorem dX2_add_102 : decode cX2_add 102 = .ok (.aload_n 0, 1) := by decide +kernel
theorem dX2_add_103 : decode cX2_add 103 = .ok (.dup, 1) := by decide +kernel
theorem dX2_add_104 : decode cX2_add 104 = .ok (.getfield 19, 3) := by decide +kernel
theorem dX2_add_107 : decode cX2_add 107 = .ok (.iconst 1, 1) := by decide +kernel
theorem dX2_add_108 : decode cX2_add 108 = .ok (.iadd, 1) := by decide +kernel
theorem dX2_add_109 : decode cX2_add 109 = .ok (.putfield 19, 3) := by decide +kernel
theorem dX2_add_112 : decode cX2_add 112 = .ok (.return_, 1) := by decide +kernel
theorem dX2_putLatest_0 : decode cX2_putLatest 0 = .ok (.aload_n 0, 1) := by decide +kernel
theorem dX2_putLatest_1 : decode cX2_putLatest 1 = .ok (.getfield 19, 3) := by decide +kernel
theorem dX2_putLatest_4 : decode cX2_putLatest 4 = .ok (.iconst 1, 1) := by decide +kernel
theorem dX2_putLatest_5 : decode cX2_putLatest 5 = .ok (.isub, 1) := by decide +kernel
theorem dX2_putLatest_6 : decode cX2_putLatest 6 = .ok (.istore_n 3, 1) := by decide +kernel
theorem dX2_putLatest_7 : decode cX2_putLatest 7 = .ok (.iload_n 3, 1) := by decide +kernel
theorem dX2_putLatest_8 : decode cX2_putLatest 8 = .ok (.ifCond .lt 31, 3) := by decide +kernel
theorem dX2_putLatest_11 : decode cX2_putLatest 11 = .ok (.iload_n 3, 1) := by decide +kernel
theorem dX2_putLatest_12 : decode cX2_putLatest 12 = .ok (.bipush 40, 2) := by decide +kernel
theorem dX2_putLatest_14 : decode cX2_putLatest 14 = .ok (.if_icmp .ge 25, 3) := by decide +kernel
theorem dX2_putLatest_17 : decode cX2_putLatest 17 = .ok (.iload_n 1, 1) := by decide +kernel
theorem dX2_putLatest_18 : decode cX2_putLatest 18 = .ok (.ifCond .lt 21, 3) := by decide +kernel
theorem dX2_putLatest_21 : decode cX2_putLatest 21 = .ok (.iload_n 1, 1) := by decide +kernel
theorem dX2_putLatest_22 : decode cX2_putLatest 22 = .ok (.bipush 24, 2) := by decide +kernel
theorem dX2_putLatest_24 : decode cX2_putLatest 24 = .ok (.if_icmp .ge 15, 3) := by decide +kernel
theorem dX2_putLatest_27 : decode cX2_putLatest 27 = .ok (.aload_n 0, 1) := by decide +kernel
theorem dX2_putLatest_28 : decode cX2_putLatest 28 = .ok (.getfield 9, 3) := by decide +kernel
theorem dX2_putLatest_31 : decode cX2_putLatest 31 = .ok (.iload_n 3, 1) := by decide +kernel
theorem dX2_putLatest_32 : decode cX2_putLatest 32 = .ok (.bipush 24, 2) := by decide +kernel
theorem dX2_putLatest_34 : decode cX2_putLatest 34 = .ok (.imul, 1) := by decide +kernel
theorem dX2_putLatest_35 : decode cX2_putLatest 35 = .ok (.iload_n 1, 1) := by decide +kernel
theorem dX2_putLatest_36 : decode cX2_putLatest 36 = .ok (.iadd, 1) := by decide +kernel
theorem dX2_putLatest_37 : decode cX2_putLatest 37 = .ok (.iload_n 2, 1) := by decide +kernel
theorem dX2_putLatest_38 : decode cX2_putLatest 38 = .ok (.iastore, 1) := by decide +kernel
theorem dX2_putLatest_39 : decode cX2_putLatest 39 = .ok (.return_, 1) := by decide +kernel
theorem dX2_at_0 : decode cX2_at 0 = .ok (.iload_n 1, 1) := by decide +kernel
theorem dX2_at_1 : decode cX2_at 1 = .ok (.ifCond .lt 27, 3) := by decide +kernel
theorem dX2_at_4 : decode cX2_at 4 = .ok (.iload_n 1, 1) := by decide +kernel
theorem dX2_at_5 : decode cX2_at 5 = .ok (.aload_n 0, 1) := by decide +kernel
theorem dX2_at_6 : decode cX2_at 6 = .ok (.getfield 19, 3) := by decide +kernel
theorem dX2_at_9 : decode cX2_at 9 = .ok (.if_icmp .ge 19, 3) := by decide +kernel
theorem dX2_at_12 : decode cX2_at 12 = .ok (.iload_n 1, 1) := by decide +kernel
theorem dX2_at_13 : decode cX2_at 13 = .ok (.bipush 40, 2) := by decide +kernel
theorem dX2_at_15 : decode cX2_at 15 = .ok (.if_icmp .ge 13, 3) := by decide +kernel
theorem dX2_at_18 : decode cX2_at 18 = .ok (.iload_n 2, 1) := by decide +kernel
theorem dX2_at_19 : decode cX2_at 19 = .ok (.ifCond .lt 9, 3) := by decide +kernel
theorem dX2_at_22 : decode cX2_at 22 = .ok (.iload_n 2, 1) := by decide +kernel
theorem dX2_at_23 : decode cX2_at 23 = .ok (.bipush 24, 2) := by decide +kernel
theorem dX2_at_25 : decode cX2_at 25 = .ok (.if_icmp .lt 5, 3) := by decide +kernel
theorem dX2_at_28 : decode cX2_at 28 = .ok (.iconst 0, 1) := by decide +kernel
theorem dX2_at_29 : decode cX2_at 29 = .ok (.ireturn, 1) := by decide +kernel
theorem dX2_at_30 : decode cX2_at 30 = .ok (.aload_n 0, 1) := by decide +kernel
theorem dX2_at_31 : decode cX2_at 31 = .ok (.getfield 9, 3) := by decide +kernel
theorem dX2_at_34 : decode cX2_at 34 = .ok (.iload_n 1, 1) := by decide +kernel
theorem dX2_at_35 : decode cX2_at 35 = .ok (.bipush 24, 2) := by decide +kernel
theorem dX2_at_37 : decode cX2_at 37 = .ok (.imul, 1) := by decide +kernel
theorem dX2_at_38 : decode cX2_at 38 = .ok (.iload_n 2, 1) := by decide +kernel
theorem dX2_at_39 : decode cX2_at 39 = .ok (.iadd, 1) := by decide +kernel
theorem dX2_at_40 : decode cX2_at 40 = .ok (.iaload, 1) := by decide +kernel
theorem dX2_at_41 : decode cX2_at 41 = .ok (.ireturn, 1) := by decide +kernel
theorem dX2_isGoing_0 : decode cX2_isGoing 0 = .ok (.iload_n 1, 1) := by decide +kernel
theorem dX2_isGoing_1 : decode cX2_isGoing 1 = .ok (.ifCond .lt 30, 3) := by decide +kernel
theorem dX2_isGoing_4 : decode cX2_isGoing 4 = .ok (.iload_n 1, 1) := by decide +kernel
theorem dX2_isGoing_5 : decode cX2_isGoing 5 = .ok (.aload_n 0, 1) := by decide +kernel
theorem dX2_isGoing_6 : decode cX2_isGoing 6 = .ok (.getfield 19, 3) := by decide +kernel
theorem dX2_isGoing_9 : decode cX2_isGoing 9 = .ok (.if_icmp .ge 22, 3) := by decide +kernel
theorem dX2_isGoing_12 : decode cX2_isGoing 12 = .ok (.iload_n 1, 1) := by decide +kernel
theorem dX2_isGoing_13 : decode cX2_isGoing 13 = .ok (.bipush 40, 2) := by decide +kernel
theorem dX2_isGoing_15 : decode cX2_isGoing 15 = .ok (.if_icmp .ge 16, 3) := by decide +kernel
theorem dX2_isGoing_18 : decode cX2_isGoing 18 = .ok (.aload_n 0, 1) := by decide +kernel
theorem dX2_isGoing_19 : decode cX2_isGoing 19 = .ok (.getfield 15, 3) := by decide +kernel
theorem dX2_isGoing_22 : decode cX2_isGoing 22 = .ok (.iload_n 1, 1) := by decide +kernel
theorem dX2_isGoing_23 : decode cX2_isGoing 23 = .ok (.baload, 1) := by decide +kernel
theorem dX2_isGoing_24 : decode cX2_isGoing 24 = .ok (.ifCond .eq 7, 3) := by decide +kernel
theorem dX2_isGoing_27 : decode cX2_isGoing 27 = .ok (.iconst 1, 1) := by decide +kernel
theorem dX2_isGoing_28 : decode cX2_isGoing 28 = .ok (.goto 4, 3) := by decide +kernel
theorem dX2_isGoing_31 : decode cX2_isGoing 31 = .ok (.iconst 0, 1) := by decide +kernel
theorem dX2_isGoing_32 : decode cX2_isGoing 32 = .ok (.ireturn, 1) := by decide +kernel
theorem dX2_endLatest_0 : decode cX2_endLatest 0 = .ok (.aload_n 0, 1) := by decide +kernel
theorem dX2_endLatest_1 : decode cX2_endLatest 1 = .ok (.getfield 19, 3) := by decide +kernel
theorem dX2_endLatest_4 : decode cX2_endLatest 4 = .ok (.ifCond .le 24, 3) := by decide +kernel
theorem dX2_endLatest_7 : decode cX2_endLatest 7 = .ok (.aload_n 0, 1) := by decide +kernel
theorem dX2_endLatest_8 : decode cX2_endLatest 8 = .ok (.getfield 19, 3) := by decide +kernel
theorem dX2_endLatest_11 : decode cX2_endLatest 11 = .ok (.bipush 40, 2) := by decide +kernel
theorem dX2_endLatest_13 : decode cX2_endLatest 13 = .ok (.if_icmp .gt 15, 3) := by decide +kernel
theorem dX2_endLatest_16 : decode cX2_endLatest 16 = .ok (.aload_n 0, 1) := by decide +kernel
theorem dX2_endLatest_17 : decode cX2_endLatest 17 = .ok (.getfield 15, 3) := by decide +kernel
theorem dX2_endLatest_20 : decode cX2_endLatest 20 = .ok (.aload_n 0, 1) := by decide +kernel
theorem dX2_endLatest_21 : decode cX2_endLatest 21 = .ok (.getfield 19, 3) := by decide +kernel
theorem dX2_endLatest_24 : decode cX2_endLatest 24 = .ok (.iconst 1, 1) := by decide +kernel
theorem dX2_endLatest_25 : decode cX2_endLatest 25 = .ok (.isub, 1) := by decide +kernel
theorem dX2_endLatest_26 : decode cX2_endLatest 26 = .ok (.iconst 0, 1) := by decide +kernel
theorem dX2_endLatest_27 : decode cX2_endLatest 27 = .ok (.bastore, 1) := by decide +kernel
theorem dX2_endLatest_28 : decode cX2_endLatest 28 = .ok (.return_, 1) := by decide +kernel
theorem dX2_clear_0 : decode cX2_clear 0 = .ok (.aload_n 0, 1) := by decide +kernel
theorem dX2_clear_1 : decode cX2_clear 1 = .ok (.iconst 0, 1) := by decide +kernel
theorem dX2_clear_2 : decode cX2_clear 2 = .ok (.putfield 19, 3) := by decide +kernel
theorem dX2_clear_5 : decode cX2_clear 5 = .ok (.return_, 1) := by decide +kernel
theorem dX3_init_0 : decode cX3_init 0 = .ok (.aload_n 0, 1) := by decide +kernel
theorem dX3_init_1 : decode cX3_init 1 = .ok (.invokespecial 3, 3) := by decide +kernel
theorem dX3_init_4 : decode cX3_init 4 = .ok (.aload_n 0, 1) := by decide +kernel
theorem dX3_init_5 : decode cX3_init 5 = .ok (.new 9, 3) := by decide +kernel
theorem dX3_init_8 : decode cX3_init 8 = .ok (.dup, 1) := by decide +kernel
theorem dX3_init_9 : decode cX3_init 9 = .ok (.bipush 30, 2) := by decide +kernel
theorem dX3_init_11 : decode cX3_init 11 = .ok (.invokespecial 11, 3) := by decide +kernel
theorem dX3_init_14 : decode cX3_init 14 = .ok (.putfield 14, 3) := by decide +kernel
theorem dX3_init_17 : decode cX3_init 17 = .ok (.aload_n 0, 1) := by decide +kernel
theorem dX3_init_18 : decode cX3_init 18 = .ok (.new 9, 3) := by decide +kernel
theorem dX3_init_21 : decode cX3_init 21 = .ok (.dup, 1) := by decide +kernel
theorem dX3_init_22 : decode cX3_init 22 = .ok (.bipush 100, 2) := by decide +kernel
theorem dX3_init_24 : decode cX3_init 24 = .ok (.invokespecial 11, 3) := by decide +kernel
theorem dX3_init_27 : decode cX3_init 27 = .ok (.putfield 20, 3) := by decide +kernel
theorem dX3_init_30 : decode cX3_init 30 = .ok (.aload_n 0, 1) := by decide +kernel
theorem dX3_init_31 : decode cX3_init 31 = .ok (.new 9, 3) := by decide +kernel
theorem dX3_init_34 : decode cX3_init 34 = .ok (.dup, 1) := by decide +kernel
theorem dX3_init_35 : decode cX3_init 35 = .ok (.sipush 200, 3) := by decide +kernel
theorem dX3_init_38 : decode cX3_init 38 = .ok (.invokespecial 11, 3) := by decide +kernel
theorem dX3_init_41 : decode cX3_init 41 = .ok (.putfield 23, 3) := by decide +kernel
theorem dX3_init_44 : decode cX3_init 44 = .ok (.aload_n 0, 1) := by decide +kernel
theorem dX3_init_45 : decode cX3_init 45 = .ok (.new 9, 3) := by decide +kernel
theorem dX3_init_48 : decode cX3_init 48 = .ok (.dup, 1) := by decide +kernel
theorem dX3_init_49 : decode cX3_init 49 = .ok (.sipush 256, 3) := by decide +kernel
theorem dX3_init_52 : decode cX3_init 52 = .ok (.invokespecial 11, 3) := by decide +kernel
theorem dX3_init_55 : decode cX3_init 55 = .ok (.putfield 26, 3) := by decide +kernel
theorem dX3_init_58 : decode cX3_init 58 = .ok (.aload_n 0, 1) := by decide +kernel
theorem dX3_init_59 : decode cX3_init 59 = .ok (.iconst 1, 1) := by decide +kernel
theorem dX3_init_60 : decode cX3_init 60 = .ok (.putfield 29, 3) := by decide +kernel
theorem dX3_init_63 : decode cX3_init 63 = .ok (.return_, 1) := by decide +kernel
theorem dX3_hasRoomFor_0 : decode cX3_hasRoomFor 0 = .ok (.aload_n 0, 1) := by decide +kernel
theorem dX3_hasRoomFor_1 : decode cX3_hasRoomFor 1 = .ok (.getfield 33, 3) := by decide +kernel
theorem dX3_hasRoomFor_4 : decode cX3_hasRoomFor 4 = .ok (.ifCond .eq 14, 3) := by decide +kernel
theorem dX3_hasRoomFor_7 : decode cX3_hasRoomFor 7 = .ok (.aload_n 0, 1) := by decide +kernel
theorem dX3_hasRoomFor_8 : decode cX3_hasRoomFor 8 = .ok (.getfield 20, 3) := by decide +kernel
theorem dX3_hasRoomFor_11 : decode cX3_hasRoomFor 11 = .ok (.invokevirtual 36, 3) := by decide +kernel
theorem dX3_hasRoomFor_14 : decode cX3_hasRoomFor 14 = .ok (.iload_n 1, 1) := by decide +kernel
theorem dX3_hasRoomFor_15 : decode cX3_hasRoomFor 15 = .ok (.if_icmp .lt 7, 3) := by decide +kernel
theorem dX3_hasRoomFor_18 : decode cX3_hasRoomFor 18 = .ok (.iconst 1, 1) := by decide +kernel
theorem dX3_hasRoomFor_19 : decode cX3_hasRoomFor 19 = .ok (.goto 4, 3) := by decide +kernel
theorem dX3_hasRoomFor_22 : decode cX3_hasRoomFor 22 = .ok (.iconst 0, 1) := by decide +kernel
theorem dX3_hasRoomFor_23 : decode cX3_hasRoomFor 23 = .ok (.ireturn, 1) := by decide +kernel
theorem dX3_bring_0 : decode cX3_bring 0 = .ok (.aload_n 0, 1) := by decide +kernel
theorem dX3_bring_1 : decode cX3_bring 1 = .ok (.getfield 33, 3) := by decide +kernel
theorem dX3_bring_4 : decode cX3_bring 4 = .ok (.ifCond .eq 10, 3) := by decide +kernel
theorem dX3_bring_7 : decode cX3_bring 7 = .ok (.aload_n 0, 1) := by decide +kernel
theorem dX3_bring_8 : decode cX3_bring 8 = .ok (.getfield 20, 3) := by decide +kernel
theorem dX3_bring_11 : decode cX3_bring 11 = .ok (.goto 7, 3) := by decide +kernel
theorem dX3_bring_14 : decode cX3_bring 14 = .ok (.aload_n 0, 1) := by decide +kernel
theorem dX3_bring_15 : decode cX3_bring 15 = .ok (.getfield 26, 3) := by decide +kernel
theorem dX3_bring_18 : decode cX3_bring 18 = .ok (.astore_n 2, 1) := by decide +kernel
theorem dX3_bring_19 : decode cX3_bring 19 = .ok (.aload_n 2, 1) := by decide +kernel
theorem dX3_bring_20 : decode cX3_bring 20 = .ok (.iload_n 1, 1) := by decide +kernel
theorem dX3_bring_21 : decode cX3_bring 21 = .ok (.invokevirtual 40, 3) := by decide +kernel
theorem dX3_bring_24 : decode cX3_bring 24 = .ok (.pop, 1) := by decide +kernel
theorem dX3_bring_25 : decode cX3_bring 25 = .ok (.return_, 1) := by decide +kernel
theorem dX3_bringNumber_0 : decode cX3_bringNumber 0 = .ok (.aload_n 0, 1) := by decide +kernel
theorem dX3_bringNumber_1 : decode cX3_bringNumber 1 = .ok (.getfield 33, 3) := by decide +kernel
theorem dX3_bringNumber_4 : decode cX3_bringNumber 4 = .ok (.ifCond .eq 10, 3) := by decide +kernel
theorem dX3_bringNumber_7 : decode cX3_bringNumber 7 = .ok (.aload_n 0, 1) := by decide +kernel
theorem dX3_bringNumber_8 : decode cX3_bringNumber 8 = .ok (.getfield 20, 3) := by decide +kernel
theorem dX3_bringNumber_11 : decode cX3_bringNumber 11 = .ok (.goto 7, 3) := by decide +kernel
theorem dX3_bringNumber_14 : decode cX3_bringNumber 14 = .ok (.aload_n 0, 1) := by decide +kernel
theorem dX3_bringNumber_15 : decode cX3_bringNumber 15 = .ok (.getfield 26, 3) := by decide +kernel
theorem dX3_bringNumber_18 : decode cX3_bringNumber 18 = .ok (.astore_n 2, 1) := by decide +kernel
theorem dX3_bringNumber_19 : decode cX3_bringNumber 19 = .ok (.aload_n 2, 1) := by decide +kernel
theorem dX3_bringNumber_20 : decode cX3_bringNumber 20 = .ok (.iload_n 1, 1) := by decide +kernel
theorem dX3_bringNumber_21 : decode cX3_bringNumber 21 = .ok (.invokevirtual 44, 3) := by decide +kernel
theorem dX3_bringNumber_24 : decode cX3_bringNumber 24 = .ok (.return_, 1) := by decide +kernel
theorem dX3_change_0 : decode cX3_change 0 = .ok (.aload_n 0, 1) := by decide +kernel
theorem dX3_change_1 : decode cX3_change 1 = .ok (.getfield 47, 3) := by decide +kernel
theorem dX3_change_4 : decode cX3_change 4 = .ok (.istore_n 3, 1) := by decide +kernel
theorem dX3_change_5 : decode cX3_change 5 = .ok (.iload_n 3, 1) := by decide +kernel
theorem dX3_change_6 : decode cX3_change 6 = .ok (.ifCond .ne 11, 3) := by decide +kernel
theorem dX3_change_9 : decode cX3_change 9 = .ok (.iload_n 1, 1) := by decide +kernel
theorem dX3_change_10 : decode cX3_change 10 = .ok (.ifCond .eq 7, 3) := by decide +kernel
theorem dX3_change_13 : decode cX3_change 13 = .ok (.aload_n 0, 1) := by decide +kernel
theorem dX3_change_14 : decode cX3_change 14 = .ok (.invokevirtual 50, 3) := by decide +kernel
theorem dX3_change_17 : decode cX3_change 17 = .ok (.aload_n 0, 1) := by decide +kernel
theorem dX3_change_18 : decode cX3_change 18 = .ok (.iload_n 1, 1) := by decide +kernel
theorem dX3_change_19 : decode cX3_change 19 = .ok (.putfield 47, 3) := by decide +kernel
theorem dX3_change_22 : decode cX3_change 22 = .ok (.aload_n 0, 1) := by decide +kernel
theorem dX3_change_23 : decode cX3_change 23 = .ok (.iload_n 2, 1) := by decide +kernel
theorem dX3_change_24 : decode cX3_change 24 = .ok (.putfield 29, 3) := by decide +kernel
theorem dX3_change_27 : decode cX3_change 27 = .ok (.iload_n 3, 1) := by decide +kernel
theorem dX3_change_28 : decode cX3_change 28 = .ok (.ireturn, 1) := by decide +kernel
theorem dX3_accept_0 : decode cX3_accept 0 = .ok (.aload_n 0, 1) := by decide +kernel
theorem dX3_accept_1 : decode cX3_accept 1 = .ok (.getfield 47, 3) := by decide +kernel
theorem dX3_accept_4 : decode cX3_accept 4 = .ok (.ifCond .eq 18, 3) := by decide +kernel
theorem dX3_accept_7 : decode cX3_accept 7 = .ok (.aload_n 0, 1) := by decide +kernel
theorem dX3_accept_8 : decode cX3_accept 8 = .ok (.getfield 23, 3) := by decide +kernel
theorem dX3_accept_11 : decode cX3_accept 11 = .ok (.iload_n 1, 1) := by decide +kernel
theorem dX3_accept_12 : decode cX3_accept 12 = .ok (.invokevirtual 40, 3) := by decide +kernel
theorem dX3_accept_15 : decode cX3_accept 15 = .ok (.pop, 1) := by decide +kernel
theorem dX3_accept_16 : decode cX3_accept 16 = .ok (.aload_n 0, 1) := by decide +kernel
theorem dX3_accept_17 : decode cX3_accept 17 = .ok (.iload_n 1, 1) := by decide +kernel
theorem dX3_accept_18 : decode cX3_accept 18 = .ok (.invokevirtual 53, 3) := by decide +kernel
theorem dX3_accept_21 : decode cX3_accept 21 = .ok (.return_, 1) := by decide +kernel
theorem dX3_accept_22 : decode cX3_accept 22 = .ok (.iload_n 1, 1) := by decide +kernel
theorem dX3_accept_23 : decode cX3_accept 23 = .ok (.lookupswitch 151 #[(3, 116), (4, 109), (10, 102), (13, 102), (17, 144), (19, 136), (21, 95), (23, 88), (127, 81)], 81) := by decide +kernel
theorem dX3_accept_104 : decode cX3_accept 104 = .ok (.aload_n 0, 1) := by decide +kernel
theorem dX3_accept_105 : decode cX3_accept 105 = .ok (.invokevirtual 56, 3) := by decide +kernel
theorem dX3_accept_108 : decode cX3_accept 108 = .ok (.goto 71, 3) := by decide +kernel
theorem dX3_accept_111 : decode cX3_accept 111 = .ok (.aload_n 0, 1) := by decide +kernel
theorem dX3_accept_112 : decode cX3_accept 112 = .ok (.invokevirtual 59, 3) := by decide +kernel
theorem dX3_accept_115 : decode cX3_accept 115 = .ok (.goto 64, 3) := by decide +kernel
theorem dX3_accept_118 : decode cX3_accept 118 = .ok (.aload_n 0, 1) := by decide +kernel
theorem dX3_accept_119 : decode cX3_accept 119 = .ok (.invokevirtual 62, 3) := by decide +kernel
theorem dX3_accept_122 : decode cX3_accept 122 = .ok (.goto 57, 3) := by decide +kernel
theorem dX3_accept_125 : decode cX3_accept 125 = .ok (.aload_n 0, 1) := by decide +kernel
theorem dX3_accept_126 : decode cX3_accept 126 = .ok (.invokevirtual 65, 3) := by decide +kernel
theorem dX3_accept_129 : decode cX3_accept 129 = .ok (.goto 50, 3) := by decide +kernel
theorem dX3_accept_132 : decode cX3_accept 132 = .ok (.aload_n 0, 1) := by decide +kernel
theorem dX3_accept_133 : decode cX3_accept 133 = .ok (.invokevirtual 68, 3) := by decide +kernel
theorem dX3_accept_136 : decode cX3_accept 136 = .ok (.goto 43, 3) := by decide +kernel
theorem dX3_accept_139 : decode cX3_accept 139 = .ok (.aload_n 0, 1) := by decide +kernel
theorem dX3_accept_140 : decode cX3_accept 140 = .ok (.getfield 14, 3) := by decide +kernel
theorem dX3_accept_143 : decode cX3_accept 143 = .ok (.invokevirtual 71, 3) := by decide +kernel
theorem dX3_accept_146 : decode cX3_accept 146 = .ok (.aload_n 0, 1) := by decide +kernel
theorem dX3_accept_147 : decode cX3_accept 147 = .ok (.dup, 1) := by decide +kernel
theorem dX3_accept_148 : decode cX3_accept 148 = .ok (.getfield 74, 3) := by decide +kernel
theorem dX3_accept_151 : decode cX3_accept 151 = .ok (.iconst 1, 1) := by decide +kernel
theorem dX3_accept_152 : decode cX3_accept 152 = .ok (.iadd, 1) := by decide +kernel
theorem dX3_accept_153 : decode cX3_accept 153 = .ok (.putfield 74, 3) := by decide +kernel
theorem dX3_accept_156 : decode cX3_accept 156 = .ok (.goto 23, 3) := by decide +kernel
theorem dX3_accept_159 : decode cX3_accept 159 = .ok (.aload_n 0, 1) := by decide +kernel
theorem dX3_accept_160 : decode cX3_accept 160 = .ok (.iconst 1, 1) := by decide +kernel
theorem dX3_accept_161 : decode cX3_accept 161 = .ok (.putfield 33, 3) := by decide +kernel
theorem dX3_accept_164 : decode cX3_accept 164 = .ok (.goto 15, 3) := by decide +kernel
theorem dX3_accept_167 : decode cX3_accept 167 = .ok (.aload_n 0, 1) := by decide +kernel
theorem dX3_accept_168 : decode cX3_accept 168 = .ok (.invokevirtual 78, 3) := by decide +kernel
theorem dX3_accept_171 : decode cX3_accept 171 = .ok (.goto 8, 3) := by decide +kernel
theorem dX3_accept_174 : decode cX3_accept 174 = .ok (.aload_n 0, 1) := by decide +kernel
theorem dX3_accept_175 : decode cX3_accept 175 = .ok (.iload_n 1, 1) := by decide +kernel
theorem dX3_accept_176 : decode cX3_accept 176 = .ok (.invokevirtual 81, 3) := by decide +kernel
theorem dX3_accept_179 : decode cX3_accept 179 = .ok (.return_, 1) := by decide +kernel
theorem dX3_echo_0 : decode cX3_echo 0 = .ok (.aload_n 0, 1) := by decide +kernel
theorem dX3_echo_1 : decode cX3_echo 1 = .ok (.getfield 33, 3) := by decide +kernel
theorem dX3_echo_4 : decode cX3_echo 4 = .ok (.ifCond .eq 10, 3) := by decide +kernel
theorem dX3_echo_7 : decode cX3_echo 7 = .ok (.aload_n 0, 1) := by decide +kernel
theorem dX3_echo_8 : decode cX3_echo 8 = .ok (.getfield 20, 3) := by decide +kernel
theorem dX3_echo_11 : decode cX3_echo 11 = .ok (.goto 7, 3) := by decide +kernel
theorem dX3_echo_14 : decode cX3_echo 14 = .ok (.aload_n 0, 1) := by decide +kernel
theorem dX3_echo_15 : decode cX3_echo 15 = .ok (.getfield 26, 3) := by decide +kernel
theorem dX3_echo_18 : decode cX3_echo 18 = .ok (.astore_n 2, 1) := by decide +kernel
theorem dX3_echo_19 : decode cX3_echo 19 = .ok (.aload_n 0, 1) := by decide +kernel
theorem dX3_echo_20 : decode cX3_echo 20 = .ok (.getfield 29, 3) := by decide +kernel
theorem dX3_echo_23 : decode cX3_echo 23 = .ok (.ifCond .eq 9, 3) := by decide +kernel
theorem dX3_echo_26 : decode cX3_echo 26 = .ok (.aload_n 2, 1) := by decide +kernel
theorem dX3_echo_27 : decode cX3_echo 27 = .ok (.iload_n 1, 1) := by decide +kernel
theorem dX3_echo_28 : decode cX3_echo 28 = .ok (.invokevirtual 40, 3) := by decide +kernel
theorem dX3_echo_31 : decode cX3_echo 31 = .ok (.pop, 1) := by decide +kernel
theorem dX3_echo_32 : decode cX3_echo 32 = .ok (.return_, 1) := by decide +kernel
theorem dX3_takeAway_0 : decode cX3_takeAway 0 = .ok (.aload_n 0, 1) := by decide +kernel
theorem dX3_takeAway_1 : decode cX3_takeAway 1 = .ok (.getfield 14, 3) := by decide +kernel
theorem dX3_takeAway_4 : decode cX3_takeAway 4 = .ok (.invokevirtual 84, 3) := by decide +kernel
theorem dX3_takeAway_7 : decode cX3_takeAway 7 = .ok (.ifCond .ne 4, 3) := by decide +kernel
theorem dX3_takeAway_10 : decode cX3_takeAway 10 = .ok (.return_, 1) := by decide +kernel
theorem dX3_takeAway_11 : decode cX3_takeAway 11 = .ok (.aload_n 0, 1) := by decide +kernel
theorem dX3_takeAway_12 : decode cX3_takeAway 12 = .ok (.getfield 14, 3) := by decide +kernel
theorem dX3_takeAway_15 : decode cX3_takeAway 15 = .ok (.invokevirtual 87, 3) := by decide +kernel
theorem dX3_takeAway_18 : decode cX3_takeAway 18 = .ok (.bipush 32, 2) := by decide +kernel
theorem dX3_takeAway_20 : decode cX3_takeAway 20 = .ok (.if_icmp .ge 7, 3) := by decide +kernel
theorem dX3_takeAway_23 : decode cX3_takeAway 23 = .ok (.iconst 2, 1) := by decide +kernel
theorem dX3_takeAway_24 : decode cX3_takeAway 24 = .ok (.goto 4, 3) := by decide +kernel
theorem dX3_takeAway_27 : decode cX3_takeAway 27 = .ok (.iconst 1, 1) := by decide +kernel
theorem dX3_takeAway_28 : decode cX3_takeAway 28 = .ok (.istore_n 1, 1) := by decide +kernel
theorem dX3_takeAway_29 : decode cX3_takeAway 29 = .ok (.iconst 0, 1) := by decide +kernel
theorem dX3_takeAway_30 : decode cX3_takeAway 30 = .ok (.istore_n 2, 1) := by decide +kernel
theorem dX3_takeAway_31 : decode cX3_takeAway 31 = .ok (.iload_n 2, 1) := by decide +kernel
theorem dX3_takeAway_32 : decode cX3_takeAway 32 = .ok (.iload_n 1, 1) := by decide +kernel
theorem dX3_takeAway_33 : decode cX3_takeAway 33 = .ok (.if_icmp .ge 27, 3) := by decide +kernel
theorem dX3_takeAway_36 : decode cX3_takeAway 36 = .ok (.aload_n 0, 1) := by decide +kernel
theorem dX3_takeAway_37 : decode cX3_takeAway 37 = .ok (.bipush 8, 2) := by decide +kernel
theorem dX3_takeAway_39 : decode cX3_takeAway 39 = .ok (.invokevirtual 53, 3) := by decide +kernel
theorem dX3_takeAway_42 : decode cX3_takeAway 42 = .ok (.aload_n 0, 1) := by decide +kernel
theorem dX3_takeAway_43 : decode cX3_takeAway 43 = .ok (.bipush 32, 2) := by decide +kernel
theorem dX3_takeAway_45 : decode cX3_takeAway 45 = .ok (.invokevirtual 53, 3) := by decide +kernel
theorem dX3_takeAway_48 : decode cX3_takeAway 48 = .ok (.aload_n 0, 1) := by decide +kernel
theorem dX3_takeAway_49 : decode cX3_takeAway 49 = .ok (.bipush 8, 2) := by decide +kernel
theorem dX3_takeAway_51 : decode cX3_takeAway 51 = .ok (.invokevirtual 53, 3) := by decide +kernel
theorem dX3_takeAway_54 : decode cX3_takeAway 54 = .ok (.iinc 2 1, 3) := by decide +kernel
theorem dX3_takeAway_57 : decode cX3_takeAway 57 = .ok (.goto (-26), 3) := by decide +kernel
theorem dX3_takeAway_60 : decode cX3_takeAway 60 = .ok (.return_, 1) := by decide +kernel
theorem dX3_takeWordAway_0 : decode cX3_takeWordAway 0 = .ok (.iconst 0, 1) := by decide +kernel
theorem dX3_takeWordAway_1 : decode cX3_takeWordAway 1 = .ok (.istore_n 1, 1) := by decide +kernel
theorem dX3_takeWordAway_2 : decode cX3_takeWordAway 2 = .ok (.iload_n 1, 1) := by decide +kernel
theorem dX3_takeWordAway_3 : decode cX3_takeWordAway 3 = .ok (.bipush 30, 2) := by decide +kernel
theorem dX3_takeWordAway_5 : decode cX3_takeWordAway 5 = .ok (.if_icmp .ge 25, 3) := by decide +kernel
theorem dX3_takeWordAway_8 : decode cX3_takeWordAway 8 = .ok (.aload_n 0, 1) := by decide +kernel
theorem dX3_takeWordAway_9 : decode cX3_takeWordAway 9 = .ok (.getfield 14, 3) := by decide +kernel
theorem dX3_takeWordAway_12 : decode cX3_takeWordAway 12 = .ok (.invokevirtual 90, 3) := by decide +kernel
theorem dX3_takeWordAway_15 : decode cX3_takeWordAway 15 = .ok (.bipush 32, 2) := by decide +kernel
theorem dX3_takeWordAway_17 : decode cX3_takeWordAway 17 = .ok (.if_icmp .ne 13, 3) := by decide +kernel
theorem dX3_takeWordAway_20 : decode cX3_takeWordAway 20 = .ok (.aload_n 0, 1) := by decide +kernel
theorem dX3_takeWordAway_21 : decode cX3_takeWordAway 21 = .ok (.invokevirtual 56, 3) := by decide +kernel
theorem dX3_takeWordAway_24 : decode cX3_takeWordAway 24 = .ok (.iinc 1 1, 3) := by decide +kernel
theorem dX3_takeWordAway_27 : decode cX3_takeWordAway 27 = .ok (.goto (-25), 3) := by decide +kernel
theorem dX3_takeWordAway_30 : decode cX3_takeWordAway 30 = .ok (.iconst 0, 1) := by decide +kernel
theorem dX3_takeWordAway_31 : decode cX3_takeWordAway 31 = .ok (.istore_n 1, 1) := by decide +kernel
theorem dX3_takeWordAway_32 : decode cX3_takeWordAway 32 = .ok (.iload_n 1, 1) := by decide +kernel
theorem dX3_takeWordAway_33 : decode cX3_takeWordAway 33 = .ok (.bipush 30, 2) := by decide +kernel
theorem dX3_takeWordAway_35 : decode cX3_takeWordAway 35 = .ok (.if_icmp .ge 35, 3) := by decide +kernel
theorem dX3_takeWordAway_38 : decode cX3_takeWordAway 38 = .ok (.aload_n 0, 1) := by decide +kernel
theorem dX3_takeWordAway_39 : decode cX3_takeWordAway 39 = .ok (.getfield 14, 3) := by decide +kernel
theorem dX3_takeWordAway_42 : decode cX3_takeWordAway 42 = .ok (.invokevirtual 84, 3) := by decide +kernel
theorem dX3_takeWordAway_45 : decode cX3_takeWordAway 45 = .ok (.ifCond .le 25, 3) := by decide +kernel
theorem dX3_takeWordAway_48 : decode cX3_takeWordAway 48 = .ok (.aload_n 0, 1) := by decide +kernel
theorem dX3_takeWordAway_49 : decode cX3_takeWordAway 49 = .ok (.getfield 14, 3) := by decide +kernel
theorem dX3_takeWordAway_52 : decode cX3_takeWordAway 52 = .ok (.invokevirtual 90, 3) := by decide +kernel
theorem dX3_takeWordAway_55 : decode cX3_takeWordAway 55 = .ok (.bipush 32, 2) := by decide +kernel
theorem dX3_takeWordAway_57 : decode cX3_takeWordAway 57 = .ok (.if_icmp .eq 13, 3) := by decide +kernel
theorem dX3_takeWordAway_60 : decode cX3_takeWordAway 60 = .ok (.aload_n 0, 1) := by decide +kernel
theorem dX3_takeWordAway_61 : decode cX3_takeWordAway 61 = .ok (.invokevirtual 56, 3) := by decide +kernel
theorem dX3_takeWordAway_64 : decode cX3_takeWordAway 64 = .ok (.iinc 1 1, 3) := by decide +kernel
theorem dX3_takeWordAway_67 : decode cX3_takeWordAway 67 = .ok (.goto (-35), 3) := by decide +kernel
theorem dX3_takeWordAway_70 : decode cX3_takeWordAway 70 = .ok (.return_, 1) := by decide +kernel
theorem dX3_takeLineAway_0 : decode cX3_takeLineAway 0 = .ok (.iconst 0, 1) := by decide +kernel
theorem dX3_takeLineAway_1 : decode cX3_takeLineAway 1 = .ok (.istore_n 1, 1) := by decide +kernel
theorem dX3_takeLineAway_2 : decode cX3_takeLineAway 2 = .ok (.iload_n 1, 1) := by decide +kernel
theorem dX3_takeLineAway_3 : decode cX3_takeLineAway 3 = .ok (.bipush 30, 2) := by decide +kernel
theorem dX3_takeLineAway_5 : decode cX3_takeLineAway 5 = .ok (.if_icmp .ge 23, 3) := by decide +kernel
theorem dX3_takeLineAway_8 : decode cX3_takeLineAway 8 = .ok (.aload_n 0, 1) := by decide +kernel
theorem dX3_takeLineAway_9 : decode cX3_takeLineAway 9 = .ok (.getfield 14, 3) := by decide +kernel
theorem dX3_takeLineAway_12 : decode cX3_takeLineAway 12 = .ok (.invokevirtual 84, 3) := by decide +kernel
theorem dX3_takeLineAway_15 : decode cX3_takeLineAway 15 = .ok (.ifCond .le 13, 3) := by decide +kernel
theorem dX3_takeLineAway_18 : decode cX3_takeLineAway 18 = .ok (.aload_n 0, 1) := by decide +kernel
theorem dX3_takeLineAway_19 : decode cX3_takeLineAway 19 = .ok (.invokevirtual 56, 3) := by decide +kernel
theorem dX3_takeLineAway_22 : decode cX3_takeLineAway 22 = .ok (.iinc 1 1, 3) := by decide +kernel
theorem dX3_takeLineAway_25 : decode cX3_takeLineAway 25 = .ok (.goto (-23), 3) := by decide +kernel
theorem dX3_takeLineAway_28 : decode cX3_takeLineAway 28 = .ok (.return_, 1) := by decide +kernel
theorem dX3_sendLine_0 : decode cX3_sendLine 0 = .ok (.aload_n 0, 1) := by decide +kernel
theorem dX3_sendLine_1 : decode cX3_sendLine 1 = .ok (.getfield 23, 3) := by decide +kernel
theorem dX3_sendLine_4 : decode cX3_sendLine 4 = .ok (.aload_n 0, 1) := by decide +kernel
theorem dX3_sendLine_5 : decode cX3_sendLine 5 = .ok (.getfield 14, 3) := by decide +kernel
theorem dX3_sendLine_8 : decode cX3_sendLine 8 = .ok (.invokevirtual 93, 3) := by decide +kernel
theorem dX3_sendLine_11 : decode cX3_sendLine 11 = .ok (.return_, 1) := by decide +kernel
theorem dX3_endLine_0 : decode cX3_endLine 0 = .ok (.aload_n 0, 1) := by decide +kernel
theorem dX3_endLine_1 : decode cX3_endLine 1 = .ok (.invokevirtual 50, 3) := by decide +kernel
theorem dX3_endLine_4 : decode cX3_endLine 4 = .ok (.aload_n 0, 1) := by decide +kernel
theorem dX3_endLine_5 : decode cX3_endLine 5 = .ok (.getfield 23, 3) := by decide +kernel
theorem dX3_endLine_8 : decode cX3_endLine 8 = .ok (.bipush 10, 2) := by decide +kernel
theorem dX3_endLine_10 : decode cX3_endLine 10 = .ok (.invokevirtual 40, 3) := by decide +kernel
theorem dX3_endLine_13 : decode cX3_endLine 13 = .ok (.pop, 1) := by decide +kernel
theorem dX3_endLine_14 : decode cX3_endLine 14 = .ok (.aload_n 0, 1) := by decide +kernel
theorem dX3_endLine_15 : decode cX3_endLine 15 = .ok (.bipush 13, 2) := by decide +kernel
theorem dX3_endLine_17 : decode cX3_endLine 17 = .ok (.invokevirtual 53, 3) := by decide +kernel
theorem dX3_endLine_20 : decode cX3_endLine 20 = .ok (.aload_n 0, 1) := by decide +kernel
theorem dX3_endLine_21 : decode cX3_endLine 21 = .ok (.bipush 10, 2) := by decide +kernel
theorem dX3_endLine_23 : decode cX3_endLine 23 = .ok (.invokevirtual 53, 3) := by decide +kernel
theorem dX3_endLine_26 : decode cX3_endLine 26 = .ok (.return_, 1) := by decide +kernel
theorem dX3_endInput_0 : decode cX3_endInput 0 = .ok (.aload_n 0, 1) := by decide +kernel
theorem dX3_endInput_1 : decode cX3_endInput 1 = .ok (.getfield 14, 3) := by decide +kernel
theorem dX3_endInput_4 : decode cX3_endInput 4 = .ok (.invokevirtual 84, 3) := by decide +kernel
theorem dX3_endInput_7 : decode cX3_endInput 7 = .ok (.ifCond .ne 13, 3) := by decide +kernel
theorem dX3_endInput_10 : decode cX3_endInput 10 = .ok (.aload_n 0, 1) := by decide +kernel
theorem dX3_endInput_11 : decode cX3_endInput 11 = .ok (.dup, 1) := by decide +kernel
theorem dX3_endInput_12 : decode cX3_endInput 12 = .ok (.getfield 97, 3) := by decide +kernel
theorem dX3_endInput_15 : decode cX3_endInput 15 = .ok (.iconst 1, 1) := by decide +kernel
theorem dX3_endInput_16 : decode cX3_endInput 16 = .ok (.iadd, 1) := by decide +kernel
theorem dX3_endInput_17 : decode cX3_endInput 17 = .ok (.putfield 97, 3) := by decide +kernel
theorem dX3_endInput_20 : decode cX3_endInput 20 = .ok (.aload_n 0, 1) := by decide +kernel
theorem dX3_endInput_21 : decode cX3_endInput 21 = .ok (.invokevirtual 50, 3) := by decide +kernel
theorem dX3_endInput_24 : decode cX3_endInput 24 = .ok (.return_, 1) := by decide +kernel
theorem dX3_start_0 : decode cX3_start 0 = .ok (.aload_n 0, 1) := by decide +kernel
theorem dX3_start_1 : decode cX3_start 1 = .ok (.iconst 0, 1) := by decide +kernel
theorem dX3_start_2 : decode cX3_start 2 = .ok (.putfield 33, 3) := by decide +kernel
theorem dX3_start_5 : decode cX3_start 5 = .ok (.aload_n 0, 1) := by decide +kernel
theorem dX3_start_6 : decode cX3_start 6 = .ok (.getfield 26, 3) := by decide +kernel
theorem dX3_start_9 : decode cX3_start 9 = .ok (.aload_n 0, 1) := by decide +kernel
theorem dX3_start_10 : decode cX3_start 10 = .ok (.getfield 20, 3) := by decide +kernel
theorem dX3_start_13 : decode cX3_start 13 = .ok (.invokevirtual 93, 3) := by decide +kernel
theorem dX3_start_16 : decode cX3_start 16 = .ok (.return_, 1) := by decide +kernel
theorem dX3_addToLine_0 : decode cX3_addToLine 0 = .ok (.aload_n 0, 1) := by decide +kernel
theorem dX3_addToLine_1 : decode cX3_addToLine 1 = .ok (.getfield 14, 3) := by decide +kernel
theorem dX3_addToLine_4 : decode cX3_addToLine 4 = .ok (.iload_n 1, 1) := by decide +kernel
theorem dX3_addToLine_5 : decode cX3_addToLine 5 = .ok (.invokevirtual 40, 3) := by decide +kernel
theorem dX3_addToLine_8 : decode cX3_addToLine 8 = .ok (.ifCond .ne 10, 3) := by decide +kernel
theorem dX3_addToLine_11 : decode cX3_addToLine 11 = .ok (.aload_n 0, 1) := by decide +kernel
theorem dX3_addToLine_12 : decode cX3_addToLine 12 = .ok (.bipush 7, 2) := by decide +kernel
theorem dX3_addToLine_14 : decode cX3_addToLine 14 = .ok (.invokevirtual 53, 3) := by decide +kernel
theorem dX3_addToLine_17 : decode cX3_addToLine 17 = .ok (.return_, 1) := by decide +kernel
theorem dX3_addToLine_18 : decode cX3_addToLine 18 = .ok (.iload_n 1, 1) := by decide +kernel
theorem dX3_addToLine_19 : decode cX3_addToLine 19 = .ok (.bipush 32, 2) := by decide +kernel
theorem dX3_addToLine_21 : decode cX3_addToLine 21 = .ok (.if_icmp .ge 20, 3) := by decide +kernel
theorem dX3_addToLine_24 : decode cX3_addToLine 24 = .ok (.aload_n 0, 1) := by decide +kernel
theorem dX3_addToLine_25 : decode cX3_addToLine 25 = .ok (.bipush 94, 2) := by decide +kernel
theorem dX3_addToLine_27 : decode cX3_addToLine 27 = .ok (.invokevirtual 53, 3) := by decide +kernel
theorem dX3_addToLine_30 : decode cX3_addToLine 30 = .ok (.aload_n 0, 1) := by decide +kernel
theorem dX3_addToLine_31 : decode cX3_addToLine 31 = .ok (.iload_n 1, 1) := by decide +kernel
theorem dX3_addToLine_32 : decode cX3_addToLine 32 = .ok (.bipush 64, 2) := by decide +kernel
theorem dX3_addToLine_34 : decode cX3_addToLine 34 = .ok (.iadd, 1) := by decide +kernel
theorem dX3_addToLine_35 : decode cX3_addToLine 35 = .ok (.invokevirtual 53, 3) := by decide +kernel
theorem dX3_addToLine_38 : decode cX3_addToLine 38 = .ok (.goto 8, 3) := by decide +kernel
theorem dX3_addToLine_41 : decode cX3_addToLine 41 = .ok (.aload_n 0, 1) := by decide +kernel
theorem dX3_addToLine_42 : decode cX3_addToLine 42 = .ok (.iload_n 1, 1) := by decide +kernel
theorem dX3_addToLine_43 : decode cX3_addToLine 43 = .ok (.invokevirtual 53, 3) := by decide +kernel
theorem dX3_addToLine_46 : decode cX3_addToLine 46 = .ok (.return_, 1) := by decide +kernel
theorem dX5_init_0 : decode cX5_init 0 = .ok (.aload_n 0, 1) := by decide +kernel
theorem dX5_init_1 : decode cX5_init 1 = .ok (.invokespecial 1, 3) := by decide +kernel
theorem dX5_init_4 : decode cX5_init 4 = .ok (.aload_n 0, 1) := by decide +kernel
theorem dX5_init_5 : decode cX5_init 5 = .ok (.iconst 1, 1) := by decide +kernel
theorem dX5_init_6 : decode cX5_init 6 = .ok (.putfield 7, 3) := by decide +kernel
theorem dX5_init_9 : decode cX5_init 9 = .ok (.aload_n 0, 1) := by decide +kernel
theorem dX5_init_10 : decode cX5_init 10 = .ok (.iconst 1, 1) := by decide +kernel
theorem dX5_init_11 : decode cX5_init 11 = .ok (.putfield 13, 3) := by decide +kernel
theorem dX5_init_14 : decode cX5_init 14 = .ok (.return_, 1) := by decide +kernel
theorem dX5_reset_0 : decode cX5_reset 0 = .ok (.aload_n 0, 1) := by decide +kernel
theorem dX5_reset_1 : decode cX5_reset 1 = .ok (.iconst 0, 1) := by decide +kernel
theorem dX5_reset_2 : decode cX5_reset 2 = .ok (.putfield 16, 3) := by decide +kernel
theorem dX5_reset_5 : decode cX5_reset 5 = .ok (.aload_n 0, 1) := by decide +kernel
theorem dX5_reset_6 : decode cX5_reset 6 = .ok (.iconst 1, 1) := by decide +kernel
theorem dX5_reset_7 : decode cX5_reset 7 = .ok (.putfield 7, 3) := by decide +kernel
theorem dX5_reset_10 : decode cX5_reset 10 = .ok (.aload_n 0, 1) := by decide +kernel
theorem dX5_reset_11 : decode cX5_reset 11 = .ok (.iconst 1, 1) := by decide +kernel
theorem dX5_reset_12 : decode cX5_reset 12 = .ok (.putfield 13, 3) := by decide +kernel
theorem dX5_reset_15 : decode cX5_reset 15 = .ok (.aload_n 0, 1) := by decide +kernel
theorem dX5_reset_16 : decode cX5_reset 16 = .ok (.iconst 0, 1) := by decide +kernel
theorem dX5_reset_17 : decode cX5_reset 17 = .ok (.putfield 19, 3) := by decide +kernel
theorem dX5_reset_20 : decode cX5_reset 20 = .ok (.aload_n 0, 1) := by decide +kernel
theorem dX5_reset_21 : decode cX5_reset 21 = .ok (.iconst 0, 1) := by decide +kernel
theorem dX5_reset_22 : decode cX5_reset 22 = .ok (.putfield 22, 3) := by decide +kernel
theorem dX5_reset_25 : decode cX5_reset 25 = .ok (.aload_n 0, 1) := by decide +kernel
theorem dX5_reset_26 : decode cX5_reset 26 = .ok (.iconst 0, 1) := by decide +kernel
theorem dX5_reset_27 : decode cX5_reset 27 = .ok (.putfield 25, 3) := by decide +kernel
theorem dX5_reset_30 : decode cX5_reset 30 = .ok (.return_, 1) := by decide +kernel
theorem dJ7_rangeCheck_23922_0 : decode cJ7_rangeCheck_23922 0 = .ok (.iload_n 1, 1) := by decide +kernel
theorem dJ7_rangeCheck_23922_1 : decode cJ7_rangeCheck_23922 1 = .ok (.iload_n 2, 1) := by decide +kernel
theorem dJ7_rangeCheck_23922_2 : decode cJ7_rangeCheck_23922 2 = .ok (.if_icmp .le 44, 3) := by decide +kernel
theorem dJ7_rangeCheck_23922_5 : decode cJ7_rangeCheck_23922 5 = .ok (.new 43, 3) := by decide +kernel
theorem dJ7_rangeCheck_23922_8 : decode cJ7_rangeCheck_23922 8 = .ok (.dup, 1) := by decide +kernel
theorem dJ7_rangeCheck_23922_9 : decode cJ7_rangeCheck_23922 9 = .ok (.new 45, 3) := by decide +kernel
theorem dJ7_rangeCheck_23922_12 : decode cJ7_rangeCheck_23922 12 = .ok (.dup, 1) := by decide +kernel
theorem dJ7_rangeCheck_23922_13 : decode cJ7_rangeCheck_23922 13 = .ok (.invokespecial 47, 3) := by decide +kernel
theorem dJ7_rangeCheck_23922_16 : decode cJ7_rangeCheck_23922 16 = .ok (.ldc 48, 2) := by decide +kernel
theorem dJ7_rangeCheck_23922_18 : decode cJ7_rangeCheck_23922 18 = .ok (.invokevirtual 50, 3) := by decide +kernel
theorem dJ7_rangeCheck_23922_21 : decode cJ7_rangeCheck_23922 21 = .ok (.iload_n 1, 1) := by decide +kernel
theorem dJ7_rangeCheck_23922_22 : decode cJ7_rangeCheck_23922 22 = .ok (.invokevirtual 54, 3) := by decide +kernel
theorem dJ7_rangeCheck_23922_25 : decode cJ7_rangeCheck_23922 25 = .ok (.ldc 57, 2) := by decide +kernel
theorem dJ7_rangeCheck_23922_27 : decode cJ7_rangeCheck_23922 27 = .ok (.invokevirtual 50, 3) := by decide +kernel
theorem dJ7_rangeCheck_23922_30 : decode cJ7_rangeCheck_23922 30 = .ok (.iload_n 2, 1) := by decide +kernel
theorem dJ7_rangeCheck_23922_31 : decode cJ7_rangeCheck_23922 31 = .ok (.invokevirtual 54, 3) := by decide +kernel
theorem dJ7_rangeCheck_23922_34 : decode cJ7_rangeCheck_23922 34 = .ok (.ldc 59, 2) := by decide +kernel
theorem dJ7_rangeCheck_23922_36 : decode cJ7_rangeCheck_23922 36 = .ok (.invokevirtual 50, 3) := by decide +kernel
theorem dJ7_rangeCheck_23922_39 : decode cJ7_rangeCheck_23922 39 = .ok (.invokevirtual 61, 3) := by decide +kernel
theorem dJ7_rangeCheck_23922_42 : decode cJ7_rangeCheck_23922 42 = .ok (.invokespecial 65, 3) := by decide +kernel
theorem dJ7_rangeCheck_23922_45 : decode cJ7_rangeCheck_23922 45 = .ok (.athrow, 1) := by decide +kernel
theorem dJ7_rangeCheck_23922_46 : decode cJ7_rangeCheck_23922 46 = .ok (.iload_n 1, 1) := by decide +kernel
theorem dJ7_rangeCheck_23922_47 : decode cJ7_rangeCheck_23922 47 = .ok (.ifCond .ge 12, 3) := by decide +kernel
theorem dJ7_rangeCheck_23922_50 : decode cJ7_rangeCheck_23922 50 = .ok (.new 68, 3) := by decide +kernel
theorem dJ7_rangeCheck_23922_53 : decode cJ7_rangeCheck_23922 53 = .ok (.dup, 1) := by decide +kernel
theorem dJ7_rangeCheck_23922_54 : decode cJ7_rangeCheck_23922 54 = .ok (.iload_n 1, 1) := by decide +kernel
theorem dJ7_rangeCheck_23922_55 : decode cJ7_rangeCheck_23922 55 = .ok (.invokespecial 70, 3) := by decide +kernel
theorem dJ7_rangeCheck_23922_58 : decode cJ7_rangeCheck_23922 58 = .ok (.athrow, 1) := by decide +kernel
theorem dJ7_rangeCheck_23922_59 : decode cJ7_rangeCheck_23922 59 = .ok (.iload_n 2, 1) := by decide +kernel
theorem dJ7_rangeCheck_23922_60 : decode cJ7_rangeCheck_23922 60 = .ok (.iload_n 0, 1) := by decide +kernel
theorem dJ7_rangeCheck_23922_61 : decode cJ7_rangeCheck_23922 61 = .ok (.if_icmp .le 12, 3) := by decide +kernel
theorem dJ7_rangeCheck_23922_64 : decode cJ7_rangeCheck_23922 64 = .ok (.new 68, 3) := by decide +kernel
theorem dJ7_rangeCheck_23922_67 : decode cJ7_rangeCheck_23922 67 = .ok (.dup, 1) := by decide +kernel
theorem dJ7_rangeCheck_23922_68 : decode cJ7_rangeCheck_23922 68 = .ok (.iload_n 2, 1) := by decide +kernel
theorem dJ7_rangeCheck_23922_69 : decode cJ7_rangeCheck_23922 69 = .ok (.invokespecial 70, 3) := by decide +kernel
theorem dJ7_rangeCheck_23922_72 : decode cJ7_rangeCheck_23922 72 = .ok (.athrow, 1) := by decide +kernel
theorem dJ7_rangeCheck_23922_73 : decode cJ7_rangeCheck_23922 73 = .ok (.return_, 1) := by decide +kernel
theorem dJ7_fill_fda19_0 : decode cJ7_fill_fda19 0 = .ok (.aload_n 0, 1) := by decide +kernel
theorem dJ7_fill_fda19_1 : decode cJ7_fill_fda19 1 = .ok (.arraylength, 1) := by decide +kernel
theorem dJ7_fill_fda19_2 : decode cJ7_fill_fda19 2 = .ok (.iload_n 1, 1) := by decide +kernel
theorem dJ7_fill_fda19_3 : decode cJ7_fill_fda19 3 = .ok (.iload_n 2, 1) := by decide +kernel
theorem dJ7_fill_fda19_4 : decode cJ7_fill_fda19 4 = .ok (.invokestatic 13, 3) := by decide +kernel
theorem dJ7_fill_fda19_7 : decode cJ7_fill_fda19 7 = .ok (.iload_n 1, 1) := by decide +kernel
theorem dJ7_fill_fda19_8 : decode cJ7_fill_fda19 8 = .ok (.istore 4, 2) := by decide +kernel
theorem dJ7_fill_fda19_10 : decode cJ7_fill_fda19 10 = .ok (.iload 4, 2) := by decide +kernel
theorem dJ7_fill_fda19_12 : decode cJ7_fill_fda19 12 = .ok (.iload_n 2, 1) := by decide +kernel
theorem dJ7_fill_fda19_13 : decode cJ7_fill_fda19 13 = .ok (.if_icmp .ge 14, 3) := by decide +kernel
theorem dJ7_fill_fda19_16 : decode cJ7_fill_fda19 16 = .ok (.aload_n 0, 1) := by decide +kernel
theorem dJ7_fill_fda19_17 : decode cJ7_fill_fda19 17 = .ok (.iload 4, 2) := by decide +kernel
theorem dJ7_fill_fda19_19 : decode cJ7_fill_fda19 19 = .ok (.iload_n 3, 1) := by decide +kernel
theorem dJ7_fill_fda19_20 : decode cJ7_fill_fda19 20 = .ok (.iastore, 1) := by decide +kernel
theorem dJ7_fill_fda19_21 : decode cJ7_fill_fda19 21 = .ok (.iinc 4 1, 3) := by decide +kernel
theorem dJ7_fill_fda19_24 : decode cJ7_fill_fda19 24 = .ok (.goto (-14), 3) := by decide +kernel
theorem dJ7_fill_fda19_27 : decode cJ7_fill_fda19 27 = .ok (.return_, 1) := by decide +kernel
theorem dJ7_copyOf_9075b_0 : decode cJ7_copyOf_9075b 0 = .ok (.iload_n 1, 1) := by decide +kernel
theorem dJ7_copyOf_9075b_1 : decode cJ7_copyOf_9075b 1 = .ok (.aload_n 0, 1) := by decide +kernel
theorem dJ7_copyOf_9075b_2 : decode cJ7_copyOf_9075b 2 = .ok (.arraylength, 1) := by decide +kernel
theorem dJ7_copyOf_9075b_3 : decode cJ7_copyOf_9075b 3 = .ok (.if_icmp .ne 11, 3) := by decide +kernel
theorem dJ7_copyOf_9075b_6 : decode cJ7_copyOf_9075b 6 = .ok (.aload_n 0, 1) := by decide +kernel
theorem dJ7_copyOf_9075b_7 : decode cJ7_copyOf_9075b 7 = .ok (.invokevirtual 310, 3) := by decide +kernel
theorem dJ7_copyOf_9075b_10 : decode cJ7_copyOf_9075b 10 = .ok (.checkcast 311, 3) := by decide +kernel
theorem dJ7_copyOf_9075b_13 : decode cJ7_copyOf_9075b 13 = .ok (.areturn, 1) := by decide +kernel
theorem dJ7_copyOf_9075b_14 : decode cJ7_copyOf_9075b 14 = .ok (.iload_n 1, 1) := by decide +kernel
theorem dJ7_copyOf_9075b_15 : decode cJ7_copyOf_9075b 15 = .ok (.newarray .byte, 2) := by decide +kernel
theorem dJ7_copyOf_9075b_17 : decode cJ7_copyOf_9075b 17 = .ok (.astore_n 2, 1) := by decide +kernel
theorem dJ7_copyOf_9075b_18 : decode cJ7_copyOf_9075b 18 = .ok (.aload_n 0, 1) := by decide +kernel
theorem dJ7_copyOf_9075b_19 : decode cJ7_copyOf_9075b 19 = .ok (.iconst 0, 1) := by decide +kernel
theorem dJ7_copyOf_9075b_20 : decode cJ7_copyOf_9075b 20 = .ok (.aload_n 2, 1) := by decide +kernel
theorem dJ7_copyOf_9075b_21 : decode cJ7_copyOf_9075b 21 = .ok (.iconst 0, 1) := by decide +kernel
theorem dJ7_copyOf_9075b_22 : decode cJ7_copyOf_9075b 22 = .ok (.aload_n 0, 1) := by decide +kernel
theorem dJ7_copyOf_9075b_23 : decode cJ7_copyOf_9075b 23 = .ok (.arraylength, 1) := by decide +kernel
theorem dJ7_copyOf_9075b_24 : decode cJ7_copyOf_9075b 24 = .ok (.iload_n 1, 1) := by decide +kernel
theorem dJ7_copyOf_9075b_25 : decode cJ7_copyOf_9075b 25 = .ok (.invokestatic 304, 3) := by decide +kernel
theorem dJ7_copyOf_9075b_28 : decode cJ7_copyOf_9075b 28 = .ok (.invokestatic 150, 3) := by decide +kernel
theorem dJ7_copyOf_9075b_31 : decode cJ7_copyOf_9075b 31 = .ok (.aload_n 2, 1) := by decide +kernel
theorem dJ7_copyOf_9075b_32 : decode cJ7_copyOf_9075b 32 = .ok (.areturn, 1) := by decide +kernel
theorem dJ7_copyOf_59c91_0 : decode cJ7_copyOf_59c91 0 = .ok (.iload_n 1, 1) := by decide +kernel
theorem dJ7_copyOf_59c91_1 : decode cJ7_copyOf_59c91 1 = .ok (.aload_n 0, 1) := by decide +kernel
theorem dJ7_copyOf_59c91_2 : decode cJ7_copyOf_59c91 2 = .ok (.arraylength, 1) := by decide +kernel
theorem dJ7_copyOf_59c91_3 : decode cJ7_copyOf_59c91 3 = .ok (.if_icmp .ne 11, 3) := by decide +kernel
theorem dJ7_copyOf_59c91_6 : decode cJ7_copyOf_59c91 6 = .ok (.aload_n 0, 1) := by decide +kernel
theorem dJ7_copyOf_59c91_7 : decode cJ7_copyOf_59c91 7 = .ok (.invokevirtual 316, 3) := by decide +kernel
theorem dJ7_copyOf_59c91_10 : decode cJ7_copyOf_59c91 10 = .ok (.checkcast 317, 3) := by decide +kernel
theorem dJ7_copyOf_59c91_13 : decode cJ7_copyOf_59c91 13 = .ok (.areturn, 1) := by decide +kernel
theorem dJ7_copyOf_59c91_14 : decode cJ7_copyOf_59c91 14 = .ok (.iload_n 1, 1) := by decide +kernel
theorem dJ7_copyOf_59c91_15 : decode cJ7_copyOf_59c91 15 = .ok (.newarray .int, 2) := by decide +kernel
theorem dJ7_copyOf_59c91_17 : decode cJ7_copyOf_59c91 17 = .ok (.astore_n 2, 1) := by decide +kernel
theorem dJ7_copyOf_59c91_18 : decode cJ7_copyOf_59c91 18 = .ok (.aload_n 0, 1) := by decide +kernel
theorem dJ7_copyOf_59c91_19 : decode cJ7_copyOf_59c91 19 = .ok (.iconst 0, 1) := by decide +kernel
theorem dJ7_copyOf_59c91_20 : decode cJ7_copyOf_59c91 20 = .ok (.aload_n 2, 1) := by decide +kernel
theorem dJ7_copyOf_59c91_21 : decode cJ7_copyOf_59c91 21 = .ok (.iconst 0, 1) := by decide +kernel
theorem dJ7_copyOf_59c91_22 : decode cJ7_copyOf_59c91 22 = .ok (.aload_n 0, 1) := by decide +kernel
theorem dJ7_copyOf_59c91_23 : decode cJ7_copyOf_59c91 23 = .ok (.arraylength, 1) := by decide +kernel
theorem dJ7_copyOf_59c91_24 : decode cJ7_copyOf_59c91 24 = .ok (.iload_n 1, 1) := by decide +kernel
theorem dJ7_copyOf_59c91_25 : decode cJ7_copyOf_59c91 25 = .ok (.invokestatic 304, 3) := by decide +kernel
theorem dJ7_copyOf_59c91_28 : decode cJ7_copyOf_59c91 28 = .ok (.invokestatic 150, 3) := by decide +kernel
theorem dJ7_copyOf_59c91_31 : decode cJ7_copyOf_59c91 31 = .ok (.aload_n 2, 1) := by decide +kernel
theorem dJ7_copyOf_59c91_32 : decode cJ7_copyOf_59c91 32 = .ok (.areturn, 1) := by decide +kernel
theorem dJ7_checkLength_df160_0 : decode cJ7_checkLength_df160 0 = .ok (.iload_n 1, 1) := by decide +kernel
theorem dJ7_checkLength_df160_1 : decode cJ7_checkLength_df160 1 = .ok (.iload_n 0, 1) := by decide +kernel
theorem dJ7_checkLength_df160_2 : decode cJ7_checkLength_df160 2 = .ok (.if_icmp .ge 35, 3) := by decide +kernel
theorem dJ7_checkLength_df160_5 : decode cJ7_checkLength_df160 5 = .ok (.new 43, 3) := by decide +kernel
theorem dJ7_checkLength_df160_8 : decode cJ7_checkLength_df160 8 = .ok (.dup, 1) := by decide +kernel
theorem dJ7_checkLength_df160_9 : decode cJ7_checkLength_df160 9 = .ok (.new 45, 3) := by decide +kernel
theorem dJ7_checkLength_df160_12 : decode cJ7_checkLength_df160 12 = .ok (.dup, 1) := by decide +kernel
theorem dJ7_checkLength_df160_13 : decode cJ7_checkLength_df160 13 = .ok (.invokespecial 47, 3) := by decide +kernel
theorem dJ7_checkLength_df160_16 : decode cJ7_checkLength_df160 16 = .ok (.iload_n 0, 1) := by decide +kernel
theorem dJ7_checkLength_df160_17 : decode cJ7_checkLength_df160 17 = .ok (.invokevirtual 54, 3) := by decide +kernel
theorem dJ7_checkLength_df160_20 : decode cJ7_checkLength_df160 20 = .ok (.ldc_w 337, 3) := by decide +kernel
theorem dJ7_checkLength_df160_23 : decode cJ7_checkLength_df160 23 = .ok (.invokevirtual 50, 3) := by decide +kernel
theorem dJ7_checkLength_df160_26 : decode cJ7_checkLength_df160 26 = .ok (.iload_n 1, 1) := by decide +kernel
theorem dJ7_checkLength_df160_27 : decode cJ7_checkLength_df160 27 = .ok (.invokevirtual 54, 3) := by decide +kernel
theorem dJ7_checkLength_df160_30 : decode cJ7_checkLength_df160 30 = .ok (.invokevirtual 61, 3) := by decide +kernel
theorem dJ7_checkLength_df160_33 : decode cJ7_checkLength_df160 33 = .ok (.invokespecial 65, 3) := by decide +kernel
theorem dJ7_checkLength_df160_36 : decode cJ7_checkLength_df160 36 = .ok (.athrow, 1) := by decide +kernel
theorem dJ7_checkLength_df160_37 : decode cJ7_checkLength_df160 37 = .ok (.return_, 1) := by decide +kernel
theorem dJ7_copyOfRange_39247_0 : decode cJ7_copyOfRange_39247 0 = .ok (.iload_n 1, 1) := by decide +kernel
theorem dJ7_copyOfRange_39247_1 : decode cJ7_copyOfRange_39247 1 = .ok (.ifCond .ne 9, 3) := by decide +kernel
theorem dJ7_copyOfRange_39247_4 : decode cJ7_copyOfRange_39247 4 = .ok (.iload_n 2, 1) := by decide +kernel
theorem dJ7_copyOfRange_39247_5 : decode cJ7_copyOfRange_39247 5 = .ok (.aload_n 0, 1) := by decide +kernel
theorem dJ7_copyOfRange_39247_6 : decode cJ7_copyOfRange_39247 6 = .ok (.arraylength, 1) := by decide +kernel
theorem dJ7_copyOfRange_39247_7 : decode cJ7_copyOfRange_39247 7 = .ok (.if_icmp .eq 10, 3) := by decide +kernel
theorem dJ7_copyOfRange_39247_10 : decode cJ7_copyOfRange_39247 10 = .ok (.aload_n 0, 1) := by decide +kernel
theorem dJ7_copyOfRange_39247_11 : decode cJ7_copyOfRange_39247 11 = .ok (.iload_n 1, 1) := by decide +kernel
theorem dJ7_copyOfRange_39247_12 : decode cJ7_copyOfRange_39247 12 = .ok (.iload_n 2, 1) := by decide +kernel
theorem dJ7_copyOfRange_39247_13 : decode cJ7_copyOfRange_39247 13 = .ok (.invokestatic 339, 3) := by decide +kernel
theorem dJ7_copyOfRange_39247_16 : decode cJ7_copyOfRange_39247 16 = .ok (.areturn, 1) := by decide +kernel
theorem dJ7_copyOfRange_39247_17 : decode cJ7_copyOfRange_39247 17 = .ok (.aload_n 0, 1) := by decide +kernel
theorem dJ7_copyOfRange_39247_18 : decode cJ7_copyOfRange_39247 18 = .ok (.invokevirtual 310, 3) := by decide +kernel
theorem dJ7_copyOfRange_39247_21 : decode cJ7_copyOfRange_39247 21 = .ok (.checkcast 311, 3) := by decide +kernel
theorem dJ7_copyOfRange_39247_24 : decode cJ7_copyOfRange_39247 24 = .ok (.areturn, 1) := by decide +kernel
theorem dJ7_copyOfRangeByte_39247_0 : decode cJ7_copyOfRangeByte_39247 0 = .ok (.iload_n 1, 1) := by decide +kernel
theorem dJ7_copyOfRangeByte_39247_1 : decode cJ7_copyOfRangeByte_39247 1 = .ok (.iload_n 2, 1) := by decide +kernel
theorem dJ7_copyOfRangeByte_39247_2 : decode cJ7_copyOfRangeByte_39247 2 = .ok (.invokestatic 343, 3) := by decide +kernel
theorem dJ7_copyOfRangeByte_39247_5 : decode cJ7_copyOfRangeByte_39247 5 = .ok (.iload_n 2, 1) := by decide +kernel
theorem dJ7_copyOfRangeByte_39247_6 : decode cJ7_copyOfRangeByte_39247 6 = .ok (.iload_n 1, 1) := by decide +kernel
theorem dJ7_copyOfRangeByte_39247_7 : decode cJ7_copyOfRangeByte_39247 7 = .ok (.isub, 1) := by decide +kernel
theorem dJ7_copyOfRangeByte_39247_8 : decode cJ7_copyOfRangeByte_39247 8 = .ok (.istore_n 3, 1) := by decide +kernel
theorem dJ7_copyOfRangeByte_39247_9 : decode cJ7_copyOfRangeByte_39247 9 = .ok (.iload_n 3, 1) := by decide +kernel
theorem dJ7_copyOfRangeByte_39247_10 : decode cJ7_copyOfRangeByte_39247 10 = .ok (.newarray .byte, 2) := by decide +kernel
theorem dJ7_copyOfRangeByte_39247_12 : decode cJ7_copyOfRangeByte_39247 12 = .ok (.astore 4, 2) := by decide +kernel
theorem dJ7_copyOfRangeByte_39247_14 : decode cJ7_copyOfRangeByte_39247 14 = .ok (.aload_n 0, 1) := by decide +kernel
theorem dJ7_copyOfRangeByte_39247_15 : decode cJ7_copyOfRangeByte_39247 15 = .ok (.iload_n 1, 1) := by decide +kernel
theorem dJ7_copyOfRangeByte_39247_16 : decode cJ7_copyOfRangeByte_39247 16 = .ok (.aload 4, 2) := by decide +kernel
theorem dJ7_copyOfRangeByte_39247_18 : decode cJ7_copyOfRangeByte_39247 18 = .ok (.iconst 0, 1) := by decide +kernel
theorem dJ7_copyOfRangeByte_39247_19 : decode cJ7_copyOfRangeByte_39247 19 = .ok (.aload_n 0, 1) := by decide +kernel
theorem dJ7_copyOfRangeByte_39247_20 : decode cJ7_copyOfRangeByte_39247 20 = .ok (.arraylength, 1) := by decide +kernel
theorem dJ7_copyOfRangeByte_39247_21 : decode cJ7_copyOfRangeByte_39247 21 = .ok (.iload_n 1, 1) := by decide +kernel
theorem dJ7_copyOfRangeByte_39247_22 : decode cJ7_copyOfRangeByte_39247 22 = .ok (.isub, 1) := by decide +kernel
theorem dJ7_copyOfRangeByte_39247_23 : decode cJ7_copyOfRangeByte_39247 23 = .ok (.iload_n 3, 1) := by decide +kernel
theorem dJ7_copyOfRangeByte_39247_24 : decode cJ7_copyOfRangeByte_39247 24 = .ok (.invokestatic 304, 3) := by decide +kernel
theorem dJ7_copyOfRangeByte_39247_27 : decode cJ7_copyOfRangeByte_39247 27 = .ok (.invokestatic 150, 3) := by decide +kernel
theorem dJ7_copyOfRangeByte_39247_30 : decode cJ7_copyOfRangeByte_39247 30 = .ok (.aload 4, 2) := by decide +kernel
theorem dJ7_copyOfRangeByte_39247_32 : decode cJ7_copyOfRangeByte_39247 32 = .ok (.areturn, 1) := by decide +kernel
