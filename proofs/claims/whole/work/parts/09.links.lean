theorem dX0_count_0 : decode cX0_count 0 = .ok (.aload_n 0, 1) := by decide +kernel
theorem dX0_count_1 : decode cX0_count 1 = .ok (.getfield 21, 3) := by decide +kernel
theorem dX0_count_4 : decode cX0_count 4 = .ok (.ireturn, 1) := by decide +kernel
theorem dX0_room_0 : decode cX0_room 0 = .ok (.aload_n 0, 1) := by decide +kernel
theorem dX0_room_1 : decode cX0_room 1 = .ok (.getfield 15, 3) := by decide +kernel
theorem dX0_room_4 : decode cX0_room 4 = .ok (.arraylength, 1) := by decide +kernel
theorem dX0_room_5 : decode cX0_room 5 = .ok (.aload_n 0, 1) := by decide +kernel
theorem dX0_room_6 : decode cX0_room 6 = .ok (.getfield 21, 3) := by decide +kernel
theorem dX0_room_9 : decode cX0_room 9 = .ok (.isub, 1) := by decide +kernel
theorem dX0_room_10 : decode cX0_room 10 = .ok (.ireturn, 1) := by decide +kernel
theorem dX0_placeOf_0 : decode cX0_placeOf 0 = .ok (.aload_n 0, 1) := by decide +kernel
theorem dX0_placeOf_1 : decode cX0_placeOf 1 = .ok (.getfield 25, 3) := by decide +kernel
theorem dX0_placeOf_4 : decode cX0_placeOf 4 = .ok (.iload_n 1, 1) := by decide +kernel
theorem dX0_placeOf_5 : decode cX0_placeOf 5 = .ok (.iadd, 1) := by decide +kernel
theorem dX0_placeOf_6 : decode cX0_placeOf 6 = .ok (.istore_n 2, 1) := by decide +kernel
theorem dX0_placeOf_7 : decode cX0_placeOf 7 = .ok (.iload_n 2, 1) := by decide +kernel
theorem dX0_placeOf_8 : decode cX0_placeOf 8 = .ok (.aload_n 0, 1) := by decide +kernel
theorem dX0_placeOf_9 : decode cX0_placeOf 9 = .ok (.getfield 15, 3) := by decide +kernel
theorem dX0_placeOf_12 : decode cX0_placeOf 12 = .ok (.arraylength, 1) := by decide +kernel
theorem dX0_placeOf_13 : decode cX0_placeOf 13 = .ok (.if_icmp .lt 13, 3) := by decide +kernel
theorem dX0_placeOf_16 : decode cX0_placeOf 16 = .ok (.iload_n 2, 1) := by decide +kernel
theorem dX0_placeOf_17 : decode cX0_placeOf 17 = .ok (.aload_n 0, 1) := by decide +kernel
theorem dX0_placeOf_18 : decode cX0_placeOf 18 = .ok (.getfield 15, 3) := by decide +kernel
theorem dX0_placeOf_21 : decode cX0_placeOf 21 = .ok (.arraylength, 1) := by decide +kernel
theorem dX0_placeOf_22 : decode cX0_placeOf 22 = .ok (.isub, 1) := by decide +kernel
theorem dX0_placeOf_23 : decode cX0_placeOf 23 = .ok (.goto 4, 3) := by decide +kernel
theorem dX0_placeOf_26 : decode cX0_placeOf 26 = .ok (.iload_n 2, 1) := by decide +kernel
theorem dX0_placeOf_27 : decode cX0_placeOf 27 = .ok (.ireturn, 1) := by decide +kernel
theorem dX0_add_0 : decode cX0_add 0 = .ok (.aload_n 0, 1) := by decide +kernel
theorem dX0_add_1 : decode cX0_add 1 = .ok (.aload_n 0, 1) := by decide +kernel
theorem dX0_add_2 : decode cX0_add 2 = .ok (.getfield 21, 3) := by decide +kernel
theorem dX0_add_5 : decode cX0_add 5 = .ok (.invokevirtual 28, 3) := by decide +kernel
theorem dX0_add_8 : decode cX0_add 8 = .ok (.istore_n 2, 1) := by decide +kernel
theorem dX0_add_9 : decode cX0_add 9 = .ok (.aload_n 0, 1) := by decide +kernel
theorem dX0_add_10 : decode cX0_add 10 = .ok (.getfield 21, 3) := by decide +kernel
theorem dX0_add_13 : decode cX0_add 13 = .ok (.aload_n 0, 1) := by decide +kernel
theorem dX0_add_14 : decode cX0_add 14 = .ok (.getfield 15, 3) := by decide +kernel
theorem dX0_add_17 : decode cX0_add 17 = .ok (.arraylength, 1) := by decide +kernel
theorem dX0_add_18 : decode cX0_add 18 = .ok (.if_icmp .ge 16, 3) := by decide +kernel
theorem dX0_add_21 : decode cX0_add 21 = .ok (.iload_n 2, 1) := by decide +kernel
theorem dX0_add_22 : decode cX0_add 22 = .ok (.ifCond .lt 12, 3) := by decide +kernel
theorem dX0_add_25 : decode cX0_add 25 = .ok (.iload_n 2, 1) := by decide +kernel
theorem dX0_add_26 : decode cX0_add 26 = .ok (.aload_n 0, 1) := by decide +kernel
theorem dX0_add_27 : decode cX0_add 27 = .ok (.getfield 15, 3) := by decide +kernel
theorem dX0_add_30 : decode cX0_add 30 = .ok (.arraylength, 1) := by decide +kernel
theorem dX0_add_31 : decode cX0_add 31 = .ok (.if_icmp .lt 5, 3) := by decide +kernel
theorem dX0_add_34 : decode cX0_add 34 = .ok (.iconst 0, 1) := by decide +kernel
theorem dX0_add_35 : decode cX0_add 35 = .ok (.ireturn, 1) := by decide +kernel
theorem dX0_add_36 : decode cX0_add 36 = .ok (.aload_n 0, 1) := by decide +kernel
theorem dX0_add_37 : decode cX0_add 37 = .ok (.getfield 15, 3) := by decide +kernel
theorem dX0_add_40 : decode cX0_add 40 = .ok (.iload_n 2, 1) := by decide +kernel
theorem dX0_add_41 : decode cX0_add 41 = .ok (.iload_n 1, 1) := by decide +kernel
theorem dX0_add_42 : decode cX0_add 42 = .ok (.iastore, 1) := by decide +kernel
theorem dX0_add_43 : decode cX0_add 43 = .ok (.aload_n 0, 1) := by decide +kernel
theorem dX0_add_44 : decode cX0_add 44 = .ok (.dup, 1) := by decide +kernel
theorem dX0_add_45 : decode cX0_add 45 = .ok (.getfield 21, 3) := by decide +kernel
theorem dX0_add_48 : decode cX0_add 48 = .ok (.iconst 1, 1) := by decide +kernel
theorem dX0_add_49 : decode cX0_add 49 = .ok (.iadd, 1) := by decide +kernel
theorem dX0_add_50 : decode cX0_add 50 = .ok (.putfield 21, 3) := by decide +kernel
theorem dX0_add_53 : decode cX0_add 53 = .ok (.iconst 1, 1) := by decide +kernel
theorem dX0_add_54 : decode cX0_add 54 = .ok (.ireturn, 1) := by decide +kernel
theorem dX0_addNumber_0 : decode cX0_addNumber 0 = .ok (.iload_n 1, 1) := by decide +kernel
theorem dX0_addNumber_1 : decode cX0_addNumber 1 = .ok (.bipush 100, 2) := by decide +kernel
theorem dX0_addNumber_3 : decode cX0_addNumber 3 = .ok (.if_icmp .lt 15, 3) := by decide +kernel
theorem dX0_addNumber_6 : decode cX0_addNumber 6 = .ok (.aload_n 0, 1) := by decide +kernel
theorem dX0_addNumber_7 : decode cX0_addNumber 7 = .ok (.bipush 48, 2) := by decide +kernel
theorem dX0_addNumber_9 : decode cX0_addNumber 9 = .ok (.iload_n 1, 1) := by decide +kernel
theorem dX0_addNumber_10 : decode cX0_addNumber 10 = .ok (.bipush 100, 2) := by decide +kernel
theorem dX0_addNumber_12 : decode cX0_addNumber 12 = .ok (.idiv, 1) := by decide +kernel
theorem dX0_addNumber_13 : decode cX0_addNumber 13 = .ok (.iadd, 1) := by decide +kernel
theorem dX0_addNumber_14 : decode cX0_addNumber 14 = .ok (.invokevirtual 32, 3) := by decide +kernel
theorem dX0_addNumber_17 : decode cX0_addNumber 17 = .ok (.pop, 1) := by decide +kernel
theorem dX0_addNumber_18 : decode cX0_addNumber 18 = .ok (.iload_n 1, 1) := by decide +kernel
theorem dX0_addNumber_19 : decode cX0_addNumber 19 = .ok (.bipush 10, 2) := by decide +kernel
theorem dX0_addNumber_21 : decode cX0_addNumber 21 = .ok (.if_icmp .lt 18, 3) := by decide +kernel
theorem dX0_addNumber_24 : decode cX0_addNumber 24 = .ok (.aload_n 0, 1) := by decide +kernel
theorem dX0_addNumber_25 : decode cX0_addNumber 25 = .ok (.bipush 48, 2) := by decide +kernel
theorem dX0_addNumber_27 : decode cX0_addNumber 27 = .ok (.iload_n 1, 1) := by decide +kernel
theorem dX0_addNumber_28 : decode cX0_addNumber 28 = .ok (.bipush 10, 2) := by decide +kernel
theorem dX0_addNumber_30 : decode cX0_addNumber 30 = .ok (.idiv, 1) := by decide +kernel
theorem dX0_addNumber_31 : decode cX0_addNumber 31 = .ok (.bipush 10, 2) := by decide +kernel
theorem dX0_addNumber_33 : decode cX0_addNumber 33 = .ok (.irem, 1) := by decide +kernel
theorem dX0_addNumber_34 : decode cX0_addNumber 34 = .ok (.iadd, 1) := by decide +kernel
theorem dX0_addNumber_35 : decode cX0_addNumber 35 = .ok (.invokevirtual 32, 3) := by decide +kernel
theorem dX0_addNumber_38 : decode cX0_addNumber 38 = .ok (.pop, 1) := by decide +kernel
theorem dX0_addNumber_39 : decode cX0_addNumber 39 = .ok (.aload_n 0, 1) := by decide +kernel
theorem dX0_addNumber_40 : decode cX0_addNumber 40 = .ok (.bipush 48, 2) := by decide +kernel
theorem dX0_addNumber_42 : decode cX0_addNumber 42 = .ok (.iload_n 1, 1) := by decide +kernel
theorem dX0_addNumber_43 : decode cX0_addNumber 43 = .ok (.bipush 10, 2) := by decide +kernel
theorem dX0_addNumber_45 : decode cX0_addNumber 45 = .ok (.irem, 1) := by decide +kernel
theorem dX0_addNumber_46 : decode cX0_addNumber 46 = .ok (.iadd, 1) := by decide +kernel
theorem dX0_addNumber_47 : decode cX0_addNumber 47 = .ok (.invokevirtual 32, 3) := by decide +kernel
theorem dX0_addNumber_50 : decode cX0_addNumber 50 = .ok (.pop, 1) := by decide +kernel
theorem dX0_addNumber_51 : decode cX0_addNumber 51 = .ok (.return_, 1) := by decide +kernel
theorem dX0_at_0 : decode cX0_at 0 = .ok (.aload_n 0, 1) := by decide +kernel
theorem dX0_at_1 : decode cX0_at 1 = .ok (.iload_n 1, 1) := by decide +kernel
theorem dX0_at_2 : decode cX0_at 2 = .ok (.invokevirtual 28, 3) := by decide +kernel
theorem dX0_at_5 : decode cX0_at 5 = .ok (.istore_n 2, 1) := by decide +kernel
theorem dX0_at_6 : decode cX0_at 6 = .ok (.iload_n 1, 1) := by decide +kernel
theorem dX0_at_7 : decode cX0_at 7 = .ok (.ifCond .lt 24, 3) := by decide +kernel
theorem dX0_at_10 : decode cX0_at 10 = .ok (.iload_n 1, 1) := by decide +kernel
theorem dX0_at_11 : decode cX0_at 11 = .ok (.aload_n 0, 1) := by decide +kernel
theorem dX0_at_12 : decode cX0_at 12 = .ok (.getfield 21, 3) := by decide +kernel
theorem dX0_at_15 : decode cX0_at 15 = .ok (.if_icmp .ge 16, 3) := by decide +kernel
theorem dX0_at_18 : decode cX0_at 18 = .ok (.iload_n 2, 1) := by decide +kernel
theorem dX0_at_19 : decode cX0_at 19 = .ok (.ifCond .lt 12, 3) := by decide +kernel
theorem dX0_at_22 : decode cX0_at 22 = .ok (.iload_n 2, 1) := by decide +kernel
theorem dX0_at_23 : decode cX0_at 23 = .ok (.aload_n 0, 1) := by decide +kernel
theorem dX0_at_24 : decode cX0_at 24 = .ok (.getfield 15, 3) := by decide +kernel
theorem dX0_at_27 : decode cX0_at 27 = .ok (.arraylength, 1) := by decide +kernel
theorem dX0_at_28 : decode cX0_at 28 = .ok (.if_icmp .lt 5, 3) := by decide +kernel
theorem dX0_at_31 : decode cX0_at 31 = .ok (.iconst (-1), 1) := by decide +kernel
theorem dX0_at_32 : decode cX0_at 32 = .ok (.ireturn, 1) := by decide +kernel
theorem dX0_at_33 : decode cX0_at 33 = .ok (.aload_n 0, 1) := by decide +kernel
theorem dX0_at_34 : decode cX0_at 34 = .ok (.getfield 15, 3) := by decide +kernel
theorem dX0_at_37 : decode cX0_at 37 = .ok (.iload_n 2, 1) := by decide +kernel
theorem dX0_at_38 : decode cX0_at 38 = .ok (.iaload, 1) := by decide +kernel
theorem dX0_at_39 : decode cX0_at 39 = .ok (.ireturn, 1) := by decide +kernel
theorem dX0_last_0 : decode cX0_last 0 = .ok (.aload_n 0, 1) := by decide +kernel
theorem dX0_last_1 : decode cX0_last 1 = .ok (.aload_n 0, 1) := by decide +kernel
theorem dX0_last_2 : decode cX0_last 2 = .ok (.getfield 21, 3) := by decide +kernel
theorem dX0_last_5 : decode cX0_last 5 = .ok (.iconst 1, 1) := by decide +kernel
theorem dX0_last_6 : decode cX0_last 6 = .ok (.isub, 1) := by decide +kernel
theorem dX0_last_7 : decode cX0_last 7 = .ok (.invokevirtual 36, 3) := by decide +kernel
theorem dX0_last_10 : decode cX0_last 10 = .ok (.ireturn, 1) := by decide +kernel
theorem dX0_removeFirst_0 : decode cX0_removeFirst 0 = .ok (.aload_n 0, 1) := by decide +kernel
theorem dX0_removeFirst_1 : decode cX0_removeFirst 1 = .ok (.getfield 21, 3) := by decide +kernel
theorem dX0_removeFirst_4 : decode cX0_removeFirst 4 = .ok (.ifCond .le 22, 3) := by decide +kernel
theorem dX0_removeFirst_7 : decode cX0_removeFirst 7 = .ok (.aload_n 0, 1) := by decide +kernel
theorem dX0_removeFirst_8 : decode cX0_removeFirst 8 = .ok (.getfield 25, 3) := by decide +kernel
theorem dX0_removeFirst_11 : decode cX0_removeFirst 11 = .ok (.ifCond .lt 15, 3) := by decide +kernel
theorem dX0_removeFirst_14 : decode cX0_removeFirst 14 = .ok (.aload_n 0, 1) := by decide +kernel
theorem dX0_removeFirst_15 : decode cX0_removeFirst 15 = .ok (.getfield 25, 3) := by decide +kernel
theorem dX0_removeFirst_18 : decode cX0_removeFirst 18 = .ok (.aload_n 0, 1) := by decide +kernel
theorem dX0_removeFirst_19 : decode cX0_removeFirst 19 = .ok (.getfield 15, 3) := by decide +kernel
theorem dX0_removeFirst_22 : decode cX0_removeFirst 22 = .ok (.arraylength, 1) := by decide +kernel
theorem dX0_removeFirst_23 : decode cX0_removeFirst 23 = .ok (.if_icmp .lt 5, 3) := by decide +kernel
theorem dX0_removeFirst_26 : decode cX0_removeFirst 26 = .ok (.iconst (-1), 1) := by decide +kernel
theorem dX0_removeFirst_27 : decode cX0_removeFirst 27 = .ok (.ireturn, 1) := by decide +kernel
theorem dX0_removeFirst_28 : decode cX0_removeFirst 28 = .ok (.aload_n 0, 1) := by decide +kernel
theorem dX0_removeFirst_29 : decode cX0_removeFirst 29 = .ok (.getfield 15, 3) := by decide +kernel
theorem dX0_removeFirst_32 : decode cX0_removeFirst 32 = .ok (.aload_n 0, 1) := by decide +kernel
theorem dX0_removeFirst_33 : decode cX0_removeFirst 33 = .ok (.getfield 25, 3) := by decide +kernel
theorem dX0_removeFirst_36 : decode cX0_removeFirst 36 = .ok (.iaload, 1) := by decide +kernel
theorem dX0_removeFirst_37 : decode cX0_removeFirst 37 = .ok (.istore_n 1, 1) := by decide +kernel
theorem dX0_removeFirst_38 : decode cX0_removeFirst 38 = .ok (.aload_n 0, 1) := by decide +kernel
theorem dX0_removeFirst_39 : decode cX0_removeFirst 39 = .ok (.aload_n 0, 1) := by decide +kernel
theorem dX0_removeFirst_40 : decode cX0_removeFirst 40 = .ok (.iconst 1, 1) := by decide +kernel
theorem dX0_removeFirst_41 : decode cX0_removeFirst 41 = .ok (.invokevirtual 28, 3) := by decide +kernel
theorem dX0_removeFirst_44 : decode cX0_removeFirst 44 = .ok (.putfield 25, 3) := by decide +kernel
theorem dX0_removeFirst_47 : decode cX0_removeFirst 47 = .ok (.aload_n 0, 1) := by decide +kernel
theorem dX0_removeFirst_48 : decode cX0_removeFirst 48 = .ok (.dup, 1) := by decide +kernel
theorem dX0_removeFirst_49 : decode cX0_removeFirst 49 = .ok (.getfield 21, 3) := by decide +kernel
theorem dX0_removeFirst_52 : decode cX0_removeFirst 52 = .ok (.iconst 1, 1) := by decide +kernel
theorem dX0_removeFirst_53 : decode cX0_removeFirst 53 = .ok (.isub, 1) := by decide +kernel
theorem dX0_removeFirst_54 : decode cX0_removeFirst 54 = .ok (.putfield 21, 3) := by decide +kernel
theorem dX0_removeFirst_57 : decode cX0_removeFirst 57 = .ok (.iload_n 1, 1) := by decide +kernel
theorem dX0_removeFirst_58 : decode cX0_removeFirst 58 = .ok (.ireturn, 1) := by decide +kernel
theorem dX0_removeLast_0 : decode cX0_removeLast 0 = .ok (.aload_n 0, 1) := by decide +kernel
theorem dX0_removeLast_1 : decode cX0_removeLast 1 = .ok (.aload_n 0, 1) := by decide +kernel
theorem dX0_removeLast_2 : decode cX0_removeLast 2 = .ok (.getfield 21, 3) := by decide +kernel
theorem dX0_removeLast_5 : decode cX0_removeLast 5 = .ok (.iconst 1, 1) := by decide +kernel
theorem dX0_removeLast_6 : decode cX0_removeLast 6 = .ok (.isub, 1) := by decide +kernel
theorem dX0_removeLast_7 : decode cX0_removeLast 7 = .ok (.invokevirtual 36, 3) := by decide +kernel
theorem dX0_removeLast_10 : decode cX0_removeLast 10 = .ok (.istore_n 1, 1) := by decide +kernel
theorem dX0_removeLast_11 : decode cX0_removeLast 11 = .ok (.aload_n 0, 1) := by decide +kernel
theorem dX0_removeLast_12 : decode cX0_removeLast 12 = .ok (.getfield 21, 3) := by decide +kernel
theorem dX0_removeLast_15 : decode cX0_removeLast 15 = .ok (.ifCond .le 13, 3) := by decide +kernel
theorem dX0_removeLast_18 : decode cX0_removeLast 18 = .ok (.aload_n 0, 1) := by decide +kernel
theorem dX0_removeLast_19 : decode cX0_removeLast 19 = .ok (.dup, 1) := by decide +kernel
theorem dX0_removeLast_20 : decode cX0_removeLast 20 = .ok (.getfield 21, 3) := by decide +kernel
theorem dX0_removeLast_23 : decode cX0_removeLast 23 = .ok (.iconst 1, 1) := by decide +kernel
theorem dX0_removeLast_24 : decode cX0_removeLast 24 = .ok (.isub, 1) := by decide +kernel
theorem dX0_removeLast_25 : decode cX0_removeLast 25 = .ok (.putfield 21, 3) := by decide +kernel
theorem dX0_removeLast_28 : decode cX0_removeLast 28 = .ok (.iload_n 1, 1) := by decide +kernel
theorem dX0_removeLast_29 : decode cX0_removeLast 29 = .ok (.ireturn, 1) := by decide +kernel
theorem dX0_clear_0 : decode cX0_clear 0 = .ok (.aload_n 0, 1) := by decide +kernel
theorem dX0_clear_1 : decode cX0_clear 1 = .ok (.iconst 0, 1) := by decide +kernel
theorem dX0_clear_2 : decode cX0_clear 2 = .ok (.putfield 25, 3) := by decide +kernel
theorem dX0_clear_5 : decode cX0_clear 5 = .ok (.aload_n 0, 1) := by decide +kernel
theorem dX0_clear_6 : decode cX0_clear 6 = .ok (.iconst 0, 1) := by decide +kernel
theorem dX0_clear_7 : decode cX0_clear 7 = .ok (.putfield 21, 3) := by decide +kernel
theorem dX0_clear_10 : decode cX0_clear 10 = .ok (.return_, 1) := by decide +kernel
theorem dX0_addAll_0 : decode cX0_addAll 0 = .ok (.aload_n 1, 1) := by decide +kernel
theorem dX0_addAll_1 : decode cX0_addAll 1 = .ok (.invokevirtual 39, 3) := by decide +kernel
theorem dX0_addAll_4 : decode cX0_addAll 4 = .ok (.istore_n 2, 1) := by decide +kernel
theorem dX0_addAll_5 : decode cX0_addAll 5 = .ok (.iconst 0, 1) := by decide +kernel
theorem dX0_addAll_6 : decode cX0_addAll 6 = .ok (.istore_n 3, 1) := by decide +kernel
theorem dX0_addAll_7 : decode cX0_addAll 7 = .ok (.iload_n 3, 1) := by decide +kernel
theorem dX0_addAll_8 : decode cX0_addAll 8 = .ok (.iload_n 2, 1) := by decide +kernel
theorem dX0_addAll_9 : decode cX0_addAll 9 = .ok (.if_icmp .ge 18, 3) := by decide +kernel
theorem dX0_addAll_12 : decode cX0_addAll 12 = .ok (.aload_n 0, 1) := by decide +kernel
theorem dX0_addAll_13 : decode cX0_addAll 13 = .ok (.aload_n 1, 1) := by decide +kernel
theorem dX0_addAll_14 : decode cX0_addAll 14 = .ok (.invokevirtual 42, 3) := by decide +kernel
theorem dX0_addAll_17 : decode cX0_addAll 17 = .ok (.invokevirtual 32, 3) := by decide +kernel
theorem dX0_addAll_20 : decode cX0_addAll 20 = .ok (.pop, 1) := by decide +kernel
theorem dX0_addAll_21 : decode cX0_addAll 21 = .ok (.iinc 3 1, 3) := by decide +kernel
theorem dX0_addAll_24 : decode cX0_addAll 24 = .ok (.goto (-17), 3) := by decide +kernel
theorem dX0_addAll_27 : decode cX0_addAll 27 = .ok (.return_, 1) := by decide +kernel
def TBy : List zTC := [.inl (0, [some 1, none, none]), .inr 0]
def TByBy : List zTC := [.inl (0, [some 1, none, none]), .inr 0, .inl (0, [some 3, none, none]), .inr 0]
abbrev m_X0_count : zM := (yX0_count, cX0_count, 1, (some .int))
abbrev m_X0_room : zM := (yX0_room, cX0_room, 1, (some .int))
abbrev m_X0_placeOf : zM := (yX0_placeOf, cX0_placeOf, 3, (some .int))
abbrev m_X0_add : zM := (yX0_add, cX0_add, 3, (some .boolean))
abbrev m_X0_addNumber : zM := (yX0_addNumber, cX0_addNumber, 2, none)
abbrev m_X0_at : zM := (yX0_at, cX0_at, 3, (some .int))
abbrev m_X0_last : zM := (yX0_last, cX0_last, 1, (some .int))
abbrev m_X0_removeFirst : zM := (yX0_removeFirst, cX0_removeFirst, 2, (some .int))
abbrev m_X0_removeLast : zM := (yX0_removeLast, cX0_removeLast, 2, (some .int))
abbrev m_X0_clear : zM := (yX0_clear, cX0_clear, 1, none)
abbrev m_X0_addAll : zM := (yX0_addAll, cX0_addAll, 4, none)
theorem fl_X0_15 : zFL RX0 15 0 0 "[I" true := ⟨RX0, TX0, 3, rfl, by decide, rfl, rfl, zmem (i := 176) (by decide +kernel) rfl⟩
theorem fl_X0_21 : zFL RX0 21 0 2 "I" false := ⟨RX0, TX0, 3, rfl, by decide, rfl, rfl, zmem (i := 178) (by decide +kernel) rfl⟩
theorem fl_X0_25 : zFL RX0 25 0 1 "I" false := ⟨RX0, TX0, 3, rfl, by decide, rfl, rfl, zmem (i := 177) (by decide +kernel) rfl⟩
theorem ml_X0_28 : zLV RX0 28 0 1 m_X0_placeOf := ⟨RX0, TX0, 3, rfl, zall4 (zmem (i := 548) (by decide +kernel) rfl) (zmem (i := 550) (by decide +kernel) rfl) (zmem (i := 2) (by decide +kernel) rfl) (zmem (i := 128) (by decide +kernel) rfl), zmem (i := 551) (by decide +kernel) rfl, by decide +kernel⟩
theorem ml_X0_32 : zLV RX0 32 0 1 m_X0_add := ⟨RX0, TX0, 3, rfl, zall4 (zmem (i := 612) (by decide +kernel) rfl) (zmem (i := 545) (by decide +kernel) rfl) (zmem (i := 546) (by decide +kernel) rfl) (zmem (i := 128) (by decide +kernel) rfl), zmem (i := 547) (by decide +kernel) rfl, by decide +kernel⟩
theorem ml_X0_36 : zLV RX0 36 0 1 m_X0_at := ⟨RX0, TX0, 3, rfl, zall4 (zmem (i := 1206) (by decide +kernel) rfl) (zmem (i := 1207) (by decide +kernel) rfl) (zmem (i := 1208) (by decide +kernel) rfl) (zmem (i := 128) (by decide +kernel) rfl), zmem (i := 1209) (by decide +kernel) rfl, by decide +kernel⟩
theorem ml_X0_39 : zLV RX0 39 0 0 m_X0_count := ⟨RX0, TX0, 3, rfl, zall4 (zmem (i := 610) (by decide +kernel) rfl) (zmem (i := 553) (by decide +kernel) rfl) (zmem (i := 554) (by decide +kernel) rfl) (zmem (i := 128) (by decide +kernel) rfl), zmem (i := 555) (by decide +kernel) rfl, by decide +kernel⟩
theorem ml_X0_42 : zLV RX0 42 0 0 m_X0_removeFirst := ⟨RX0, TX0, 3, rfl, zall4 (zmem (i := 611) (by decide +kernel) rfl) (zmem (i := 557) (by decide +kernel) rfl) (zmem (i := 558) (by decide +kernel) rfl) (zmem (i := 128) (by decide +kernel) rfl), zmem (i := 559) (by decide +kernel) rfl, by decide +kernel⟩
theorem sb_TByBy_TBy_0 : zSub TByBy TBy (zsh 0) := zSub_of (by decide +kernel) (by decide +kernel)
theorem sb_TByBy_TBy_2 : zSub TByBy TBy (zsh 2) := zSub_of (by decide +kernel) (by decide +kernel)
