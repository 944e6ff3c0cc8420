theorem dX8_init_0 : decode cX8_init 0 = .ok (.aload_n 0, 1) := by decide +kernel
theorem dX8_init_1 : decode cX8_init 1 = .ok (.invokespecial 3, 3) := by decide +kernel
theorem dX8_init_4 : decode cX8_init 4 = .ok (.aload_n 0, 1) := by decide +kernel
theorem dX8_init_5 : decode cX8_init 5 = .ok (.new 9, 3) := by decide +kernel
theorem dX8_init_8 : decode cX8_init 8 = .ok (.dup, 1) := by decide +kernel
theorem dX8_init_9 : decode cX8_init 9 = .ok (.invokespecial 11, 3) := by decide +kernel
theorem dX8_init_12 : decode cX8_init 12 = .ok (.putfield 12, 3) := by decide +kernel
theorem dX8_init_15 : decode cX8_init 15 = .ok (.aload_n 0, 1) := by decide +kernel
theorem dX8_init_16 : decode cX8_init 16 = .ok (.new 18, 3) := by decide +kernel
theorem dX8_init_19 : decode cX8_init 19 = .ok (.dup, 1) := by decide +kernel
theorem dX8_init_20 : decode cX8_init 20 = .ok (.invokespecial 20, 3) := by decide +kernel
theorem dX8_init_23 : decode cX8_init 23 = .ok (.putfield 21, 3) := by decide +kernel
theorem dX8_init_26 : decode cX8_init 26 = .ok (.aload_n 0, 1) := by decide +kernel
theorem dX8_init_27 : decode cX8_init 27 = .ok (.new 25, 3) := by decide +kernel
theorem dX8_init_30 : decode cX8_init 30 = .ok (.dup, 1) := by decide +kernel
theorem dX8_init_31 : decode cX8_init 31 = .ok (.invokespecial 27, 3) := by decide +kernel
theorem dX8_init_34 : decode cX8_init 34 = .ok (.putfield 28, 3) := by decide +kernel
theorem dX8_init_37 : decode cX8_init 37 = .ok (.aload_n 0, 1) := by decide +kernel
theorem dX8_init_38 : decode cX8_init 38 = .ok (.new 32, 3) := by decide +kernel
theorem dX8_init_41 : decode cX8_init 41 = .ok (.dup, 1) := by decide +kernel
theorem dX8_init_42 : decode cX8_init 42 = .ok (.invokespecial 34, 3) := by decide +kernel
theorem dX8_init_45 : decode cX8_init 45 = .ok (.putfield 35, 3) := by decide +kernel
theorem dX8_init_48 : decode cX8_init 48 = .ok (.aload_n 0, 1) := by decide +kernel
theorem dX8_init_49 : decode cX8_init 49 = .ok (.new 39, 3) := by decide +kernel
theorem dX8_init_52 : decode cX8_init 52 = .ok (.dup, 1) := by decide +kernel
theorem dX8_init_53 : decode cX8_init 53 = .ok (.bipush 8, 2) := by decide +kernel
theorem dX8_init_55 : decode cX8_init 55 = .ok (.invokespecial 41, 3) := by decide +kernel
theorem dX8_init_58 : decode cX8_init 58 = .ok (.putfield 44, 3) := by decide +kernel
theorem dX8_init_61 : decode cX8_init 61 = .ok (.aload_n 0, 1) := by decide +kernel
theorem dX8_init_62 : decode cX8_init 62 = .ok (.new 48, 3) := by decide +kernel
theorem dX8_init_65 : decode cX8_init 65 = .ok (.dup, 1) := by decide +kernel
theorem dX8_init_66 : decode cX8_init 66 = .ok (.invokespecial 50, 3) := by decide +kernel
theorem dX8_init_69 : decode cX8_init 69 = .ok (.putfield 51, 3) := by decide +kernel
theorem dX8_init_72 : decode cX8_init 72 = .ok (.aload_n 0, 1) := by decide +kernel
theorem dX8_init_73 : decode cX8_init 73 = .ok (.new 18, 3) := by decide +kernel
theorem dX8_init_76 : decode cX8_init 76 = .ok (.dup, 1) := by decide +kernel
theorem dX8_init_77 : decode cX8_init 77 = .ok (.invokespecial 20, 3) := by decide +kernel
theorem dX8_init_80 : decode cX8_init 80 = .ok (.putfield 55, 3) := by decide +kernel
theorem dX8_init_83 : decode cX8_init 83 = .ok (.aload_n 0, 1) := by decide +kernel
theorem dX8_init_84 : decode cX8_init 84 = .ok (.bipush 24, 2) := by decide +kernel
theorem dX8_init_86 : decode cX8_init 86 = .ok (.newarray .boolean, 2) := by decide +kernel
theorem dX8_init_88 : decode cX8_init 88 = .ok (.putfield 58, 3) := by decide +kernel
theorem dX8_init_91 : decode cX8_init 91 = .ok (.aload_n 0, 1) := by decide +kernel
theorem dX8_init_92 : decode cX8_init 92 = .ok (.bipush 6, 2) := by decide +kernel
theorem dX8_init_94 : decode cX8_init 94 = .ok (.putfield 62, 3) := by decide +kernel
theorem dX8_init_97 : decode cX8_init 97 = .ok (.aload_n 0, 1) := by decide +kernel
theorem dX8_init_98 : decode cX8_init 98 = .ok (.bipush 12, 2) := by decide +kernel
theorem dX8_init_100 : decode cX8_init 100 = .ok (.putfield 66, 3) := by decide +kernel
theorem dX8_init_103 : decode cX8_init 103 = .ok (.aload_n 0, 1) := by decide +kernel
theorem dX8_init_104 : decode cX8_init 104 = .ok (.iconst 5, 1) := by decide +kernel
theorem dX8_init_105 : decode cX8_init 105 = .ok (.putfield 69, 3) := by decide +kernel
theorem dX8_init_108 : decode cX8_init 108 = .ok (.aload_n 0, 1) := by decide +kernel
theorem dX8_init_109 : decode cX8_init 109 = .ok (.iconst 0, 1) := by decide +kernel
theorem dX8_init_110 : decode cX8_init 110 = .ok (.invokevirtual 72, 3) := by decide +kernel
theorem dX8_init_113 : decode cX8_init 113 = .ok (.return_, 1) := by decide +kernel
theorem dX8_shown_0 : decode cX8_shown 0 = .ok (.aload_n 0, 1) := by decide +kernel
theorem dX8_shown_1 : decode cX8_shown 1 = .ok (.getfield 75, 3) := by decide +kernel
theorem dX8_shown_4 : decode cX8_shown 4 = .ok (.ifCond .eq 10, 3) := by decide +kernel
theorem dX8_shown_7 : decode cX8_shown 7 = .ok (.aload_n 0, 1) := by decide +kernel
theorem dX8_shown_8 : decode cX8_shown 8 = .ok (.getfield 51, 3) := by decide +kernel
theorem dX8_shown_11 : decode cX8_shown 11 = .ok (.goto 10, 3) := by decide +kernel
theorem dX8_shown_14 : decode cX8_shown 14 = .ok (.aload_n 0, 1) := by decide +kernel
theorem dX8_shown_15 : decode cX8_shown 15 = .ok (.getfield 12, 3) := by decide +kernel
theorem dX8_shown_18 : decode cX8_shown 18 = .ok (.getfield 79, 3) := by decide +kernel
theorem dX8_shown_21 : decode cX8_shown 21 = .ok (.areturn, 1) := by decide +kernel
theorem dX8_has_0 : decode cX8_has 0 = .ok (.iload_n 1, 1) := by decide +kernel
theorem dX8_has_1 : decode cX8_has 1 = .ok (.ifCond .lt 27, 3) := by decide +kernel
theorem dX8_has_4 : decode cX8_has 4 = .ok (.iload_n 1, 1) := by decide +kernel
theorem dX8_has_5 : decode cX8_has 5 = .ok (.aload_n 0, 1) := by decide +kernel
theorem dX8_has_6 : decode cX8_has 6 = .ok (.getfield 62, 3) := by decide +kernel
theorem dX8_has_9 : decode cX8_has 9 = .ok (.if_icmp .ge 19, 3) := by decide +kernel
theorem dX8_has_12 : decode cX8_has 12 = .ok (.iload_n 2, 1) := by decide +kernel
theorem dX8_has_13 : decode cX8_has 13 = .ok (.ifCond .lt 15, 3) := by decide +kernel
theorem dX8_has_16 : decode cX8_has 16 = .ok (.iload_n 2, 1) := by decide +kernel
theorem dX8_has_17 : decode cX8_has 17 = .ok (.aload_n 0, 1) := by decide +kernel
theorem dX8_has_18 : decode cX8_has 18 = .ok (.getfield 66, 3) := by decide +kernel
theorem dX8_has_21 : decode cX8_has 21 = .ok (.if_icmp .ge 7, 3) := by decide +kernel
theorem dX8_has_24 : decode cX8_has 24 = .ok (.iconst 1, 1) := by decide +kernel
theorem dX8_has_25 : decode cX8_has 25 = .ok (.goto 4, 3) := by decide +kernel
theorem dX8_has_28 : decode cX8_has 28 = .ok (.iconst 0, 1) := by decide +kernel
theorem dX8_has_29 : decode cX8_has 29 = .ok (.ireturn, 1) := by decide +kernel
theorem dX8_tellPlaces_0 : decode cX8_tellPlaces 0 = .ok (.iload_n 1, 1) := by decide +kernel
theorem dX8_tellPlaces_1 : decode cX8_tellPlaces 1 = .ok (.tableswitch 134 0 9 #[55, 63, 71, 87, 95, 103, 108, 113, 118, 123], 55) := by decide +kernel
theorem dX8_tellPlaces_56 : decode cX8_tellPlaces 56 = .ok (.aload_n 0, 1) := by decide +kernel
theorem dX8_tellPlaces_57 : decode cX8_tellPlaces 57 = .ok (.getfield 21, 3) := by decide +kernel
theorem dX8_tellPlaces_60 : decode cX8_tellPlaces 60 = .ok (.getfield 82, 3) := by decide +kernel
theorem dX8_tellPlaces_63 : decode cX8_tellPlaces 63 = .ok (.ireturn, 1) := by decide +kernel
theorem dX8_tellPlaces_64 : decode cX8_tellPlaces 64 = .ok (.aload_n 0, 1) := by decide +kernel
theorem dX8_tellPlaces_65 : decode cX8_tellPlaces 65 = .ok (.getfield 21, 3) := by decide +kernel
theorem dX8_tellPlaces_68 : decode cX8_tellPlaces 68 = .ok (.getfield 85, 3) := by decide +kernel
theorem dX8_tellPlaces_71 : decode cX8_tellPlaces 71 = .ok (.ireturn, 1) := by decide +kernel
theorem dX8_tellPlaces_72 : decode cX8_tellPlaces 72 = .ok (.aload_n 0, 1) := by decide +kernel
theorem dX8_tellPlaces_73 : decode cX8_tellPlaces 73 = .ok (.getfield 21, 3) := by decide +kernel
theorem dX8_tellPlaces_76 : decode cX8_tellPlaces 76 = .ok (.getfield 88, 3) := by decide +kernel
theorem dX8_tellPlaces_79 : decode cX8_tellPlaces 79 = .ok (.ifCond .eq 7, 3) := by decide +kernel
theorem dX8_tellPlaces_82 : decode cX8_tellPlaces 82 = .ok (.iconst 1, 1) := by decide +kernel
theorem dX8_tellPlaces_83 : decode cX8_tellPlaces 83 = .ok (.goto 4, 3) := by decide +kernel
theorem dX8_tellPlaces_86 : decode cX8_tellPlaces 86 = .ok (.iconst 0, 1) := by decide +kernel
theorem dX8_tellPlaces_87 : decode cX8_tellPlaces 87 = .ok (.ireturn, 1) := by decide +kernel
theorem dX8_tellPlaces_88 : decode cX8_tellPlaces 88 = .ok (.aload_n 0, 1) := by decide +kernel
theorem dX8_tellPlaces_89 : decode cX8_tellPlaces 89 = .ok (.getfield 35, 3) := by decide +kernel
theorem dX8_tellPlaces_92 : decode cX8_tellPlaces 92 = .ok (.getfield 91, 3) := by decide +kernel
theorem dX8_tellPlaces_95 : decode cX8_tellPlaces 95 = .ok (.ireturn, 1) := by decide +kernel
theorem dX8_tellPlaces_96 : decode cX8_tellPlaces 96 = .ok (.aload_n 0, 1) := by decide +kernel
theorem dX8_tellPlaces_97 : decode cX8_tellPlaces 97 = .ok (.getfield 21, 3) := by decide +kernel
theorem dX8_tellPlaces_100 : decode cX8_tellPlaces 100 = .ok (.getfield 94, 3) := by decide +kernel
theorem dX8_tellPlaces_103 : decode cX8_tellPlaces 103 = .ok (.ireturn, 1) := by decide +kernel
theorem dX8_tellPlaces_104 : decode cX8_tellPlaces 104 = .ok (.aload_n 0, 1) := by decide +kernel
theorem dX8_tellPlaces_105 : decode cX8_tellPlaces 105 = .ok (.getfield 97, 3) := by decide +kernel
theorem dX8_tellPlaces_108 : decode cX8_tellPlaces 108 = .ok (.ireturn, 1) := by decide +kernel
theorem dX8_tellPlaces_109 : decode cX8_tellPlaces 109 = .ok (.aload_n 0, 1) := by decide +kernel
theorem dX8_tellPlaces_110 : decode cX8_tellPlaces 110 = .ok (.getfield 69, 3) := by decide +kernel
theorem dX8_tellPlaces_113 : decode cX8_tellPlaces 113 = .ok (.ireturn, 1) := by decide +kernel
theorem dX8_tellPlaces_114 : decode cX8_tellPlaces 114 = .ok (.aload_n 0, 1) := by decide +kernel
theorem dX8_tellPlaces_115 : decode cX8_tellPlaces 115 = .ok (.getfield 62, 3) := by decide +kernel
theorem dX8_tellPlaces_118 : decode cX8_tellPlaces 118 = .ok (.ireturn, 1) := by decide +kernel
theorem dX8_tellPlaces_119 : decode cX8_tellPlaces 119 = .ok (.aload_n 0, 1) := by decide +kernel
theorem dX8_tellPlaces_120 : decode cX8_tellPlaces 120 = .ok (.getfield 66, 3) := by decide +kernel
theorem dX8_tellPlaces_123 : decode cX8_tellPlaces 123 = .ok (.ireturn, 1) := by decide +kernel
theorem dX8_tellPlaces_124 : decode cX8_tellPlaces 124 = .ok (.aload_n 0, 1) := by decide +kernel
theorem dX8_tellPlaces_125 : decode cX8_tellPlaces 125 = .ok (.getfield 12, 3) := by decide +kernel
theorem dX8_tellPlaces_128 : decode cX8_tellPlaces 128 = .ok (.getfield 100, 3) := by decide +kernel
theorem dX8_tellPlaces_131 : decode cX8_tellPlaces 131 = .ok (.invokevirtual 104, 3) := by decide +kernel
theorem dX8_tellPlaces_134 : decode cX8_tellPlaces 134 = .ok (.ireturn, 1) := by decide +kernel
theorem dX8_tellPlaces_135 : decode cX8_tellPlaces 135 = .ok (.iconst (-1), 1) := by decide +kernel
theorem dX8_tellPlaces_136 : decode cX8_tellPlaces 136 = .ok (.ireturn, 1) := by decide +kernel
theorem dX8_setFirstTabs_0 : decode cX8_setFirstTabs 0 = .ok (.iload_n 1, 1) := by decide +kernel
theorem dX8_setFirstTabs_1 : decode cX8_setFirstTabs 1 = .ok (.iconst 0, 1) := by decide +kernel
theorem dX8_setFirstTabs_2 : decode cX8_setFirstTabs 2 = .ok (.invokestatic 110, 3) := by decide +kernel
theorem dX8_setFirstTabs_5 : decode cX8_setFirstTabs 5 = .ok (.istore_n 2, 1) := by decide +kernel
theorem dX8_setFirstTabs_6 : decode cX8_setFirstTabs 6 = .ok (.iload_n 2, 1) := by decide +kernel
theorem dX8_setFirstTabs_7 : decode cX8_setFirstTabs 7 = .ok (.bipush 24, 2) := by decide +kernel
theorem dX8_setFirstTabs_9 : decode cX8_setFirstTabs 9 = .ok (.if_icmp .ge 34, 3) := by decide +kernel
theorem dX8_setFirstTabs_12 : decode cX8_setFirstTabs 12 = .ok (.aload_n 0, 1) := by decide +kernel
theorem dX8_setFirstTabs_13 : decode cX8_setFirstTabs 13 = .ok (.getfield 58, 3) := by decide +kernel
theorem dX8_setFirstTabs_16 : decode cX8_setFirstTabs 16 = .ok (.iload_n 2, 1) := by decide +kernel
theorem dX8_setFirstTabs_17 : decode cX8_setFirstTabs 17 = .ok (.iload_n 2, 1) := by decide +kernel
theorem dX8_setFirstTabs_18 : decode cX8_setFirstTabs 18 = .ok (.aload_n 0, 1) := by decide +kernel
theorem dX8_setFirstTabs_19 : decode cX8_setFirstTabs 19 = .ok (.getfield 66, 3) := by decide +kernel
theorem dX8_setFirstTabs_22 : decode cX8_setFirstTabs 22 = .ok (.if_icmp .ge 13, 3) := by decide +kernel
theorem dX8_setFirstTabs_25 : decode cX8_setFirstTabs 25 = .ok (.iload_n 2, 1) := by decide +kernel
theorem dX8_setFirstTabs_26 : decode cX8_setFirstTabs 26 = .ok (.iconst 4, 1) := by decide +kernel
theorem dX8_setFirstTabs_27 : decode cX8_setFirstTabs 27 = .ok (.irem, 1) := by decide +kernel
theorem dX8_setFirstTabs_28 : decode cX8_setFirstTabs 28 = .ok (.ifCond .ne 7, 3) := by decide +kernel
theorem dX8_setFirstTabs_31 : decode cX8_setFirstTabs 31 = .ok (.iconst 1, 1) := by decide +kernel
theorem dX8_setFirstTabs_32 : decode cX8_setFirstTabs 32 = .ok (.goto 4, 3) := by decide +kernel
theorem dX8_setFirstTabs_35 : decode cX8_setFirstTabs 35 = .ok (.iconst 0, 1) := by decide +kernel
theorem dX8_setFirstTabs_36 : decode cX8_setFirstTabs 36 = .ok (.bastore, 1) := by decide +kernel
theorem dX8_setFirstTabs_37 : decode cX8_setFirstTabs 37 = .ok (.iinc 2 1, 3) := by decide +kernel
theorem dX8_setFirstTabs_40 : decode cX8_setFirstTabs 40 = .ok (.goto (-34), 3) := by decide +kernel
theorem dX8_setFirstTabs_43 : decode cX8_setFirstTabs 43 = .ok (.return_, 1) := by decide +kernel
theorem dX8_nextTab_0 : decode cX8_nextTab 0 = .ok (.aload_n 0, 1) := by decide +kernel
theorem dX8_nextTab_1 : decode cX8_nextTab 1 = .ok (.getfield 21, 3) := by decide +kernel
theorem dX8_nextTab_4 : decode cX8_nextTab 4 = .ok (.getfield 85, 3) := by decide +kernel
theorem dX8_nextTab_7 : decode cX8_nextTab 7 = .ok (.iconst 1, 1) := by decide +kernel
theorem dX8_nextTab_8 : decode cX8_nextTab 8 = .ok (.iadd, 1) := by decide +kernel
theorem dX8_nextTab_9 : decode cX8_nextTab 9 = .ok (.istore_n 1, 1) := by decide +kernel
theorem dX8_nextTab_10 : decode cX8_nextTab 10 = .ok (.iload_n 1, 1) := by decide +kernel
theorem dX8_nextTab_11 : decode cX8_nextTab 11 = .ok (.aload_n 0, 1) := by decide +kernel
theorem dX8_nextTab_12 : decode cX8_nextTab 12 = .ok (.getfield 66, 3) := by decide +kernel
theorem dX8_nextTab_15 : decode cX8_nextTab 15 = .ok (.if_icmp .ge 30, 3) := by decide +kernel
theorem dX8_nextTab_18 : decode cX8_nextTab 18 = .ok (.iload_n 1, 1) := by decide +kernel
theorem dX8_nextTab_19 : decode cX8_nextTab 19 = .ok (.ifCond .lt 20, 3) := by decide +kernel
theorem dX8_nextTab_22 : decode cX8_nextTab 22 = .ok (.iload_n 1, 1) := by decide +kernel
theorem dX8_nextTab_23 : decode cX8_nextTab 23 = .ok (.bipush 24, 2) := by decide +kernel
theorem dX8_nextTab_25 : decode cX8_nextTab 25 = .ok (.if_icmp .ge 14, 3) := by decide +kernel
theorem dX8_nextTab_28 : decode cX8_nextTab 28 = .ok (.aload_n 0, 1) := by decide +kernel
theorem dX8_nextTab_29 : decode cX8_nextTab 29 = .ok (.getfield 58, 3) := by decide +kernel
theorem dX8_nextTab_32 : decode cX8_nextTab 32 = .ok (.iload_n 1, 1) := by decide +kernel
theorem dX8_nextTab_33 : decode cX8_nextTab 33 = .ok (.baload, 1) := by decide +kernel
theorem dX8_nextTab_34 : decode cX8_nextTab 34 = .ok (.ifCond .eq 5, 3) := by decide +kernel
theorem dX8_nextTab_37 : decode cX8_nextTab 37 = .ok (.iload_n 1, 1) := by decide +kernel
theorem dX8_nextTab_38 : decode cX8_nextTab 38 = .ok (.ireturn, 1) := by decide +kernel
theorem dX8_nextTab_39 : decode cX8_nextTab 39 = .ok (.iinc 1 1, 3) := by decide +kernel
theorem dX8_nextTab_42 : decode cX8_nextTab 42 = .ok (.goto (-32), 3) := by decide +kernel
theorem dX8_nextTab_45 : decode cX8_nextTab 45 = .ok (.iconst (-1), 1) := by decide +kernel
theorem dX8_nextTab_46 : decode cX8_nextTab 46 = .ok (.ireturn, 1) := by decide +kernel
theorem dX8_receive_0 : decode cX8_receive 0 = .ok (.aload_n 0, 1) := by decide +kernel
theorem dX8_receive_1 : decode cX8_receive 1 = .ok (.getfield 35, 3) := by decide +kernel
theorem dX8_receive_4 : decode cX8_receive 4 = .ok (.iload_n 1, 1) := by decide +kernel
theorem dX8_receive_5 : decode cX8_receive 5 = .ok (.invokevirtual 116, 3) := by decide +kernel
theorem dX8_receive_8 : decode cX8_receive 8 = .ok (.tableswitch 87 1 6 #[40, 48, 55, 63, 71, 79], 40) := by decide +kernel
theorem dX8_receive_48 : decode cX8_receive 48 = .ok (.aload_n 0, 1) := by decide +kernel
theorem dX8_receive_49 : decode cX8_receive 49 = .ok (.iload_n 1, 1) := by decide +kernel
theorem dX8_receive_50 : decode cX8_receive 50 = .ok (.invokevirtual 120, 3) := by decide +kernel
theorem dX8_receive_53 : decode cX8_receive 53 = .ok (.goto 42, 3) := by decide +kernel
theorem dX8_receive_56 : decode cX8_receive 56 = .ok (.aload_n 0, 1) := by decide +kernel
theorem dX8_receive_57 : decode cX8_receive 57 = .ok (.invokevirtual 123, 3) := by decide +kernel
theorem dX8_receive_60 : decode cX8_receive 60 = .ok (.goto 35, 3) := by decide +kernel
theorem dX8_receive_63 : decode cX8_receive 63 = .ok (.aload_n 0, 1) := by decide +kernel
theorem dX8_receive_64 : decode cX8_receive 64 = .ok (.iload_n 1, 1) := by decide +kernel
theorem dX8_receive_65 : decode cX8_receive 65 = .ok (.invokevirtual 126, 3) := by decide +kernel
theorem dX8_receive_68 : decode cX8_receive 68 = .ok (.goto 27, 3) := by decide +kernel
theorem dX8_receive_71 : decode cX8_receive 71 = .ok (.aload_n 0, 1) := by decide +kernel
theorem dX8_receive_72 : decode cX8_receive 72 = .ok (.iload_n 1, 1) := by decide +kernel
theorem dX8_receive_73 : decode cX8_receive 73 = .ok (.invokevirtual 129, 3) := by decide +kernel
theorem dX8_receive_76 : decode cX8_receive 76 = .ok (.goto 19, 3) := by decide +kernel
theorem dX8_receive_79 : decode cX8_receive 79 = .ok (.aload_n 0, 1) := by decide +kernel
theorem dX8_receive_80 : decode cX8_receive 80 = .ok (.iload_n 1, 1) := by decide +kernel
theorem dX8_receive_81 : decode cX8_receive 81 = .ok (.invokevirtual 132, 3) := by decide +kernel
theorem dX8_receive_84 : decode cX8_receive 84 = .ok (.goto 11, 3) := by decide +kernel
theorem dX8_receive_87 : decode cX8_receive 87 = .ok (.aload_n 0, 1) := by decide +kernel
theorem dX8_receive_88 : decode cX8_receive 88 = .ok (.iload_n 1, 1) := by decide +kernel
theorem dX8_receive_89 : decode cX8_receive 89 = .ok (.invokevirtual 135, 3) := by decide +kernel
theorem dX8_receive_92 : decode cX8_receive 92 = .ok (.goto 3, 3) := by decide +kernel
theorem dX8_receive_95 : decode cX8_receive 95 = .ok (.return_, 1) := by decide +kernel
theorem dX8_drawSign_0 : decode cX8_drawSign 0 = .ok (.aload_n 0, 1) := by decide +kernel
theorem dX8_drawSign_1 : decode cX8_drawSign 1 = .ok (.invokevirtual 138, 3) := by decide +kernel
theorem dX8_drawSign_4 : decode cX8_drawSign 4 = .ok (.astore_n 2, 1) := by decide +kernel
theorem dX8_drawSign_5 : decode cX8_drawSign 5 = .ok (.iload_n 1, 1) := by decide +kernel
theorem dX8_drawSign_6 : decode cX8_drawSign 6 = .ok (.invokestatic 142, 3) := by decide +kernel
theorem dX8_drawSign_9 : decode cX8_drawSign 9 = .ok (.ifCond .eq 7, 3) := by decide +kernel
theorem dX8_drawSign_12 : decode cX8_drawSign 12 = .ok (.iconst 2, 1) := by decide +kernel
theorem dX8_drawSign_13 : decode cX8_drawSign 13 = .ok (.goto 4, 3) := by decide +kernel
theorem dX8_drawSign_16 : decode cX8_drawSign 16 = .ok (.iconst 1, 1) := by decide +kernel
theorem dX8_drawSign_17 : decode cX8_drawSign 17 = .ok (.istore_n 3, 1) := by decide +kernel
theorem dX8_drawSign_18 : decode cX8_drawSign 18 = .ok (.aload_n 0, 1) := by decide +kernel
theorem dX8_drawSign_19 : decode cX8_drawSign 19 = .ok (.getfield 66, 3) := by decide +kernel
theorem dX8_drawSign_22 : decode cX8_drawSign 22 = .ok (.iconst 1, 1) := by decide +kernel
theorem dX8_drawSign_23 : decode cX8_drawSign 23 = .ok (.isub, 1) := by decide +kernel
theorem dX8_drawSign_24 : decode cX8_drawSign 24 = .ok (.istore 4, 2) := by decide +kernel
theorem dX8_drawSign_26 : decode cX8_drawSign 26 = .ok (.iload_n 3, 1) := by decide +kernel
theorem dX8_drawSign_27 : decode cX8_drawSign 27 = .ok (.iconst 2, 1) := by decide +kernel
theorem dX8_drawSign_28 : decode cX8_drawSign 28 = .ok (.if_icmp .ne 19, 3) := by decide +kernel
theorem dX8_drawSign_31 : decode cX8_drawSign 31 = .ok (.aload_n 0, 1) := by decide +kernel
theorem dX8_drawSign_32 : decode cX8_drawSign 32 = .ok (.getfield 21, 3) := by decide +kernel
theorem dX8_drawSign_35 : decode cX8_drawSign 35 = .ok (.getfield 85, 3) := by decide +kernel
theorem dX8_drawSign_38 : decode cX8_drawSign 38 = .ok (.iload 4, 2) := by decide +kernel
theorem dX8_drawSign_40 : decode cX8_drawSign 40 = .ok (.if_icmp .ne 7, 3) := by decide +kernel
theorem dX8_drawSign_43 : decode cX8_drawSign 43 = .ok (.iconst 1, 1) := by decide +kernel
theorem dX8_drawSign_44 : decode cX8_drawSign 44 = .ok (.goto 4, 3) := by decide +kernel
theorem dX8_drawSign_47 : decode cX8_drawSign 47 = .ok (.iconst 0, 1) := by decide +kernel
theorem dX8_drawSign_48 : decode cX8_drawSign 48 = .ok (.istore 5, 2) := by decide +kernel
theorem dX8_drawSign_50 : decode cX8_drawSign 50 = .ok (.aload_n 0, 1) := by decide +kernel
theorem dX8_drawSign_51 : decode cX8_drawSign 51 = .ok (.getfield 28, 3) := by decide +kernel
theorem dX8_drawSign_54 : decode cX8_drawSign 54 = .ok (.getfield 146, 3) := by decide +kernel
theorem dX8_drawSign_57 : decode cX8_drawSign 57 = .ok (.ifCond .eq 72, 3) := by decide +kernel
theorem dX8_drawSign_60 : decode cX8_drawSign 60 = .ok (.aload_n 0, 1) := by decide +kernel
theorem dX8_drawSign_61 : decode cX8_drawSign 61 = .ok (.getfield 21, 3) := by decide +kernel
theorem dX8_drawSign_64 : decode cX8_drawSign 64 = .ok (.getfield 88, 3) := by decide +kernel
theorem dX8_drawSign_67 : decode cX8_drawSign 67 = .ok (.ifCond .ne 8, 3) := by decide +kernel
theorem dX8_drawSign_70 : decode cX8_drawSign 70 = .ok (.iload 5, 2) := by decide +kernel
theorem dX8_drawSign_72 : decode cX8_drawSign 72 = .ok (.ifCond .eq 57, 3) := by decide +kernel
theorem dX8_drawSign_75 : decode cX8_drawSign 75 = .ok (.aload_n 0, 1) := by decide +kernel
theorem dX8_drawSign_76 : decode cX8_drawSign 76 = .ok (.getfield 21, 3) := by decide +kernel
theorem dX8_drawSign_79 : decode cX8_drawSign 79 = .ok (.getfield 88, 3) := by decide +kernel
theorem dX8_drawSign_82 : decode cX8_drawSign 82 = .ok (.ifCond .ne 20, 3) := by decide +kernel
theorem dX8_drawSign_85 : decode cX8_drawSign 85 = .ok (.aload_n 2, 1) := by decide +kernel
theorem dX8_drawSign_86 : decode cX8_drawSign 86 = .ok (.aload_n 0, 1) := by decide +kernel
theorem dX8_drawSign_87 : decode cX8_drawSign 87 = .ok (.getfield 21, 3) := by decide +kernel
theorem dX8_drawSign_90 : decode cX8_drawSign 90 = .ok (.getfield 82, 3) := by decide +kernel
theorem dX8_drawSign_93 : decode cX8_drawSign 93 = .ok (.iload 4, 2) := by decide +kernel
theorem dX8_drawSign_95 : decode cX8_drawSign 95 = .ok (.aload_n 0, 1) := by decide +kernel
theorem dX8_drawSign_96 : decode cX8_drawSign 96 = .ok (.getfield 66, 3) := by decide +kernel
theorem dX8_drawSign_99 : decode cX8_drawSign 99 = .ok (.invokevirtual 149, 3) := by decide +kernel
theorem dX8_drawSign_102 : decode cX8_drawSign 102 = .ok (.aload_n 2, 1) := by decide +kernel
theorem dX8_drawSign_103 : decode cX8_drawSign 103 = .ok (.aload_n 0, 1) := by decide +kernel
theorem dX8_drawSign_104 : decode cX8_drawSign 104 = .ok (.getfield 21, 3) := by decide +kernel
theorem dX8_drawSign_107 : decode cX8_drawSign 107 = .ok (.getfield 82, 3) := by decide +kernel
theorem dX8_drawSign_110 : decode cX8_drawSign 110 = .ok (.iconst 1, 1) := by decide +kernel
theorem dX8_drawSign_111 : decode cX8_drawSign 111 = .ok (.invokevirtual 153, 3) := by decide +kernel
theorem dX8_drawSign_114 : decode cX8_drawSign 114 = .ok (.aload_n 0, 1) := by decide +kernel
theorem dX8_drawSign_115 : decode cX8_drawSign 115 = .ok (.invokevirtual 157, 3) := by decide +kernel
theorem dX8_drawSign_118 : decode cX8_drawSign 118 = .ok (.aload_n 0, 1) := by decide +kernel
theorem dX8_drawSign_119 : decode cX8_drawSign 119 = .ok (.getfield 21, 3) := by decide +kernel
theorem dX8_drawSign_122 : decode cX8_drawSign 122 = .ok (.iconst 0, 1) := by decide +kernel
theorem dX8_drawSign_123 : decode cX8_drawSign 123 = .ok (.putfield 85, 3) := by decide +kernel
theorem dX8_drawSign_126 : decode cX8_drawSign 126 = .ok (.goto 19, 3) := by decide +kernel
theorem dX8_drawSign_129 : decode cX8_drawSign 129 = .ok (.iload 5, 2) := by decide +kernel
theorem dX8_drawSign_131 : decode cX8_drawSign 131 = .ok (.ifCond .eq 14, 3) := by decide +kernel
theorem dX8_drawSign_134 : decode cX8_drawSign 134 = .ok (.aload_n 0, 1) := by decide +kernel
theorem dX8_drawSign_135 : decode cX8_drawSign 135 = .ok (.getfield 21, 3) := by decide +kernel
theorem dX8_drawSign_138 : decode cX8_drawSign 138 = .ok (.iload 4, 2) := by decide +kernel
theorem dX8_drawSign_140 : decode cX8_drawSign 140 = .ok (.iconst 1, 1) := by decide +kernel
theorem dX8_drawSign_141 : decode cX8_drawSign 141 = .ok (.isub, 1) := by decide +kernel
theorem dX8_drawSign_142 : decode cX8_drawSign 142 = .ok (.putfield 85, 3) := by decide +kernel
theorem dX8_drawSign_145 : decode cX8_drawSign 145 = .ok (.aload_n 0, 1) := by decide +kernel
theorem dX8_drawSign_146 : decode cX8_drawSign 146 = .ok (.getfield 28, 3) := by decide +kernel
theorem dX8_drawSign_149 : decode cX8_drawSign 149 = .ok (.getfield 160, 3) := by decide +kernel
theorem dX8_drawSign_152 : decode cX8_drawSign 152 = .ok (.ifCond .eq 22, 3) := by decide +kernel
theorem dX8_drawSign_155 : decode cX8_drawSign 155 = .ok (.aload_n 2, 1) := by decide +kernel
theorem dX8_drawSign_156 : decode cX8_drawSign 156 = .ok (.aload_n 0, 1) := by decide +kernel
theorem dX8_drawSign_157 : decode cX8_drawSign 157 = .ok (.getfield 21, 3) := by decide +kernel
theorem dX8_drawSign_160 : decode cX8_drawSign 160 = .ok (.getfield 82, 3) := by decide +kernel
theorem dX8_drawSign_163 : decode cX8_drawSign 163 = .ok (.aload_n 0, 1) := by decide +kernel
theorem dX8_drawSign_164 : decode cX8_drawSign 164 = .ok (.getfield 21, 3) := by decide +kernel
theorem dX8_drawSign_167 : decode cX8_drawSign 167 = .ok (.getfield 85, 3) := by decide +kernel
theorem dX8_drawSign_170 : decode cX8_drawSign 170 = .ok (.iload_n 3, 1) := by decide +kernel
theorem dX8_drawSign_171 : decode cX8_drawSign 171 = .ok (.invokevirtual 163, 3) := by decide +kernel
theorem dX8_drawSign_174 : decode cX8_drawSign 174 = .ok (.aload_n 2, 1) := by decide +kernel
theorem dX8_drawSign_175 : decode cX8_drawSign 175 = .ok (.aload_n 0, 1) := by decide +kernel
theorem dX8_drawSign_176 : decode cX8_drawSign 176 = .ok (.getfield 21, 3) := by decide +kernel
theorem dX8_drawSign_179 : decode cX8_drawSign 179 = .ok (.getfield 82, 3) := by decide +kernel
theorem dX8_drawSign_182 : decode cX8_drawSign 182 = .ok (.aload_n 0, 1) := by decide +kernel
theorem dX8_drawSign_183 : decode cX8_drawSign 183 = .ok (.getfield 21, 3) := by decide +kernel
theorem dX8_drawSign_186 : decode cX8_drawSign 186 = .ok (.getfield 85, 3) := by decide +kernel
theorem dX8_drawSign_189 : decode cX8_drawSign 189 = .ok (.aload_n 0, 1) := by decide +kernel
theorem dX8_drawSign_190 : decode cX8_drawSign 190 = .ok (.getfield 21, 3) := by decide +kernel
theorem dX8_drawSign_193 : decode cX8_drawSign 193 = .ok (.getfield 85, 3) := by decide +kernel
theorem dX8_drawSign_196 : decode cX8_drawSign 196 = .ok (.iload_n 3, 1) := by decide +kernel
theorem dX8_drawSign_197 : decode cX8_drawSign 197 = .ok (.iadd, 1) := by decide +kernel
theorem dX8_drawSign_198 : decode cX8_drawSign 198 = .ok (.invokevirtual 149, 3) := by decide +kernel
theorem dX8_drawSign_201 : decode cX8_drawSign 201 = .ok (.aload_n 2, 1) := by decide +kernel
theorem dX8_drawSign_202 : decode cX8_drawSign 202 = .ok (.aload_n 0, 1) := by decide +kernel
theorem dX8_drawSign_203 : decode cX8_drawSign 203 = .ok (.getfield 21, 3) := by decide +kernel
theorem dX8_drawSign_206 : decode cX8_drawSign 206 = .ok (.getfield 82, 3) := by decide +kernel
theorem dX8_drawSign_209 : decode cX8_drawSign 209 = .ok (.aload_n 0, 1) := by decide +kernel
theorem dX8_drawSign_210 : decode cX8_drawSign 210 = .ok (.getfield 21, 3) := by decide +kernel
theorem dX8_drawSign_213 : decode cX8_drawSign 213 = .ok (.getfield 85, 3) := by decide +kernel
theorem dX8_drawSign_216 : decode cX8_drawSign 216 = .ok (.iload_n 1, 1) := by decide +kernel
theorem dX8_drawSign_217 : decode cX8_drawSign 217 = .ok (.sipush 1000, 3) := by decide +kernel
theorem dX8_drawSign_220 : decode cX8_drawSign 220 = .ok (.aload_n 0, 1) := by decide +kernel
theorem dX8_drawSign_221 : decode cX8_drawSign 221 = .ok (.getfield 21, 3) := by decide +kernel
theorem dX8_drawSign_224 : decode cX8_drawSign 224 = .ok (.getfield 94, 3) := by decide +kernel
theorem dX8_drawSign_227 : decode cX8_drawSign 227 = .ok (.imul, 1) := by decide +kernel
theorem dX8_drawSign_228 : decode cX8_drawSign 228 = .ok (.iadd, 1) := by decide +kernel
theorem dX8_drawSign_229 : decode cX8_drawSign 229 = .ok (.invokevirtual 166, 3) := by decide +kernel
theorem dX8_drawSign_232 : decode cX8_drawSign 232 = .ok (.iload_n 3, 1) := by decide +kernel
theorem dX8_drawSign_233 : decode cX8_drawSign 233 = .ok (.iconst 2, 1) := by decide +kernel
theorem dX8_drawSign_234 : decode cX8_drawSign 234 = .ok (.if_icmp .ne 25, 3) := by decide +kernel
theorem dX8_drawSign_237 : decode cX8_drawSign 237 = .ok (.aload_n 2, 1) := by decide +kernel
theorem dX8_drawSign_238 : decode cX8_drawSign 238 = .ok (.aload_n 0, 1) := by decide +kernel
theorem dX8_drawSign_239 : decode cX8_drawSign 239 = .ok (.getfield 21, 3) := by decide +kernel
theorem dX8_drawSign_242 : decode cX8_drawSign 242 = .ok (.getfield 82, 3) := by decide +kernel
theorem dX8_drawSign_245 : decode cX8_drawSign 245 = .ok (.aload_n 0, 1) := by decide +kernel
theorem dX8_drawSign_246 : decode cX8_drawSign 246 = .ok (.getfield 21, 3) := by decide +kernel
theorem dX8_drawSign_249 : decode cX8_drawSign 249 = .ok (.getfield 85, 3) := by decide +kernel
theorem dX8_drawSign_252 : decode cX8_drawSign 252 = .ok (.iconst 1, 1) := by decide +kernel
theorem dX8_drawSign_253 : decode cX8_drawSign 253 = .ok (.iadd, 1) := by decide +kernel
theorem dX8_drawSign_254 : decode cX8_drawSign 254 = .ok (.bipush (-2), 2) := by decide +kernel
theorem dX8_drawSign_256 : decode cX8_drawSign 256 = .ok (.invokevirtual 166, 3) := by decide +kernel
theorem dX8_drawSign_259 : decode cX8_drawSign 259 = .ok (.aload_n 0, 1) := by decide +kernel
theorem dX8_drawSign_260 : decode cX8_drawSign 260 = .ok (.getfield 21, 3) := by decide +kernel
theorem dX8_drawSign_263 : decode cX8_drawSign 263 = .ok (.dup, 1) := by decide +kernel
theorem dX8_drawSign_264 : decode cX8_drawSign 264 = .ok (.getfield 85, 3) := by decide +kernel
theorem dX8_drawSign_267 : decode cX8_drawSign 267 = .ok (.iload_n 3, 1) := by decide +kernel
theorem dX8_drawSign_268 : decode cX8_drawSign 268 = .ok (.iadd, 1) := by decide +kernel
theorem dX8_drawSign_269 : decode cX8_drawSign 269 = .ok (.putfield 85, 3) := by decide +kernel
theorem dX8_drawSign_272 : decode cX8_drawSign 272 = .ok (.aload_n 0, 1) := by decide +kernel
theorem dX8_drawSign_273 : decode cX8_drawSign 273 = .ok (.getfield 21, 3) := by decide +kernel
theorem dX8_drawSign_276 : decode cX8_drawSign 276 = .ok (.aload_n 0, 1) := by decide +kernel
theorem dX8_drawSign_277 : decode cX8_drawSign 277 = .ok (.getfield 21, 3) := by decide +kernel
theorem dX8_drawSign_280 : decode cX8_drawSign 280 = .ok (.getfield 85, 3) := by decide +kernel
theorem dX8_drawSign_283 : decode cX8_drawSign 283 = .ok (.iload 4, 2) := by decide +kernel
theorem dX8_drawSign_285 : decode cX8_drawSign 285 = .ok (.if_icmp .le 17, 3) := by decide +kernel
theorem dX8_drawSign_288 : decode cX8_drawSign 288 = .ok (.aload_n 0, 1) := by decide +kernel
theorem dX8_drawSign_289 : decode cX8_drawSign 289 = .ok (.getfield 28, 3) := by decide +kernel
theorem dX8_drawSign_292 : decode cX8_drawSign 292 = .ok (.getfield 146, 3) := by decide +kernel
theorem dX8_drawSign_295 : decode cX8_drawSign 295 = .ok (.ifCond .eq 7, 3) := by decide +kernel
theorem dX8_drawSign_298 : decode cX8_drawSign 298 = .ok (.iconst 1, 1) := by decide +kernel
theorem dX8_drawSign_299 : decode cX8_drawSign 299 = .ok (.goto 4, 3) := by decide +kernel
theorem dX8_drawSign_302 : decode cX8_drawSign 302 = .ok (.iconst 0, 1) := by decide +kernel
theorem dX8_drawSign_303 : decode cX8_drawSign 303 = .ok (.putfield 88, 3) := by decide +kernel
theorem dX8_drawSign_306 : decode cX8_drawSign 306 = .ok (.aload_n 0, 1) := by decide +kernel
theorem dX8_drawSign_307 : decode cX8_drawSign 307 = .ok (.getfield 21, 3) := by decide +kernel
theorem dX8_drawSign_310 : decode cX8_drawSign 310 = .ok (.aload_n 0, 1) := by decide +kernel
theorem dX8_drawSign_311 : decode cX8_drawSign 311 = .ok (.getfield 21, 3) := by decide +kernel
theorem dX8_drawSign_314 : decode cX8_drawSign 314 = .ok (.getfield 85, 3) := by decide +kernel
theorem dX8_drawSign_317 : decode cX8_drawSign 317 = .ok (.iload 4, 2) := by decide +kernel
theorem dX8_drawSign_319 : decode cX8_drawSign 319 = .ok (.invokestatic 169, 3) := by decide +kernel
theorem dX8_drawSign_322 : decode cX8_drawSign 322 = .ok (.putfield 85, 3) := by decide +kernel
theorem dX8_drawSign_325 : decode cX8_drawSign 325 = .ok (.return_, 1) := by decide +kernel
theorem dX8_addMark_0 : decode cX8_addMark 0 = .ok (.aload_n 0, 1) := by decide +kernel
theorem dX8_addMark_1 : decode cX8_addMark 1 = .ok (.invokevirtual 138, 3) := by decide +kernel
theorem dX8_addMark_4 : decode cX8_addMark 4 = .ok (.astore_n 1, 1) := by decide +kernel
theorem dX8_addMark_5 : decode cX8_addMark 5 = .ok (.aload_n 0, 1) := by decide +kernel
theorem dX8_addMark_6 : decode cX8_addMark 6 = .ok (.getfield 21, 3) := by decide +kernel
theorem dX8_addMark_9 : decode cX8_addMark 9 = .ok (.getfield 88, 3) := by decide +kernel
theorem dX8_addMark_12 : decode cX8_addMark 12 = .ok (.ifCond .eq 13, 3) := by decide +kernel
theorem dX8_addMark_15 : decode cX8_addMark 15 = .ok (.aload_n 0, 1) := by decide +kernel
theorem dX8_addMark_16 : decode cX8_addMark 16 = .ok (.getfield 21, 3) := by decide +kernel
theorem dX8_addMark_19 : decode cX8_addMark 19 = .ok (.getfield 85, 3) := by decide +kernel
theorem dX8_addMark_22 : decode cX8_addMark 22 = .ok (.goto 12, 3) := by decide +kernel
theorem dX8_addMark_25 : decode cX8_addMark 25 = .ok (.aload_n 0, 1) := by decide +kernel
theorem dX8_addMark_26 : decode cX8_addMark 26 = .ok (.getfield 21, 3) := by decide +kernel
theorem dX8_addMark_29 : decode cX8_addMark 29 = .ok (.getfield 85, 3) := by decide +kernel
theorem dX8_addMark_32 : decode cX8_addMark 32 = .ok (.iconst 1, 1) := by decide +kernel
theorem dX8_addMark_33 : decode cX8_addMark 33 = .ok (.isub, 1) := by decide +kernel
theorem dX8_addMark_34 : decode cX8_addMark 34 = .ok (.istore_n 2, 1) := by decide +kernel
theorem dX8_addMark_35 : decode cX8_addMark 35 = .ok (.aload_n 1, 1) := by decide +kernel
theorem dX8_addMark_36 : decode cX8_addMark 36 = .ok (.aload_n 0, 1) := by decide +kernel
theorem dX8_addMark_37 : decode cX8_addMark 37 = .ok (.getfield 21, 3) := by decide +kernel
theorem dX8_addMark_40 : decode cX8_addMark 40 = .ok (.getfield 82, 3) := by decide +kernel
theorem dX8_addMark_43 : decode cX8_addMark 43 = .ok (.iload_n 2, 1) := by decide +kernel
theorem dX8_addMark_44 : decode cX8_addMark 44 = .ok (.invokevirtual 172, 3) := by decide +kernel
theorem dX8_addMark_47 : decode cX8_addMark 47 = .ok (.bipush (-2), 2) := by decide +kernel
theorem dX8_addMark_49 : decode cX8_addMark 49 = .ok (.if_icmp .ne 6, 3) := by decide +kernel
theorem dX8_addMark_52 : decode cX8_addMark 52 = .ok (.iinc 2 (-1), 3) := by decide +kernel
theorem dX8_addMark_55 : decode cX8_addMark 55 = .ok (.aload_n 1, 1) := by decide +kernel
theorem dX8_addMark_56 : decode cX8_addMark 56 = .ok (.aload_n 0, 1) := by decide +kernel
theorem dX8_addMark_57 : decode cX8_addMark 57 = .ok (.getfield 21, 3) := by decide +kernel
theorem dX8_addMark_60 : decode cX8_addMark 60 = .ok (.getfield 82, 3) := by decide +kernel
theorem dX8_addMark_63 : decode cX8_addMark 63 = .ok (.iload_n 2, 1) := by decide +kernel
theorem dX8_addMark_64 : decode cX8_addMark 64 = .ok (.invokevirtual 172, 3) := by decide +kernel
theorem dX8_addMark_67 : decode cX8_addMark 67 = .ok (.istore_n 3, 1) := by decide +kernel
theorem dX8_addMark_68 : decode cX8_addMark 68 = .ok (.iload_n 3, 1) := by decide +kernel
theorem dX8_addMark_69 : decode cX8_addMark 69 = .ok (.ifCond .le 27, 3) := by decide +kernel
theorem dX8_addMark_72 : decode cX8_addMark 72 = .ok (.iload_n 3, 1) := by decide +kernel
theorem dX8_addMark_73 : decode cX8_addMark 73 = .ok (.invokestatic 175, 3) := by decide +kernel
theorem dX8_addMark_76 : decode cX8_addMark 76 = .ok (.iconst 3, 1) := by decide +kernel
theorem dX8_addMark_77 : decode cX8_addMark 77 = .ok (.if_icmp .ge 19, 3) := by decide +kernel
theorem dX8_addMark_80 : decode cX8_addMark 80 = .ok (.aload_n 1, 1) := by decide +kernel
theorem dX8_addMark_81 : decode cX8_addMark 81 = .ok (.aload_n 0, 1) := by decide +kernel
theorem dX8_addMark_82 : decode cX8_addMark 82 = .ok (.getfield 21, 3) := by decide +kernel
theorem dX8_addMark_85 : decode cX8_addMark 85 = .ok (.getfield 82, 3) := by decide +kernel
theorem dX8_addMark_88 : decode cX8_addMark 88 = .ok (.iload_n 2, 1) := by decide +kernel
theorem dX8_addMark_89 : decode cX8_addMark 89 = .ok (.iload_n 3, 1) := by decide +kernel
theorem dX8_addMark_90 : decode cX8_addMark 90 = .ok (.ldc 178, 2) := by decide +kernel
theorem dX8_addMark_92 : decode cX8_addMark 92 = .ok (.iadd, 1) := by decide +kernel
theorem dX8_addMark_93 : decode cX8_addMark 93 = .ok (.invokevirtual 166, 3) := by decide +kernel
theorem dX8_addMark_96 : decode cX8_addMark 96 = .ok (.return_, 1) := by decide +kernel
theorem dX8_control_0 : decode cX8_control 0 = .ok (.iload_n 1, 1) := by decide +kernel
theorem dX8_control_1 : decode cX8_control 1 = .ok (.bipush 7, 2) := by decide +kernel
theorem dX8_control_3 : decode cX8_control 3 = .ok (.if_icmp .ne 14, 3) := by decide +kernel
theorem dX8_control_6 : decode cX8_control 6 = .ok (.aload_n 0, 1) := by decide +kernel
theorem dX8_control_7 : decode cX8_control 7 = .ok (.dup, 1) := by decide +kernel
theorem dX8_control_8 : decode cX8_control 8 = .ok (.getfield 179, 3) := by decide +kernel
theorem dX8_control_11 : decode cX8_control 11 = .ok (.iconst 1, 1) := by decide +kernel
theorem dX8_control_12 : decode cX8_control 12 = .ok (.iadd, 1) := by decide +kernel
theorem dX8_control_13 : decode cX8_control 13 = .ok (.putfield 179, 3) := by decide +kernel
theorem dX8_control_16 : decode cX8_control 16 = .ok (.return_, 1) := by decide +kernel
theorem dX8_control_17 : decode cX8_control 17 = .ok (.iload_n 1, 1) := by decide +kernel
theorem dX8_control_18 : decode cX8_control 18 = .ok (.bipush 8, 2) := by decide +kernel
theorem dX8_control_20 : decode cX8_control 20 = .ok (.if_icmp .eq 22, 3) := by decide +kernel
theorem dX8_control_23 : decode cX8_control 23 = .ok (.iload_n 1, 1) := by decide +kernel
theorem dX8_control_24 : decode cX8_control 24 = .ok (.bipush 9, 2) := by decide +kernel
theorem dX8_control_26 : decode cX8_control 26 = .ok (.if_icmp .eq 16, 3) := by decide +kernel
theorem dX8_control_29 : decode cX8_control 29 = .ok (.iload_n 1, 1) := by decide +kernel
theorem dX8_control_30 : decode cX8_control 30 = .ok (.bipush 10, 2) := by decide +kernel
theorem dX8_control_32 : decode cX8_control 32 = .ok (.if_icmp .eq 10, 3) := by decide +kernel
theorem dX8_control_35 : decode cX8_control 35 = .ok (.iload_n 1, 1) := by decide +kernel
theorem dX8_control_36 : decode cX8_control 36 = .ok (.bipush 13, 2) := by decide +kernel
theorem dX8_control_38 : decode cX8_control 38 = .ok (.if_icmp .eq 4, 3) := by decide +kernel
theorem dX8_control_41 : decode cX8_control 41 = .ok (.return_, 1) := by decide +kernel
theorem dX8_control_42 : decode cX8_control 42 = .ok (.aload_n 0, 1) := by decide +kernel
theorem dX8_control_43 : decode cX8_control 43 = .ok (.getfield 21, 3) := by decide +kernel
theorem dX8_control_46 : decode cX8_control 46 = .ok (.iconst 0, 1) := by decide +kernel
theorem dX8_control_47 : decode cX8_control 47 = .ok (.putfield 88, 3) := by decide +kernel
theorem dX8_control_50 : decode cX8_control 50 = .ok (.iload_n 1, 1) := by decide +kernel
theorem dX8_control_51 : decode cX8_control 51 = .ok (.bipush 8, 2) := by decide +kernel
theorem dX8_control_53 : decode cX8_control 53 = .ok (.if_icmp .ne 26, 3) := by decide +kernel
theorem dX8_control_56 : decode cX8_control 56 = .ok (.aload_n 0, 1) := by decide +kernel
theorem dX8_control_57 : decode cX8_control 57 = .ok (.getfield 21, 3) := by decide +kernel
theorem dX8_control_60 : decode cX8_control 60 = .ok (.aload_n 0, 1) := by decide +kernel
theorem dX8_control_61 : decode cX8_control 61 = .ok (.getfield 21, 3) := by decide +kernel
theorem dX8_control_64 : decode cX8_control 64 = .ok (.getfield 85, 3) := by decide +kernel
theorem dX8_control_67 : decode cX8_control 67 = .ok (.iconst 1, 1) := by decide +kernel
theorem dX8_control_68 : decode cX8_control 68 = .ok (.isub, 1) := by decide +kernel
theorem dX8_control_69 : decode cX8_control 69 = .ok (.iconst 0, 1) := by decide +kernel
theorem dX8_control_70 : decode cX8_control 70 = .ok (.invokestatic 110, 3) := by decide +kernel
theorem dX8_control_73 : decode cX8_control 73 = .ok (.putfield 85, 3) := by decide +kernel
theorem dX8_control_76 : decode cX8_control 76 = .ok (.goto 60, 3) := by decide +kernel
theorem dX8_control_79 : decode cX8_control 79 = .ok (.iload_n 1, 1) := by decide +kernel
theorem dX8_control_80 : decode cX8_control 80 = .ok (.bipush 9, 2) := by decide +kernel
theorem dX8_control_82 : decode cX8_control 82 = .ok (.if_icmp .ne 33, 3) := by decide +kernel
theorem dX8_control_85 : decode cX8_control 85 = .ok (.aload_n 0, 1) := by decide +kernel
theorem dX8_control_86 : decode cX8_control 86 = .ok (.invokevirtual 182, 3) := by decide +kernel
theorem dX8_control_89 : decode cX8_control 89 = .ok (.istore_n 2, 1) := by decide +kernel
theorem dX8_control_90 : decode cX8_control 90 = .ok (.aload_n 0, 1) := by decide +kernel
theorem dX8_control_91 : decode cX8_control 91 = .ok (.getfield 21, 3) := by decide +kernel
theorem dX8_control_94 : decode cX8_control 94 = .ok (.iload_n 2, 1) := by decide +kernel
theorem dX8_control_95 : decode cX8_control 95 = .ok (.iconst (-1), 1) := by decide +kernel
theorem dX8_control_96 : decode cX8_control 96 = .ok (.if_icmp .ne 12, 3) := by decide +kernel
theorem dX8_control_99 : decode cX8_control 99 = .ok (.aload_n 0, 1) := by decide +kernel
theorem dX8_control_100 : decode cX8_control 100 = .ok (.getfield 66, 3) := by decide +kernel
theorem dX8_control_103 : decode cX8_control 103 = .ok (.iconst 1, 1) := by decide +kernel
theorem dX8_control_104 : decode cX8_control 104 = .ok (.isub, 1) := by decide +kernel
theorem dX8_control_105 : decode cX8_control 105 = .ok (.goto 4, 3) := by decide +kernel
theorem dX8_control_108 : decode cX8_control 108 = .ok (.iload_n 2, 1) := by decide +kernel
theorem dX8_control_109 : decode cX8_control 109 = .ok (.putfield 85, 3) := by decide +kernel
theorem dX8_control_112 : decode cX8_control 112 = .ok (.goto 24, 3) := by decide +kernel
theorem dX8_control_115 : decode cX8_control 115 = .ok (.iload_n 1, 1) := by decide +kernel
theorem dX8_control_116 : decode cX8_control 116 = .ok (.bipush 10, 2) := by decide +kernel
theorem dX8_control_118 : decode cX8_control 118 = .ok (.if_icmp .ne 10, 3) := by decide +kernel
theorem dX8_control_121 : decode cX8_control 121 = .ok (.aload_n 0, 1) := by decide +kernel
theorem dX8_control_122 : decode cX8_control 122 = .ok (.invokevirtual 157, 3) := by decide +kernel
theorem dX8_control_125 : decode cX8_control 125 = .ok (.goto 11, 3) := by decide +kernel
theorem dX8_control_128 : decode cX8_control 128 = .ok (.aload_n 0, 1) := by decide +kernel
theorem dX8_control_129 : decode cX8_control 129 = .ok (.getfield 21, 3) := by decide +kernel
theorem dX8_control_132 : decode cX8_control 132 = .ok (.iconst 0, 1) := by decide +kernel
theorem dX8_control_133 : decode cX8_control 133 = .ok (.putfield 85, 3) := by decide +kernel
theorem dX8_control_136 : decode cX8_control 136 = .ok (.return_, 1) := by decide +kernel
theorem dX8_feed_0 : decode cX8_feed 0 = .ok (.aload_n 0, 1) := by decide +kernel
theorem dX8_feed_1 : decode cX8_feed 1 = .ok (.getfield 21, 3) := by decide +kernel
theorem dX8_feed_4 : decode cX8_feed 4 = .ok (.getfield 82, 3) := by decide +kernel
theorem dX8_feed_7 : decode cX8_feed 7 = .ok (.aload_n 0, 1) := by decide +kernel
theorem dX8_feed_8 : decode cX8_feed 8 = .ok (.getfield 69, 3) := by decide +kernel
theorem dX8_feed_11 : decode cX8_feed 11 = .ok (.if_icmp .ne 19, 3) := by decide +kernel
theorem dX8_feed_14 : decode cX8_feed 14 = .ok (.aload_n 0, 1) := by decide +kernel
theorem dX8_feed_15 : decode cX8_feed 15 = .ok (.aload_n 0, 1) := by decide +kernel
theorem dX8_feed_16 : decode cX8_feed 16 = .ok (.getfield 97, 3) := by decide +kernel
theorem dX8_feed_19 : decode cX8_feed 19 = .ok (.aload_n 0, 1) := by decide +kernel
theorem dX8_feed_20 : decode cX8_feed 20 = .ok (.getfield 69, 3) := by decide +kernel
theorem dX8_feed_23 : decode cX8_feed 23 = .ok (.iconst 1, 1) := by decide +kernel
theorem dX8_feed_24 : decode cX8_feed 24 = .ok (.invokevirtual 185, 3) := by decide +kernel
theorem dX8_feed_27 : decode cX8_feed 27 = .ok (.goto 32, 3) := by decide +kernel
theorem dX8_feed_30 : decode cX8_feed 30 = .ok (.aload_n 0, 1) := by decide +kernel
theorem dX8_feed_31 : decode cX8_feed 31 = .ok (.getfield 21, 3) := by decide +kernel
theorem dX8_feed_34 : decode cX8_feed 34 = .ok (.getfield 82, 3) := by decide +kernel
theorem dX8_feed_37 : decode cX8_feed 37 = .ok (.aload_n 0, 1) := by decide +kernel
theorem dX8_feed_38 : decode cX8_feed 38 = .ok (.getfield 62, 3) := by decide +kernel
theorem dX8_feed_41 : decode cX8_feed 41 = .ok (.iconst 1, 1) := by decide +kernel
theorem dX8_feed_42 : decode cX8_feed 42 = .ok (.isub, 1) := by decide +kernel
theorem dX8_feed_43 : decode cX8_feed 43 = .ok (.if_icmp .ge 16, 3) := by decide +kernel
theorem dX8_feed_46 : decode cX8_feed 46 = .ok (.aload_n 0, 1) := by decide +kernel
theorem dX8_feed_47 : decode cX8_feed 47 = .ok (.getfield 21, 3) := by decide +kernel
theorem dX8_feed_50 : decode cX8_feed 50 = .ok (.dup, 1) := by decide +kernel
theorem dX8_feed_51 : decode cX8_feed 51 = .ok (.getfield 82, 3) := by decide +kernel
theorem dX8_feed_54 : decode cX8_feed 54 = .ok (.iconst 1, 1) := by decide +kernel
theorem dX8_feed_55 : decode cX8_feed 55 = .ok (.iadd, 1) := by decide +kernel
theorem dX8_feed_56 : decode cX8_feed 56 = .ok (.putfield 82, 3) := by decide +kernel
theorem dX8_feed_59 : decode cX8_feed 59 = .ok (.return_, 1) := by decide +kernel
theorem dX8_scrollUp_0 : decode cX8_scrollUp 0 = .ok (.aload_n 0, 1) := by decide +kernel
theorem dX8_scrollUp_1 : decode cX8_scrollUp 1 = .ok (.invokevirtual 138, 3) := by decide +kernel
theorem dX8_scrollUp_4 : decode cX8_scrollUp 4 = .ok (.astore 4, 2) := by decide +kernel
theorem dX8_scrollUp_6 : decode cX8_scrollUp 6 = .ok (.iload_n 3, 1) := by decide +kernel
theorem dX8_scrollUp_7 : decode cX8_scrollUp 7 = .ok (.ifCond .eq 18, 3) := by decide +kernel
theorem dX8_scrollUp_10 : decode cX8_scrollUp 10 = .ok (.iload_n 1, 1) := by decide +kernel
theorem dX8_scrollUp_11 : decode cX8_scrollUp 11 = .ok (.ifCond .ne 14, 3) := by decide +kernel
theorem dX8_scrollUp_14 : decode cX8_scrollUp 14 = .ok (.aload_n 0, 1) := by decide +kernel
theorem dX8_scrollUp_15 : decode cX8_scrollUp 15 = .ok (.getfield 75, 3) := by decide +kernel
theorem dX8_scrollUp_18 : decode cX8_scrollUp 18 = .ok (.ifCond .ne 7, 3) := by decide +kernel
theorem dX8_scrollUp_21 : decode cX8_scrollUp 21 = .ok (.iconst 1, 1) := by decide +kernel
theorem dX8_scrollUp_22 : decode cX8_scrollUp 22 = .ok (.goto 4, 3) := by decide +kernel
theorem dX8_scrollUp_25 : decode cX8_scrollUp 25 = .ok (.iconst 0, 1) := by decide +kernel
theorem dX8_scrollUp_26 : decode cX8_scrollUp 26 = .ok (.istore 5, 2) := by decide +kernel
theorem dX8_scrollUp_28 : decode cX8_scrollUp 28 = .ok (.iload 5, 2) := by decide +kernel
theorem dX8_scrollUp_30 : decode cX8_scrollUp 30 = .ok (.ifCond .eq 57, 3) := by decide +kernel
theorem dX8_scrollUp_33 : decode cX8_scrollUp 33 = .ok (.aload_n 0, 1) := by decide +kernel
theorem dX8_scrollUp_34 : decode cX8_scrollUp 34 = .ok (.getfield 12, 3) := by decide +kernel
theorem dX8_scrollUp_37 : decode cX8_scrollUp 37 = .ok (.getfield 100, 3) := by decide +kernel
theorem dX8_scrollUp_40 : decode cX8_scrollUp 40 = .ok (.aload 4, 2) := by decide +kernel
theorem dX8_scrollUp_42 : decode cX8_scrollUp 42 = .ok (.iconst 0, 1) := by decide +kernel
theorem dX8_scrollUp_43 : decode cX8_scrollUp 43 = .ok (.invokevirtual 189, 3) := by decide +kernel
theorem dX8_scrollUp_46 : decode cX8_scrollUp 46 = .ok (.invokevirtual 192, 3) := by decide +kernel
theorem dX8_scrollUp_49 : decode cX8_scrollUp 49 = .ok (.iconst 0, 1) := by decide +kernel
theorem dX8_scrollUp_50 : decode cX8_scrollUp 50 = .ok (.istore 6, 2) := by decide +kernel
theorem dX8_scrollUp_52 : decode cX8_scrollUp 52 = .ok (.iload 6, 2) := by decide +kernel
theorem dX8_scrollUp_54 : decode cX8_scrollUp 54 = .ok (.aload_n 0, 1) := by decide +kernel
theorem dX8_scrollUp_55 : decode cX8_scrollUp 55 = .ok (.getfield 66, 3) := by decide +kernel
theorem dX8_scrollUp_58 : decode cX8_scrollUp 58 = .ok (.if_icmp .ge 29, 3) := by decide +kernel
theorem dX8_scrollUp_61 : decode cX8_scrollUp 61 = .ok (.aload_n 0, 1) := by decide +kernel
theorem dX8_scrollUp_62 : decode cX8_scrollUp 62 = .ok (.getfield 12, 3) := by decide +kernel
theorem dX8_scrollUp_65 : decode cX8_scrollUp 65 = .ok (.getfield 100, 3) := by decide +kernel
theorem dX8_scrollUp_68 : decode cX8_scrollUp 68 = .ok (.iload 6, 2) := by decide +kernel
theorem dX8_scrollUp_70 : decode cX8_scrollUp 70 = .ok (.aload 4, 2) := by decide +kernel
theorem dX8_scrollUp_72 : decode cX8_scrollUp 72 = .ok (.iconst 0, 1) := by decide +kernel
theorem dX8_scrollUp_73 : decode cX8_scrollUp 73 = .ok (.iload 6, 2) := by decide +kernel
theorem dX8_scrollUp_75 : decode cX8_scrollUp 75 = .ok (.invokevirtual 172, 3) := by decide +kernel
theorem dX8_scrollUp_78 : decode cX8_scrollUp 78 = .ok (.invokevirtual 196, 3) := by decide +kernel
theorem dX8_scrollUp_81 : decode cX8_scrollUp 81 = .ok (.iinc 6 1, 3) := by decide +kernel
theorem dX8_scrollUp_84 : decode cX8_scrollUp 84 = .ok (.goto (-32), 3) := by decide +kernel
theorem dX8_scrollUp_87 : decode cX8_scrollUp 87 = .ok (.aload 4, 2) := by decide +kernel
theorem dX8_scrollUp_89 : decode cX8_scrollUp 89 = .ok (.iload_n 1, 1) := by decide +kernel
theorem dX8_scrollUp_90 : decode cX8_scrollUp 90 = .ok (.iload_n 2, 1) := by decide +kernel
theorem dX8_scrollUp_91 : decode cX8_scrollUp 91 = .ok (.invokevirtual 200, 3) := by decide +kernel
theorem dX8_scrollUp_94 : decode cX8_scrollUp 94 = .ok (.iload 5, 2) := by decide +kernel
theorem dX8_scrollUp_96 : decode cX8_scrollUp 96 = .ok (.ifCond .ne 8, 3) := by decide +kernel
theorem dX8_scrollUp_99 : decode cX8_scrollUp 99 = .ok (.aload_n 0, 1) := by decide +kernel
theorem dX8_scrollUp_100 : decode cX8_scrollUp 100 = .ok (.iload_n 1, 1) := by decide +kernel
theorem dX8_scrollUp_101 : decode cX8_scrollUp 101 = .ok (.invokevirtual 203, 3) := by decide +kernel
theorem dX8_scrollUp_104 : decode cX8_scrollUp 104 = .ok (.return_, 1) := by decide +kernel
theorem dX8_scrollDown_0 : decode cX8_scrollDown 0 = .ok (.aload_n 0, 1) := by decide +kernel
theorem dX8_scrollDown_1 : decode cX8_scrollDown 1 = .ok (.invokevirtual 138, 3) := by decide +kernel
theorem dX8_scrollDown_4 : decode cX8_scrollDown 4 = .ok (.iload_n 1, 1) := by decide +kernel
theorem dX8_scrollDown_5 : decode cX8_scrollDown 5 = .ok (.iload_n 2, 1) := by decide +kernel
theorem dX8_scrollDown_6 : decode cX8_scrollDown 6 = .ok (.invokevirtual 206, 3) := by decide +kernel
theorem dX8_scrollDown_9 : decode cX8_scrollDown 9 = .ok (.aload_n 0, 1) := by decide +kernel
theorem dX8_scrollDown_10 : decode cX8_scrollDown 10 = .ok (.iload_n 1, 1) := by decide +kernel
theorem dX8_scrollDown_11 : decode cX8_scrollDown 11 = .ok (.invokevirtual 203, 3) := by decide +kernel
theorem dX8_scrollDown_14 : decode cX8_scrollDown 14 = .ok (.return_, 1) := by decide +kernel
theorem dX8_endAbove_0 : decode cX8_endAbove 0 = .ok (.iload_n 1, 1) := by decide +kernel
theorem dX8_endAbove_1 : decode cX8_endAbove 1 = .ok (.ifCond .le 17, 3) := by decide +kernel
theorem dX8_endAbove_4 : decode cX8_endAbove 4 = .ok (.aload_n 0, 1) := by decide +kernel
theorem dX8_endAbove_5 : decode cX8_endAbove 5 = .ok (.invokevirtual 138, 3) := by decide +kernel
theorem dX8_endAbove_8 : decode cX8_endAbove 8 = .ok (.iload_n 1, 1) := by decide +kernel
theorem dX8_endAbove_9 : decode cX8_endAbove 9 = .ok (.iconst 1, 1) := by decide +kernel
theorem dX8_endAbove_10 : decode cX8_endAbove 10 = .ok (.isub, 1) := by decide +kernel
theorem dX8_endAbove_11 : decode cX8_endAbove 11 = .ok (.iconst 0, 1) := by decide +kernel
theorem dX8_endAbove_12 : decode cX8_endAbove 12 = .ok (.invokevirtual 153, 3) := by decide +kernel
theorem dX8_endAbove_15 : decode cX8_endAbove 15 = .ok (.goto 20, 3) := by decide +kernel
theorem dX8_endAbove_18 : decode cX8_endAbove 18 = .ok (.aload_n 0, 1) := by decide +kernel
theorem dX8_endAbove_19 : decode cX8_endAbove 19 = .ok (.getfield 75, 3) := by decide +kernel
theorem dX8_endAbove_22 : decode cX8_endAbove 22 = .ok (.ifCond .ne 13, 3) := by decide +kernel
theorem dX8_endAbove_25 : decode cX8_endAbove 25 = .ok (.aload_n 0, 1) := by decide +kernel
theorem dX8_endAbove_26 : decode cX8_endAbove 26 = .ok (.getfield 12, 3) := by decide +kernel
theorem dX8_endAbove_29 : decode cX8_endAbove 29 = .ok (.getfield 100, 3) := by decide +kernel
theorem dX8_endAbove_32 : decode cX8_endAbove 32 = .ok (.invokevirtual 209, 3) := by decide +kernel
theorem dX8_endAbove_35 : decode cX8_endAbove 35 = .ok (.return_, 1) := by decide +kernel
theorem dX8_escaped_0 : decode cX8_escaped 0 = .ok (.iload_n 1, 1) := by decide +kernel
theorem dX8_escaped_1 : decode cX8_escaped 1 = .ok (.lookupswitch 163 #[(55, 67), (56, 81), (68, 88), (69, 103), (72, 141), (77, 126), (99, 156)], 67) := by decide +kernel
theorem dX8_escaped_68 : decode cX8_escaped 68 = .ok (.aload_n 0, 1) := by decide +kernel
theorem dX8_escaped_69 : decode cX8_escaped 69 = .ok (.getfield 55, 3) := by decide +kernel
theorem dX8_escaped_72 : decode cX8_escaped 72 = .ok (.aload_n 0, 1) := by decide +kernel
theorem dX8_escaped_73 : decode cX8_escaped 73 = .ok (.getfield 21, 3) := by decide +kernel
theorem dX8_escaped_76 : decode cX8_escaped 76 = .ok (.invokevirtual 212, 3) := by decide +kernel
theorem dX8_escaped_79 : decode cX8_escaped 79 = .ok (.goto 85, 3) := by decide +kernel
theorem dX8_escaped_82 : decode cX8_escaped 82 = .ok (.aload_n 0, 1) := by decide +kernel
theorem dX8_escaped_83 : decode cX8_escaped 83 = .ok (.invokevirtual 216, 3) := by decide +kernel
theorem dX8_escaped_86 : decode cX8_escaped 86 = .ok (.goto 78, 3) := by decide +kernel
theorem dX8_escaped_89 : decode cX8_escaped 89 = .ok (.aload_n 0, 1) := by decide +kernel
theorem dX8_escaped_90 : decode cX8_escaped 90 = .ok (.getfield 21, 3) := by decide +kernel
theorem dX8_escaped_93 : decode cX8_escaped 93 = .ok (.iconst 0, 1) := by decide +kernel
theorem dX8_escaped_94 : decode cX8_escaped 94 = .ok (.putfield 88, 3) := by decide +kernel
theorem dX8_escaped_97 : decode cX8_escaped 97 = .ok (.aload_n 0, 1) := by decide +kernel
theorem dX8_escaped_98 : decode cX8_escaped 98 = .ok (.invokevirtual 157, 3) := by decide +kernel
theorem dX8_escaped_101 : decode cX8_escaped 101 = .ok (.goto 63, 3) := by decide +kernel
theorem dX8_escaped_104 : decode cX8_escaped 104 = .ok (.aload_n 0, 1) := by decide +kernel
theorem dX8_escaped_105 : decode cX8_escaped 105 = .ok (.getfield 21, 3) := by decide +kernel
theorem dX8_escaped_108 : decode cX8_escaped 108 = .ok (.iconst 0, 1) := by decide +kernel
theorem dX8_escaped_109 : decode cX8_escaped 109 = .ok (.putfield 88, 3) := by decide +kernel
theorem dX8_escaped_112 : decode cX8_escaped 112 = .ok (.aload_n 0, 1) := by decide +kernel
theorem dX8_escaped_113 : decode cX8_escaped 113 = .ok (.invokevirtual 157, 3) := by decide +kernel
theorem dX8_escaped_116 : decode cX8_escaped 116 = .ok (.aload_n 0, 1) := by decide +kernel
theorem dX8_escaped_117 : decode cX8_escaped 117 = .ok (.getfield 21, 3) := by decide +kernel
theorem dX8_escaped_120 : decode cX8_escaped 120 = .ok (.iconst 0, 1) := by decide +kernel
theorem dX8_escaped_121 : decode cX8_escaped 121 = .ok (.putfield 85, 3) := by decide +kernel
theorem dX8_escaped_124 : decode cX8_escaped 124 = .ok (.goto 40, 3) := by decide +kernel
theorem dX8_escaped_127 : decode cX8_escaped 127 = .ok (.aload_n 0, 1) := by decide +kernel
theorem dX8_escaped_128 : decode cX8_escaped 128 = .ok (.getfield 21, 3) := by decide +kernel
theorem dX8_escaped_131 : decode cX8_escaped 131 = .ok (.iconst 0, 1) := by decide +kernel
theorem dX8_escaped_132 : decode cX8_escaped 132 = .ok (.putfield 88, 3) := by decide +kernel
theorem dX8_escaped_135 : decode cX8_escaped 135 = .ok (.aload_n 0, 1) := by decide +kernel
theorem dX8_escaped_136 : decode cX8_escaped 136 = .ok (.invokevirtual 219, 3) := by decide +kernel
theorem dX8_escaped_139 : decode cX8_escaped 139 = .ok (.goto 25, 3) := by decide +kernel
theorem dX8_escaped_142 : decode cX8_escaped 142 = .ok (.aload_n 0, 1) := by decide +kernel
theorem dX8_escaped_143 : decode cX8_escaped 143 = .ok (.aload_n 0, 1) := by decide +kernel
theorem dX8_escaped_144 : decode cX8_escaped 144 = .ok (.getfield 21, 3) := by decide +kernel
theorem dX8_escaped_147 : decode cX8_escaped 147 = .ok (.getfield 85, 3) := by decide +kernel
theorem dX8_escaped_150 : decode cX8_escaped 150 = .ok (.iconst 1, 1) := by decide +kernel
theorem dX8_escaped_151 : decode cX8_escaped 151 = .ok (.invokevirtual 222, 3) := by decide +kernel
theorem dX8_escaped_154 : decode cX8_escaped 154 = .ok (.goto 10, 3) := by decide +kernel
theorem dX8_escaped_157 : decode cX8_escaped 157 = .ok (.aload_n 0, 1) := by decide +kernel
theorem dX8_escaped_158 : decode cX8_escaped 158 = .ok (.invokevirtual 225, 3) := by decide +kernel
theorem dX8_escaped_161 : decode cX8_escaped 161 = .ok (.goto 3, 3) := by decide +kernel
theorem dX8_escaped_164 : decode cX8_escaped 164 = .ok (.return_, 1) := by decide +kernel
theorem dX8_bringBack_0 : decode cX8_bringBack 0 = .ok (.aload_n 0, 1) := by decide +kernel
theorem dX8_bringBack_1 : decode cX8_bringBack 1 = .ok (.getfield 21, 3) := by decide +kernel
theorem dX8_bringBack_4 : decode cX8_bringBack 4 = .ok (.aload_n 0, 1) := by decide +kernel
theorem dX8_bringBack_5 : decode cX8_bringBack 5 = .ok (.getfield 55, 3) := by decide +kernel
theorem dX8_bringBack_8 : decode cX8_bringBack 8 = .ok (.invokevirtual 212, 3) := by decide +kernel
theorem dX8_bringBack_11 : decode cX8_bringBack 11 = .ok (.aload_n 0, 1) := by decide +kernel
theorem dX8_bringBack_12 : decode cX8_bringBack 12 = .ok (.getfield 21, 3) := by decide +kernel
theorem dX8_bringBack_15 : decode cX8_bringBack 15 = .ok (.aload_n 0, 1) := by decide +kernel
theorem dX8_bringBack_16 : decode cX8_bringBack 16 = .ok (.getfield 21, 3) := by decide +kernel
theorem dX8_bringBack_19 : decode cX8_bringBack 19 = .ok (.getfield 82, 3) := by decide +kernel
theorem dX8_bringBack_22 : decode cX8_bringBack 22 = .ok (.aload_n 0, 1) := by decide +kernel
theorem dX8_bringBack_23 : decode cX8_bringBack 23 = .ok (.getfield 62, 3) := by decide +kernel
theorem dX8_bringBack_26 : decode cX8_bringBack 26 = .ok (.iconst 1, 1) := by decide +kernel
theorem dX8_bringBack_27 : decode cX8_bringBack 27 = .ok (.isub, 1) := by decide +kernel
theorem dX8_bringBack_28 : decode cX8_bringBack 28 = .ok (.invokestatic 169, 3) := by decide +kernel
theorem dX8_bringBack_31 : decode cX8_bringBack 31 = .ok (.putfield 82, 3) := by decide +kernel
theorem dX8_bringBack_34 : decode cX8_bringBack 34 = .ok (.aload_n 0, 1) := by decide +kernel
theorem dX8_bringBack_35 : decode cX8_bringBack 35 = .ok (.getfield 21, 3) := by decide +kernel
theorem dX8_bringBack_38 : decode cX8_bringBack 38 = .ok (.aload_n 0, 1) := by decide +kernel
theorem dX8_bringBack_39 : decode cX8_bringBack 39 = .ok (.getfield 21, 3) := by decide +kernel
theorem dX8_bringBack_42 : decode cX8_bringBack 42 = .ok (.getfield 85, 3) := by decide +kernel
theorem dX8_bringBack_45 : decode cX8_bringBack 45 = .ok (.aload_n 0, 1) := by decide +kernel
theorem dX8_bringBack_46 : decode cX8_bringBack 46 = .ok (.getfield 66, 3) := by decide +kernel
theorem dX8_bringBack_49 : decode cX8_bringBack 49 = .ok (.iconst 1, 1) := by decide +kernel
theorem dX8_bringBack_50 : decode cX8_bringBack 50 = .ok (.isub, 1) := by decide +kernel
theorem dX8_bringBack_51 : decode cX8_bringBack 51 = .ok (.invokestatic 169, 3) := by decide +kernel
theorem dX8_bringBack_54 : decode cX8_bringBack 54 = .ok (.putfield 85, 3) := by decide +kernel
theorem dX8_bringBack_57 : decode cX8_bringBack 57 = .ok (.aload_n 0, 1) := by decide +kernel
theorem dX8_bringBack_58 : decode cX8_bringBack 58 = .ok (.getfield 21, 3) := by decide +kernel
theorem dX8_bringBack_61 : decode cX8_bringBack 61 = .ok (.aload_n 0, 1) := by decide +kernel
theorem dX8_bringBack_62 : decode cX8_bringBack 62 = .ok (.getfield 21, 3) := by decide +kernel
theorem dX8_bringBack_65 : decode cX8_bringBack 65 = .ok (.getfield 88, 3) := by decide +kernel
theorem dX8_bringBack_68 : decode cX8_bringBack 68 = .ok (.ifCond .eq 33, 3) := by decide +kernel
theorem dX8_bringBack_71 : decode cX8_bringBack 71 = .ok (.aload_n 0, 1) := by decide +kernel
theorem dX8_bringBack_72 : decode cX8_bringBack 72 = .ok (.getfield 21, 3) := by decide +kernel
theorem dX8_bringBack_75 : decode cX8_bringBack 75 = .ok (.getfield 85, 3) := by decide +kernel
theorem dX8_bringBack_78 : decode cX8_bringBack 78 = .ok (.aload_n 0, 1) := by decide +kernel
theorem dX8_bringBack_79 : decode cX8_bringBack 79 = .ok (.getfield 66, 3) := by decide +kernel
theorem dX8_bringBack_82 : decode cX8_bringBack 82 = .ok (.iconst 1, 1) := by decide +kernel
theorem dX8_bringBack_83 : decode cX8_bringBack 83 = .ok (.isub, 1) := by decide +kernel
theorem dX8_bringBack_84 : decode cX8_bringBack 84 = .ok (.if_icmp .ne 17, 3) := by decide +kernel
theorem dX8_bringBack_87 : decode cX8_bringBack 87 = .ok (.aload_n 0, 1) := by decide +kernel
theorem dX8_bringBack_88 : decode cX8_bringBack 88 = .ok (.getfield 28, 3) := by decide +kernel
theorem dX8_bringBack_91 : decode cX8_bringBack 91 = .ok (.getfield 146, 3) := by decide +kernel
theorem dX8_bringBack_94 : decode cX8_bringBack 94 = .ok (.ifCond .eq 7, 3) := by decide +kernel
theorem dX8_bringBack_97 : decode cX8_bringBack 97 = .ok (.iconst 1, 1) := by decide +kernel
theorem dX8_bringBack_98 : decode cX8_bringBack 98 = .ok (.goto 4, 3) := by decide +kernel
theorem dX8_bringBack_101 : decode cX8_bringBack 101 = .ok (.iconst 0, 1) := by decide +kernel
theorem dX8_bringBack_102 : decode cX8_bringBack 102 = .ok (.putfield 88, 3) := by decide +kernel
theorem dX8_bringBack_105 : decode cX8_bringBack 105 = .ok (.return_, 1) := by decide +kernel
theorem dX8_feedBack_0 : decode cX8_feedBack 0 = .ok (.aload_n 0, 1) := by decide +kernel
theorem dX8_feedBack_1 : decode cX8_feedBack 1 = .ok (.getfield 21, 3) := by decide +kernel
theorem dX8_feedBack_4 : decode cX8_feedBack 4 = .ok (.getfield 82, 3) := by decide +kernel
theorem dX8_feedBack_7 : decode cX8_feedBack 7 = .ok (.aload_n 0, 1) := by decide +kernel
theorem dX8_feedBack_8 : decode cX8_feedBack 8 = .ok (.getfield 97, 3) := by decide +kernel
theorem dX8_feedBack_11 : decode cX8_feedBack 11 = .ok (.if_icmp .ne 18, 3) := by decide +kernel
theorem dX8_feedBack_14 : decode cX8_feedBack 14 = .ok (.aload_n 0, 1) := by decide +kernel
theorem dX8_feedBack_15 : decode cX8_feedBack 15 = .ok (.aload_n 0, 1) := by decide +kernel
theorem dX8_feedBack_16 : decode cX8_feedBack 16 = .ok (.getfield 97, 3) := by decide +kernel
theorem dX8_feedBack_19 : decode cX8_feedBack 19 = .ok (.aload_n 0, 1) := by decide +kernel
theorem dX8_feedBack_20 : decode cX8_feedBack 20 = .ok (.getfield 69, 3) := by decide +kernel
theorem dX8_feedBack_23 : decode cX8_feedBack 23 = .ok (.invokevirtual 228, 3) := by decide +kernel
theorem dX8_feedBack_26 : decode cX8_feedBack 26 = .ok (.goto 26, 3) := by decide +kernel
theorem dX8_feedBack_29 : decode cX8_feedBack 29 = .ok (.aload_n 0, 1) := by decide +kernel
theorem dX8_feedBack_30 : decode cX8_feedBack 30 = .ok (.getfield 21, 3) := by decide +kernel
theorem dX8_feedBack_33 : decode cX8_feedBack 33 = .ok (.getfield 82, 3) := by decide +kernel
theorem dX8_feedBack_36 : decode cX8_feedBack 36 = .ok (.ifCond .le 16, 3) := by decide +kernel
theorem dX8_feedBack_39 : decode cX8_feedBack 39 = .ok (.aload_n 0, 1) := by decide +kernel
theorem dX8_feedBack_40 : decode cX8_feedBack 40 = .ok (.getfield 21, 3) := by decide +kernel
theorem dX8_feedBack_43 : decode cX8_feedBack 43 = .ok (.dup, 1) := by decide +kernel
theorem dX8_feedBack_44 : decode cX8_feedBack 44 = .ok (.getfield 82, 3) := by decide +kernel
theorem dX8_feedBack_47 : decode cX8_feedBack 47 = .ok (.iconst 1, 1) := by decide +kernel
theorem dX8_feedBack_48 : decode cX8_feedBack 48 = .ok (.isub, 1) := by decide +kernel
theorem dX8_feedBack_49 : decode cX8_feedBack 49 = .ok (.putfield 82, 3) := by decide +kernel
theorem dX8_feedBack_52 : decode cX8_feedBack 52 = .ok (.return_, 1) := by decide +kernel
theorem dX8_setTab_0 : decode cX8_setTab 0 = .ok (.iload_n 1, 1) := by decide +kernel
theorem dX8_setTab_1 : decode cX8_setTab 1 = .ok (.ifCond .lt 16, 3) := by decide +kernel
theorem dX8_setTab_4 : decode cX8_setTab 4 = .ok (.iload_n 1, 1) := by decide +kernel
theorem dX8_setTab_5 : decode cX8_setTab 5 = .ok (.bipush 24, 2) := by decide +kernel
theorem dX8_setTab_7 : decode cX8_setTab 7 = .ok (.if_icmp .ge 10, 3) := by decide +kernel
theorem dX8_setTab_10 : decode cX8_setTab 10 = .ok (.aload_n 0, 1) := by decide +kernel
theorem dX8_setTab_11 : decode cX8_setTab 11 = .ok (.getfield 58, 3) := by decide +kernel
theorem dX8_setTab_14 : decode cX8_setTab 14 = .ok (.iload_n 1, 1) := by decide +kernel
theorem dX8_setTab_15 : decode cX8_setTab 15 = .ok (.iload_n 2, 1) := by decide +kernel
theorem dX8_setTab_16 : decode cX8_setTab 16 = .ok (.bastore, 1) := by decide +kernel
theorem dX8_setTab_17 : decode cX8_setTab 17 = .ok (.return_, 1) := by decide +kernel
theorem dX8_reset_0 : decode cX8_reset 0 = .ok (.aload_n 0, 1) := by decide +kernel
theorem dX8_reset_1 : decode cX8_reset 1 = .ok (.iconst 0, 1) := by decide +kernel
theorem dX8_reset_2 : decode cX8_reset 2 = .ok (.putfield 75, 3) := by decide +kernel
theorem dX8_reset_5 : decode cX8_reset 5 = .ok (.aload_n 0, 1) := by decide +kernel
theorem dX8_reset_6 : decode cX8_reset 6 = .ok (.getfield 12, 3) := by decide +kernel
theorem dX8_reset_9 : decode cX8_reset 9 = .ok (.getfield 79, 3) := by decide +kernel
theorem dX8_reset_12 : decode cX8_reset 12 = .ok (.invokevirtual 231, 3) := by decide +kernel
theorem dX8_reset_15 : decode cX8_reset 15 = .ok (.aload_n 0, 1) := by decide +kernel
theorem dX8_reset_16 : decode cX8_reset 16 = .ok (.getfield 51, 3) := by decide +kernel
theorem dX8_reset_19 : decode cX8_reset 19 = .ok (.invokevirtual 231, 3) := by decide +kernel
theorem dX8_reset_22 : decode cX8_reset 22 = .ok (.aload_n 0, 1) := by decide +kernel
theorem dX8_reset_23 : decode cX8_reset 23 = .ok (.getfield 21, 3) := by decide +kernel
theorem dX8_reset_26 : decode cX8_reset 26 = .ok (.invokevirtual 234, 3) := by decide +kernel
theorem dX8_reset_29 : decode cX8_reset 29 = .ok (.aload_n 0, 1) := by decide +kernel
theorem dX8_reset_30 : decode cX8_reset 30 = .ok (.getfield 55, 3) := by decide +kernel
theorem dX8_reset_33 : decode cX8_reset 33 = .ok (.invokevirtual 234, 3) := by decide +kernel
theorem dX8_reset_36 : decode cX8_reset 36 = .ok (.aload_n 0, 1) := by decide +kernel
theorem dX8_reset_37 : decode cX8_reset 37 = .ok (.getfield 28, 3) := by decide +kernel
theorem dX8_reset_40 : decode cX8_reset 40 = .ok (.invokevirtual 235, 3) := by decide +kernel
theorem dX8_reset_43 : decode cX8_reset 43 = .ok (.aload_n 0, 1) := by decide +kernel
theorem dX8_reset_44 : decode cX8_reset 44 = .ok (.iconst 0, 1) := by decide +kernel
theorem dX8_reset_45 : decode cX8_reset 45 = .ok (.putfield 97, 3) := by decide +kernel
theorem dX8_reset_48 : decode cX8_reset 48 = .ok (.aload_n 0, 1) := by decide +kernel
theorem dX8_reset_49 : decode cX8_reset 49 = .ok (.aload_n 0, 1) := by decide +kernel
theorem dX8_reset_50 : decode cX8_reset 50 = .ok (.getfield 62, 3) := by decide +kernel
theorem dX8_reset_53 : decode cX8_reset 53 = .ok (.iconst 1, 1) := by decide +kernel
theorem dX8_reset_54 : decode cX8_reset 54 = .ok (.isub, 1) := by decide +kernel
theorem dX8_reset_55 : decode cX8_reset 55 = .ok (.putfield 69, 3) := by decide +kernel
theorem dX8_reset_58 : decode cX8_reset 58 = .ok (.aload_n 0, 1) := by decide +kernel
theorem dX8_reset_59 : decode cX8_reset 59 = .ok (.iconst 0, 1) := by decide +kernel
theorem dX8_reset_60 : decode cX8_reset 60 = .ok (.invokevirtual 72, 3) := by decide +kernel
theorem dX8_reset_63 : decode cX8_reset 63 = .ok (.aload_n 0, 1) := by decide +kernel
theorem dX8_reset_64 : decode cX8_reset 64 = .ok (.getfield 12, 3) := by decide +kernel
theorem dX8_reset_67 : decode cX8_reset 67 = .ok (.getfield 100, 3) := by decide +kernel
theorem dX8_reset_70 : decode cX8_reset 70 = .ok (.invokevirtual 209, 3) := by decide +kernel
theorem dX8_reset_73 : decode cX8_reset 73 = .ok (.return_, 1) := by decide +kernel
theorem dX8_coded_0 : decode cX8_coded 0 = .ok (.iload_n 1, 1) := by decide +kernel
theorem dX8_coded_1 : decode cX8_coded 1 = .ok (.invokestatic 236, 3) := by decide +kernel
theorem dX8_coded_4 : decode cX8_coded 4 = .ok (.ifCond .eq 11, 3) := by decide +kernel
theorem dX8_coded_7 : decode cX8_coded 7 = .ok (.aload_n 0, 1) := by decide +kernel
theorem dX8_coded_8 : decode cX8_coded 8 = .ok (.getfield 21, 3) := by decide +kernel
theorem dX8_coded_11 : decode cX8_coded 11 = .ok (.iconst 0, 1) := by decide +kernel
theorem dX8_coded_12 : decode cX8_coded 12 = .ok (.putfield 88, 3) := by decide +kernel
theorem dX8_coded_15 : decode cX8_coded 15 = .ok (.aload_n 0, 1) := by decide +kernel
theorem dX8_coded_16 : decode cX8_coded 16 = .ok (.getfield 35, 3) := by decide +kernel
theorem dX8_coded_19 : decode cX8_coded 19 = .ok (.iconst 0, 1) := by decide +kernel
theorem dX8_coded_20 : decode cX8_coded 20 = .ok (.invokevirtual 239, 3) := by decide +kernel
theorem dX8_coded_23 : decode cX8_coded 23 = .ok (.iconst 1, 1) := by decide +kernel
theorem dX8_coded_24 : decode cX8_coded 24 = .ok (.invokestatic 110, 3) := by decide +kernel
theorem dX8_coded_27 : decode cX8_coded 27 = .ok (.istore_n 2, 1) := by decide +kernel
theorem dX8_coded_28 : decode cX8_coded 28 = .ok (.iload_n 1, 1) := by decide +kernel
theorem dX8_coded_29 : decode cX8_coded 29 = .ok (.tableswitch 566 64 114 #[421, 219, 242, 270, 298, 566, 566, 566, 321, 566, 341, 368, 383, 383, 566, 566, 446, 566, 566, 402, 402, 566, 566, 566, 471, 566, 566, 566, 566, 566, 566, 566, 566, 566, 566, 566, 566, 566, 566, 518, 548, 566, 566, 566, 548, 511, 533, 566, 566, 566, 504], 219) := by decide +kernel
theorem dX8_coded_248 : decode cX8_coded 248 = .ok (.aload_n 0, 1) := by decide +kernel
theorem dX8_coded_249 : decode cX8_coded 249 = .ok (.getfield 21, 3) := by decide +kernel
theorem dX8_coded_252 : decode cX8_coded 252 = .ok (.aload_n 0, 1) := by decide +kernel
theorem dX8_coded_253 : decode cX8_coded 253 = .ok (.getfield 21, 3) := by decide +kernel
theorem dX8_coded_256 : decode cX8_coded 256 = .ok (.getfield 82, 3) := by decide +kernel
theorem dX8_coded_259 : decode cX8_coded 259 = .ok (.iload_n 2, 1) := by decide +kernel
theorem dX8_coded_260 : decode cX8_coded 260 = .ok (.isub, 1) := by decide +kernel
theorem dX8_coded_261 : decode cX8_coded 261 = .ok (.iconst 0, 1) := by decide +kernel
theorem dX8_coded_262 : decode cX8_coded 262 = .ok (.invokestatic 110, 3) := by decide +kernel
theorem dX8_coded_265 : decode cX8_coded 265 = .ok (.putfield 82, 3) := by decide +kernel
theorem dX8_coded_268 : decode cX8_coded 268 = .ok (.goto 327, 3) := by decide +kernel
theorem dX8_coded_271 : decode cX8_coded 271 = .ok (.aload_n 0, 1) := by decide +kernel
theorem dX8_coded_272 : decode cX8_coded 272 = .ok (.getfield 21, 3) := by decide +kernel
theorem dX8_coded_275 : decode cX8_coded 275 = .ok (.aload_n 0, 1) := by decide +kernel
theorem dX8_coded_276 : decode cX8_coded 276 = .ok (.getfield 21, 3) := by decide +kernel
theorem dX8_coded_279 : decode cX8_coded 279 = .ok (.getfield 82, 3) := by decide +kernel
theorem dX8_coded_282 : decode cX8_coded 282 = .ok (.iload_n 2, 1) := by decide +kernel
theorem dX8_coded_283 : decode cX8_coded 283 = .ok (.iadd, 1) := by decide +kernel
theorem dX8_coded_284 : decode cX8_coded 284 = .ok (.aload_n 0, 1) := by decide +kernel
theorem dX8_coded_285 : decode cX8_coded 285 = .ok (.getfield 62, 3) := by decide +kernel
theorem dX8_coded_288 : decode cX8_coded 288 = .ok (.iconst 1, 1) := by decide +kernel
theorem dX8_coded_289 : decode cX8_coded 289 = .ok (.isub, 1) := by decide +kernel
theorem dX8_coded_290 : decode cX8_coded 290 = .ok (.invokestatic 169, 3) := by decide +kernel
theorem dX8_coded_293 : decode cX8_coded 293 = .ok (.putfield 82, 3) := by decide +kernel
theorem dX8_coded_296 : decode cX8_coded 296 = .ok (.goto 299, 3) := by decide +kernel
theorem dX8_coded_299 : decode cX8_coded 299 = .ok (.aload_n 0, 1) := by decide +kernel
theorem dX8_coded_300 : decode cX8_coded 300 = .ok (.getfield 21, 3) := by decide +kernel
theorem dX8_coded_303 : decode cX8_coded 303 = .ok (.aload_n 0, 1) := by decide +kernel
theorem dX8_coded_304 : decode cX8_coded 304 = .ok (.getfield 21, 3) := by decide +kernel
theorem dX8_coded_307 : decode cX8_coded 307 = .ok (.getfield 85, 3) := by decide +kernel
theorem dX8_coded_310 : decode cX8_coded 310 = .ok (.iload_n 2, 1) := by decide +kernel
theorem dX8_coded_311 : decode cX8_coded 311 = .ok (.iadd, 1) := by decide +kernel
theorem dX8_coded_312 : decode cX8_coded 312 = .ok (.aload_n 0, 1) := by decide +kernel
theorem dX8_coded_313 : decode cX8_coded 313 = .ok (.getfield 66, 3) := by decide +kernel
theorem dX8_coded_316 : decode cX8_coded 316 = .ok (.iconst 1, 1) := by decide +kernel
theorem dX8_coded_317 : decode cX8_coded 317 = .ok (.isub, 1) := by decide +kernel
theorem dX8_coded_318 : decode cX8_coded 318 = .ok (.invokestatic 169, 3) := by decide +kernel
theorem dX8_coded_321 : decode cX8_coded 321 = .ok (.putfield 85, 3) := by decide +kernel
theorem dX8_coded_324 : decode cX8_coded 324 = .ok (.goto 271, 3) := by decide +kernel
theorem dX8_coded_327 : decode cX8_coded 327 = .ok (.aload_n 0, 1) := by decide +kernel
theorem dX8_coded_328 : decode cX8_coded 328 = .ok (.getfield 21, 3) := by decide +kernel
theorem dX8_coded_331 : decode cX8_coded 331 = .ok (.aload_n 0, 1) := by decide +kernel
theorem dX8_coded_332 : decode cX8_coded 332 = .ok (.getfield 21, 3) := by decide +kernel
theorem dX8_coded_335 : decode cX8_coded 335 = .ok (.getfield 85, 3) := by decide +kernel
theorem dX8_coded_338 : decode cX8_coded 338 = .ok (.iload_n 2, 1) := by decide +kernel
theorem dX8_coded_339 : decode cX8_coded 339 = .ok (.isub, 1) := by decide +kernel
theorem dX8_coded_340 : decode cX8_coded 340 = .ok (.iconst 0, 1) := by decide +kernel
theorem dX8_coded_341 : decode cX8_coded 341 = .ok (.invokestatic 110, 3) := by decide +kernel
theorem dX8_coded_344 : decode cX8_coded 344 = .ok (.putfield 85, 3) := by decide +kernel
theorem dX8_coded_347 : decode cX8_coded 347 = .ok (.goto 248, 3) := by decide +kernel
theorem dX8_coded_350 : decode cX8_coded 350 = .ok (.aload_n 0, 1) := by decide +kernel
theorem dX8_coded_351 : decode cX8_coded 351 = .ok (.iload_n 2, 1) := by decide +kernel
theorem dX8_coded_352 : decode cX8_coded 352 = .ok (.aload_n 0, 1) := by decide +kernel
theorem dX8_coded_353 : decode cX8_coded 353 = .ok (.getfield 35, 3) := by decide +kernel
theorem dX8_coded_356 : decode cX8_coded 356 = .ok (.iconst 1, 1) := by decide +kernel
theorem dX8_coded_357 : decode cX8_coded 357 = .ok (.invokevirtual 239, 3) := by decide +kernel
theorem dX8_coded_360 : decode cX8_coded 360 = .ok (.iconst 1, 1) := by decide +kernel
theorem dX8_coded_361 : decode cX8_coded 361 = .ok (.invokestatic 110, 3) := by decide +kernel
theorem dX8_coded_364 : decode cX8_coded 364 = .ok (.invokevirtual 242, 3) := by decide +kernel
theorem dX8_coded_367 : decode cX8_coded 367 = .ok (.goto 228, 3) := by decide +kernel
theorem dX8_coded_370 : decode cX8_coded 370 = .ok (.aload_n 0, 1) := by decide +kernel
theorem dX8_coded_371 : decode cX8_coded 371 = .ok (.aload_n 0, 1) := by decide +kernel
theorem dX8_coded_372 : decode cX8_coded 372 = .ok (.getfield 35, 3) := by decide +kernel
theorem dX8_coded_375 : decode cX8_coded 375 = .ok (.iconst 0, 1) := by decide +kernel
theorem dX8_coded_376 : decode cX8_coded 376 = .ok (.invokevirtual 239, 3) := by decide +kernel
theorem dX8_coded_379 : decode cX8_coded 379 = .ok (.invokevirtual 245, 3) := by decide +kernel
theorem dX8_coded_382 : decode cX8_coded 382 = .ok (.aload_n 0, 1) := by decide +kernel
theorem dX8_coded_383 : decode cX8_coded 383 = .ok (.aload_n 0, 1) := by decide +kernel
theorem dX8_coded_384 : decode cX8_coded 384 = .ok (.getfield 35, 3) := by decide +kernel
theorem dX8_coded_387 : decode cX8_coded 387 = .ok (.iconst 0, 1) := by decide +kernel
theorem dX8_coded_388 : decode cX8_coded 388 = .ok (.invokevirtual 239, 3) := by decide +kernel
theorem dX8_coded_391 : decode cX8_coded 391 = .ok (.invokevirtual 248, 3) := by decide +kernel
theorem dX8_coded_394 : decode cX8_coded 394 = .ok (.goto 201, 3) := by decide +kernel
theorem dX8_coded_397 : decode cX8_coded 397 = .ok (.aload_n 0, 1) := by decide +kernel
theorem dX8_coded_398 : decode cX8_coded 398 = .ok (.aload_n 0, 1) := by decide +kernel
theorem dX8_coded_399 : decode cX8_coded 399 = .ok (.getfield 35, 3) := by decide +kernel
theorem dX8_coded_402 : decode cX8_coded 402 = .ok (.iconst 0, 1) := by decide +kernel
theorem dX8_coded_403 : decode cX8_coded 403 = .ok (.invokevirtual 239, 3) := by decide +kernel
theorem dX8_coded_406 : decode cX8_coded 406 = .ok (.invokevirtual 248, 3) := by decide +kernel
theorem dX8_coded_409 : decode cX8_coded 409 = .ok (.goto 186, 3) := by decide +kernel
theorem dX8_coded_412 : decode cX8_coded 412 = .ok (.aload_n 0, 1) := by decide +kernel
theorem dX8_coded_413 : decode cX8_coded 413 = .ok (.iload_n 2, 1) := by decide +kernel
theorem dX8_coded_414 : decode cX8_coded 414 = .ok (.iload_n 1, 1) := by decide +kernel
theorem dX8_coded_415 : decode cX8_coded 415 = .ok (.bipush 77, 2) := by decide +kernel
theorem dX8_coded_417 : decode cX8_coded 417 = .ok (.if_icmp .ne 7, 3) := by decide +kernel
theorem dX8_coded_420 : decode cX8_coded 420 = .ok (.iconst 1, 1) := by decide +kernel
theorem dX8_coded_421 : decode cX8_coded 421 = .ok (.goto 4, 3) := by decide +kernel
theorem dX8_coded_424 : decode cX8_coded 424 = .ok (.iconst 0, 1) := by decide +kernel
theorem dX8_coded_425 : decode cX8_coded 425 = .ok (.invokevirtual 251, 3) := by decide +kernel
theorem dX8_coded_428 : decode cX8_coded 428 = .ok (.goto 167, 3) := by decide +kernel
theorem dX8_coded_431 : decode cX8_coded 431 = .ok (.aload_n 0, 1) := by decide +kernel
theorem dX8_coded_432 : decode cX8_coded 432 = .ok (.iload_n 2, 1) := by decide +kernel
theorem dX8_coded_433 : decode cX8_coded 433 = .ok (.iload_n 1, 1) := by decide +kernel
theorem dX8_coded_434 : decode cX8_coded 434 = .ok (.bipush 83, 2) := by decide +kernel
theorem dX8_coded_436 : decode cX8_coded 436 = .ok (.if_icmp .ne 7, 3) := by decide +kernel
theorem dX8_coded_439 : decode cX8_coded 439 = .ok (.iconst 1, 1) := by decide +kernel
theorem dX8_coded_440 : decode cX8_coded 440 = .ok (.goto 4, 3) := by decide +kernel
theorem dX8_coded_443 : decode cX8_coded 443 = .ok (.iconst 0, 1) := by decide +kernel
theorem dX8_coded_444 : decode cX8_coded 444 = .ok (.invokevirtual 254, 3) := by decide +kernel
theorem dX8_coded_447 : decode cX8_coded 447 = .ok (.goto 148, 3) := by decide +kernel
theorem dX8_coded_450 : decode cX8_coded 450 = .ok (.aload_n 0, 1) := by decide +kernel
theorem dX8_coded_451 : decode cX8_coded 451 = .ok (.invokevirtual 138, 3) := by decide +kernel
theorem dX8_coded_454 : decode cX8_coded 454 = .ok (.aload_n 0, 1) := by decide +kernel
theorem dX8_coded_455 : decode cX8_coded 455 = .ok (.getfield 21, 3) := by decide +kernel
theorem dX8_coded_458 : decode cX8_coded 458 = .ok (.getfield 82, 3) := by decide +kernel
theorem dX8_coded_461 : decode cX8_coded 461 = .ok (.aload_n 0, 1) := by decide +kernel
theorem dX8_coded_462 : decode cX8_coded 462 = .ok (.getfield 21, 3) := by decide +kernel
theorem dX8_coded_465 : decode cX8_coded 465 = .ok (.getfield 85, 3) := by decide +kernel
theorem dX8_coded_468 : decode cX8_coded 468 = .ok (.iload_n 2, 1) := by decide +kernel
theorem dX8_coded_469 : decode cX8_coded 469 = .ok (.invokevirtual 163, 3) := by decide +kernel
theorem dX8_coded_472 : decode cX8_coded 472 = .ok (.goto 123, 3) := by decide +kernel
theorem dX8_coded_475 : decode cX8_coded 475 = .ok (.aload_n 0, 1) := by decide +kernel
theorem dX8_coded_476 : decode cX8_coded 476 = .ok (.invokevirtual 138, 3) := by decide +kernel
theorem dX8_coded_479 : decode cX8_coded 479 = .ok (.aload_n 0, 1) := by decide +kernel
theorem dX8_coded_480 : decode cX8_coded 480 = .ok (.getfield 21, 3) := by decide +kernel
theorem dX8_coded_483 : decode cX8_coded 483 = .ok (.getfield 82, 3) := by decide +kernel
theorem dX8_coded_486 : decode cX8_coded 486 = .ok (.aload_n 0, 1) := by decide +kernel
theorem dX8_coded_487 : decode cX8_coded 487 = .ok (.getfield 21, 3) := by decide +kernel
theorem dX8_coded_490 : decode cX8_coded 490 = .ok (.getfield 85, 3) := by decide +kernel
theorem dX8_coded_493 : decode cX8_coded 493 = .ok (.iload_n 2, 1) := by decide +kernel
theorem dX8_coded_494 : decode cX8_coded 494 = .ok (.invokevirtual 257, 3) := by decide +kernel
theorem dX8_coded_497 : decode cX8_coded 497 = .ok (.goto 98, 3) := by decide +kernel
theorem dX8_coded_500 : decode cX8_coded 500 = .ok (.aload_n 0, 1) := by decide +kernel
theorem dX8_coded_501 : decode cX8_coded 501 = .ok (.invokevirtual 138, 3) := by decide +kernel
theorem dX8_coded_504 : decode cX8_coded 504 = .ok (.aload_n 0, 1) := by decide +kernel
theorem dX8_coded_505 : decode cX8_coded 505 = .ok (.getfield 21, 3) := by decide +kernel
theorem dX8_coded_508 : decode cX8_coded 508 = .ok (.getfield 82, 3) := by decide +kernel
theorem dX8_coded_511 : decode cX8_coded 511 = .ok (.aload_n 0, 1) := by decide +kernel
theorem dX8_coded_512 : decode cX8_coded 512 = .ok (.getfield 21, 3) := by decide +kernel
theorem dX8_coded_515 : decode cX8_coded 515 = .ok (.getfield 85, 3) := by decide +kernel
theorem dX8_coded_518 : decode cX8_coded 518 = .ok (.aload_n 0, 1) := by decide +kernel
theorem dX8_coded_519 : decode cX8_coded 519 = .ok (.getfield 21, 3) := by decide +kernel
theorem dX8_coded_522 : decode cX8_coded 522 = .ok (.getfield 85, 3) := by decide +kernel
theorem dX8_coded_525 : decode cX8_coded 525 = .ok (.iload_n 2, 1) := by decide +kernel
theorem dX8_coded_526 : decode cX8_coded 526 = .ok (.iadd, 1) := by decide +kernel
theorem dX8_coded_527 : decode cX8_coded 527 = .ok (.invokevirtual 149, 3) := by decide +kernel
theorem dX8_coded_530 : decode cX8_coded 530 = .ok (.goto 65, 3) := by decide +kernel
theorem dX8_coded_533 : decode cX8_coded 533 = .ok (.aload_n 0, 1) := by decide +kernel
theorem dX8_coded_534 : decode cX8_coded 534 = .ok (.invokevirtual 260, 3) := by decide +kernel
theorem dX8_coded_537 : decode cX8_coded 537 = .ok (.goto 58, 3) := by decide +kernel
theorem dX8_coded_540 : decode cX8_coded 540 = .ok (.aload_n 0, 1) := by decide +kernel
theorem dX8_coded_541 : decode cX8_coded 541 = .ok (.invokevirtual 263, 3) := by decide +kernel
theorem dX8_coded_544 : decode cX8_coded 544 = .ok (.goto 51, 3) := by decide +kernel
theorem dX8_coded_547 : decode cX8_coded 547 = .ok (.aload_n 0, 1) := by decide +kernel
theorem dX8_coded_548 : decode cX8_coded 548 = .ok (.aload_n 0, 1) := by decide +kernel
theorem dX8_coded_549 : decode cX8_coded 549 = .ok (.getfield 35, 3) := by decide +kernel
theorem dX8_coded_552 : decode cX8_coded 552 = .ok (.iconst 0, 1) := by decide +kernel
theorem dX8_coded_553 : decode cX8_coded 553 = .ok (.invokevirtual 239, 3) := by decide +kernel
theorem dX8_coded_556 : decode cX8_coded 556 = .ok (.invokevirtual 266, 3) := by decide +kernel
theorem dX8_coded_559 : decode cX8_coded 559 = .ok (.goto 36, 3) := by decide +kernel
theorem dX8_coded_562 : decode cX8_coded 562 = .ok (.aload_n 0, 1) := by decide +kernel
theorem dX8_coded_563 : decode cX8_coded 563 = .ok (.aload_n 0, 1) := by decide +kernel
theorem dX8_coded_564 : decode cX8_coded 564 = .ok (.getfield 35, 3) := by decide +kernel
theorem dX8_coded_567 : decode cX8_coded 567 = .ok (.iconst 0, 1) := by decide +kernel
theorem dX8_coded_568 : decode cX8_coded 568 = .ok (.invokevirtual 239, 3) := by decide +kernel
theorem dX8_coded_571 : decode cX8_coded 571 = .ok (.invokevirtual 269, 3) := by decide +kernel
theorem dX8_coded_574 : decode cX8_coded 574 = .ok (.goto 21, 3) := by decide +kernel
theorem dX8_coded_577 : decode cX8_coded 577 = .ok (.aload_n 0, 1) := by decide +kernel
theorem dX8_coded_578 : decode cX8_coded 578 = .ok (.iload_n 1, 1) := by decide +kernel
theorem dX8_coded_579 : decode cX8_coded 579 = .ok (.bipush 104, 2) := by decide +kernel
theorem dX8_coded_581 : decode cX8_coded 581 = .ok (.if_icmp .ne 7, 3) := by decide +kernel
theorem dX8_coded_584 : decode cX8_coded 584 = .ok (.iconst 1, 1) := by decide +kernel
theorem dX8_coded_585 : decode cX8_coded 585 = .ok (.goto 4, 3) := by decide +kernel
theorem dX8_coded_588 : decode cX8_coded 588 = .ok (.iconst 0, 1) := by decide +kernel
theorem dX8_coded_589 : decode cX8_coded 589 = .ok (.invokevirtual 272, 3) := by decide +kernel
theorem dX8_coded_592 : decode cX8_coded 592 = .ok (.goto 3, 3) := by decide +kernel
theorem dX8_coded_595 : decode cX8_coded 595 = .ok (.return_, 1) := by decide +kernel
theorem dX8_endsLate_0 : decode cX8_endsLate 0 = .ok (.iload_n 0, 1) := by decide +kernel
theorem dX8_endsLate_1 : decode cX8_endsLate 1 = .ok (.tableswitch 221 64 114 #[219, 219, 219, 219, 219, 221, 221, 221, 219, 221, 219, 219, 219, 219, 221, 221, 219, 221, 221, 221, 221, 221, 221, 221, 219, 221, 221, 221, 221, 221, 221, 221, 221, 221, 221, 221, 221, 221, 221, 221, 221, 221, 221, 221, 221, 221, 221, 221, 221, 221, 219], 219) := by decide +kernel
theorem dX8_endsLate_220 : decode cX8_endsLate 220 = .ok (.iconst 1, 1) := by decide +kernel
theorem dX8_endsLate_221 : decode cX8_endsLate 221 = .ok (.ireturn, 1) := by decide +kernel
theorem dX8_endsLate_222 : decode cX8_endsLate 222 = .ok (.iconst 0, 1) := by decide +kernel
theorem dX8_endsLate_223 : decode cX8_endsLate 223 = .ok (.ireturn, 1) := by decide +kernel
theorem dX8_goTo_0 : decode cX8_goTo 0 = .ok (.aload_n 0, 1) := by decide +kernel
theorem dX8_goTo_1 : decode cX8_goTo 1 = .ok (.getfield 21, 3) := by decide +kernel
theorem dX8_goTo_4 : decode cX8_goTo 4 = .ok (.getfield 275, 3) := by decide +kernel
theorem dX8_goTo_7 : decode cX8_goTo 7 = .ok (.ifCond .eq 10, 3) := by decide +kernel
theorem dX8_goTo_10 : decode cX8_goTo 10 = .ok (.aload_n 0, 1) := by decide +kernel
theorem dX8_goTo_11 : decode cX8_goTo 11 = .ok (.getfield 97, 3) := by decide +kernel
theorem dX8_goTo_14 : decode cX8_goTo 14 = .ok (.goto 4, 3) := by decide +kernel
theorem dX8_goTo_17 : decode cX8_goTo 17 = .ok (.iconst 0, 1) := by decide +kernel
theorem dX8_goTo_18 : decode cX8_goTo 18 = .ok (.istore_n 3, 1) := by decide +kernel
theorem dX8_goTo_19 : decode cX8_goTo 19 = .ok (.aload_n 0, 1) := by decide +kernel
theorem dX8_goTo_20 : decode cX8_goTo 20 = .ok (.getfield 21, 3) := by decide +kernel
theorem dX8_goTo_23 : decode cX8_goTo 23 = .ok (.getfield 275, 3) := by decide +kernel
theorem dX8_goTo_26 : decode cX8_goTo 26 = .ok (.ifCond .eq 10, 3) := by decide +kernel
theorem dX8_goTo_29 : decode cX8_goTo 29 = .ok (.aload_n 0, 1) := by decide +kernel
theorem dX8_goTo_30 : decode cX8_goTo 30 = .ok (.getfield 69, 3) := by decide +kernel
theorem dX8_goTo_33 : decode cX8_goTo 33 = .ok (.goto 9, 3) := by decide +kernel
theorem dX8_goTo_36 : decode cX8_goTo 36 = .ok (.aload_n 0, 1) := by decide +kernel
theorem dX8_goTo_37 : decode cX8_goTo 37 = .ok (.getfield 62, 3) := by decide +kernel
theorem dX8_goTo_40 : decode cX8_goTo 40 = .ok (.iconst 1, 1) := by decide +kernel
theorem dX8_goTo_41 : decode cX8_goTo 41 = .ok (.isub, 1) := by decide +kernel
theorem dX8_goTo_42 : decode cX8_goTo 42 = .ok (.istore 4, 2) := by decide +kernel
theorem dX8_goTo_44 : decode cX8_goTo 44 = .ok (.aload_n 0, 1) := by decide +kernel
theorem dX8_goTo_45 : decode cX8_goTo 45 = .ok (.getfield 21, 3) := by decide +kernel
theorem dX8_goTo_48 : decode cX8_goTo 48 = .ok (.iload_n 3, 1) := by decide +kernel
theorem dX8_goTo_49 : decode cX8_goTo 49 = .ok (.iload_n 1, 1) := by decide +kernel
theorem dX8_goTo_50 : decode cX8_goTo 50 = .ok (.iadd, 1) := by decide +kernel
theorem dX8_goTo_51 : decode cX8_goTo 51 = .ok (.iconst 1, 1) := by decide +kernel
theorem dX8_goTo_52 : decode cX8_goTo 52 = .ok (.isub, 1) := by decide +kernel
theorem dX8_goTo_53 : decode cX8_goTo 53 = .ok (.iload 4, 2) := by decide +kernel
theorem dX8_goTo_55 : decode cX8_goTo 55 = .ok (.invokestatic 169, 3) := by decide +kernel
theorem dX8_goTo_58 : decode cX8_goTo 58 = .ok (.iload_n 2, 1) := by decide +kernel
theorem dX8_goTo_59 : decode cX8_goTo 59 = .ok (.aload_n 0, 1) := by decide +kernel
theorem dX8_goTo_60 : decode cX8_goTo 60 = .ok (.getfield 66, 3) := by decide +kernel
theorem dX8_goTo_63 : decode cX8_goTo 63 = .ok (.invokestatic 169, 3) := by decide +kernel
theorem dX8_goTo_66 : decode cX8_goTo 66 = .ok (.iconst 1, 1) := by decide +kernel
theorem dX8_goTo_67 : decode cX8_goTo 67 = .ok (.isub, 1) := by decide +kernel
theorem dX8_goTo_68 : decode cX8_goTo 68 = .ok (.invokevirtual 278, 3) := by decide +kernel
theorem dX8_goTo_71 : decode cX8_goTo 71 = .ok (.return_, 1) := by decide +kernel
theorem dX8_eraseOtherRows_0 : decode cX8_eraseOtherRows 0 = .ok (.iload_n 1, 1) := by decide +kernel
theorem dX8_eraseOtherRows_1 : decode cX8_eraseOtherRows 1 = .ok (.iconst 3, 1) := by decide +kernel
theorem dX8_eraseOtherRows_2 : decode cX8_eraseOtherRows 2 = .ok (.if_icmp .ne 13, 3) := by decide +kernel
theorem dX8_eraseOtherRows_5 : decode cX8_eraseOtherRows 5 = .ok (.aload_n 0, 1) := by decide +kernel
theorem dX8_eraseOtherRows_6 : decode cX8_eraseOtherRows 6 = .ok (.getfield 12, 3) := by decide +kernel
theorem dX8_eraseOtherRows_9 : decode cX8_eraseOtherRows 9 = .ok (.getfield 100, 3) := by decide +kernel
theorem dX8_eraseOtherRows_12 : decode cX8_eraseOtherRows 12 = .ok (.invokevirtual 279, 3) := by decide +kernel
theorem dX8_eraseOtherRows_15 : decode cX8_eraseOtherRows 15 = .ok (.aload_n 0, 1) := by decide +kernel
theorem dX8_eraseOtherRows_16 : decode cX8_eraseOtherRows 16 = .ok (.invokevirtual 138, 3) := by decide +kernel
theorem dX8_eraseOtherRows_19 : decode cX8_eraseOtherRows 19 = .ok (.astore_n 2, 1) := by decide +kernel
theorem dX8_eraseOtherRows_20 : decode cX8_eraseOtherRows 20 = .ok (.iconst 0, 1) := by decide +kernel
theorem dX8_eraseOtherRows_21 : decode cX8_eraseOtherRows 21 = .ok (.istore_n 3, 1) := by decide +kernel
theorem dX8_eraseOtherRows_22 : decode cX8_eraseOtherRows 22 = .ok (.iload_n 3, 1) := by decide +kernel
theorem dX8_eraseOtherRows_23 : decode cX8_eraseOtherRows 23 = .ok (.aload_n 0, 1) := by decide +kernel
theorem dX8_eraseOtherRows_24 : decode cX8_eraseOtherRows 24 = .ok (.getfield 62, 3) := by decide +kernel
theorem dX8_eraseOtherRows_27 : decode cX8_eraseOtherRows 27 = .ok (.if_icmp .ge 50, 3) := by decide +kernel
theorem dX8_eraseOtherRows_30 : decode cX8_eraseOtherRows 30 = .ok (.iload_n 1, 1) := by decide +kernel
theorem dX8_eraseOtherRows_31 : decode cX8_eraseOtherRows 31 = .ok (.iconst 2, 1) := by decide +kernel
theorem dX8_eraseOtherRows_32 : decode cX8_eraseOtherRows 32 = .ok (.if_icmp .eq 34, 3) := by decide +kernel
theorem dX8_eraseOtherRows_35 : decode cX8_eraseOtherRows 35 = .ok (.iload_n 1, 1) := by decide +kernel
theorem dX8_eraseOtherRows_36 : decode cX8_eraseOtherRows 36 = .ok (.ifCond .ne 14, 3) := by decide +kernel
theorem dX8_eraseOtherRows_39 : decode cX8_eraseOtherRows 39 = .ok (.iload_n 3, 1) := by decide +kernel
theorem dX8_eraseOtherRows_40 : decode cX8_eraseOtherRows 40 = .ok (.aload_n 0, 1) := by decide +kernel
theorem dX8_eraseOtherRows_41 : decode cX8_eraseOtherRows 41 = .ok (.getfield 21, 3) := by decide +kernel
theorem dX8_eraseOtherRows_44 : decode cX8_eraseOtherRows 44 = .ok (.getfield 82, 3) := by decide +kernel
theorem dX8_eraseOtherRows_47 : decode cX8_eraseOtherRows 47 = .ok (.if_icmp .gt 19, 3) := by decide +kernel
theorem dX8_eraseOtherRows_50 : decode cX8_eraseOtherRows 50 = .ok (.iload_n 1, 1) := by decide +kernel
theorem dX8_eraseOtherRows_51 : decode cX8_eraseOtherRows 51 = .ok (.iconst 1, 1) := by decide +kernel
theorem dX8_eraseOtherRows_52 : decode cX8_eraseOtherRows 52 = .ok (.if_icmp .ne 19, 3) := by decide +kernel
theorem dX8_eraseOtherRows_55 : decode cX8_eraseOtherRows 55 = .ok (.iload_n 3, 1) := by decide +kernel
theorem dX8_eraseOtherRows_56 : decode cX8_eraseOtherRows 56 = .ok (.aload_n 0, 1) := by decide +kernel
theorem dX8_eraseOtherRows_57 : decode cX8_eraseOtherRows 57 = .ok (.getfield 21, 3) := by decide +kernel
theorem dX8_eraseOtherRows_60 : decode cX8_eraseOtherRows 60 = .ok (.getfield 82, 3) := by decide +kernel
theorem dX8_eraseOtherRows_63 : decode cX8_eraseOtherRows 63 = .ok (.if_icmp .ge 8, 3) := by decide +kernel
theorem dX8_eraseOtherRows_66 : decode cX8_eraseOtherRows 66 = .ok (.aload_n 2, 1) := by decide +kernel
theorem dX8_eraseOtherRows_67 : decode cX8_eraseOtherRows 67 = .ok (.iload_n 3, 1) := by decide +kernel
theorem dX8_eraseOtherRows_68 : decode cX8_eraseOtherRows 68 = .ok (.invokevirtual 280, 3) := by decide +kernel
theorem dX8_eraseOtherRows_71 : decode cX8_eraseOtherRows 71 = .ok (.iinc 3 1, 3) := by decide +kernel
theorem dX8_eraseOtherRows_74 : decode cX8_eraseOtherRows 74 = .ok (.goto (-52), 3) := by decide +kernel
theorem dX8_eraseOtherRows_77 : decode cX8_eraseOtherRows 77 = .ok (.return_, 1) := by decide +kernel
theorem dX8_eraseRow_0 : decode cX8_eraseRow 0 = .ok (.iload_n 1, 1) := by decide +kernel
theorem dX8_eraseRow_1 : decode cX8_eraseRow 1 = .ok (.ifCond .lt 8, 3) := by decide +kernel
theorem dX8_eraseRow_4 : decode cX8_eraseRow 4 = .ok (.iload_n 1, 1) := by decide +kernel
theorem dX8_eraseRow_5 : decode cX8_eraseRow 5 = .ok (.iconst 2, 1) := by decide +kernel
theorem dX8_eraseRow_6 : decode cX8_eraseRow 6 = .ok (.if_icmp .le 4, 3) := by decide +kernel
theorem dX8_eraseRow_9 : decode cX8_eraseRow 9 = .ok (.return_, 1) := by decide +kernel
theorem dX8_eraseRow_10 : decode cX8_eraseRow 10 = .ok (.iload_n 1, 1) := by decide +kernel
theorem dX8_eraseRow_11 : decode cX8_eraseRow 11 = .ok (.ifCond .ne 13, 3) := by decide +kernel
theorem dX8_eraseRow_14 : decode cX8_eraseRow 14 = .ok (.aload_n 0, 1) := by decide +kernel
theorem dX8_eraseRow_15 : decode cX8_eraseRow 15 = .ok (.getfield 21, 3) := by decide +kernel
theorem dX8_eraseRow_18 : decode cX8_eraseRow 18 = .ok (.getfield 85, 3) := by decide +kernel
theorem dX8_eraseRow_21 : decode cX8_eraseRow 21 = .ok (.goto 4, 3) := by decide +kernel
theorem dX8_eraseRow_24 : decode cX8_eraseRow 24 = .ok (.iconst 0, 1) := by decide +kernel
theorem dX8_eraseRow_25 : decode cX8_eraseRow 25 = .ok (.istore_n 2, 1) := by decide +kernel
theorem dX8_eraseRow_26 : decode cX8_eraseRow 26 = .ok (.iload_n 1, 1) := by decide +kernel
theorem dX8_eraseRow_27 : decode cX8_eraseRow 27 = .ok (.iconst 1, 1) := by decide +kernel
theorem dX8_eraseRow_28 : decode cX8_eraseRow 28 = .ok (.if_icmp .ne 15, 3) := by decide +kernel
theorem dX8_eraseRow_31 : decode cX8_eraseRow 31 = .ok (.aload_n 0, 1) := by decide +kernel
theorem dX8_eraseRow_32 : decode cX8_eraseRow 32 = .ok (.getfield 21, 3) := by decide +kernel
theorem dX8_eraseRow_35 : decode cX8_eraseRow 35 = .ok (.getfield 85, 3) := by decide +kernel
theorem dX8_eraseRow_38 : decode cX8_eraseRow 38 = .ok (.iconst 1, 1) := by decide +kernel
theorem dX8_eraseRow_39 : decode cX8_eraseRow 39 = .ok (.iadd, 1) := by decide +kernel
theorem dX8_eraseRow_40 : decode cX8_eraseRow 40 = .ok (.goto 7, 3) := by decide +kernel
theorem dX8_eraseRow_43 : decode cX8_eraseRow 43 = .ok (.aload_n 0, 1) := by decide +kernel
theorem dX8_eraseRow_44 : decode cX8_eraseRow 44 = .ok (.getfield 66, 3) := by decide +kernel
theorem dX8_eraseRow_47 : decode cX8_eraseRow 47 = .ok (.istore_n 3, 1) := by decide +kernel
theorem dX8_eraseRow_48 : decode cX8_eraseRow 48 = .ok (.aload_n 0, 1) := by decide +kernel
theorem dX8_eraseRow_49 : decode cX8_eraseRow 49 = .ok (.invokevirtual 138, 3) := by decide +kernel
theorem dX8_eraseRow_52 : decode cX8_eraseRow 52 = .ok (.aload_n 0, 1) := by decide +kernel
theorem dX8_eraseRow_53 : decode cX8_eraseRow 53 = .ok (.getfield 21, 3) := by decide +kernel
theorem dX8_eraseRow_56 : decode cX8_eraseRow 56 = .ok (.getfield 82, 3) := by decide +kernel
theorem dX8_eraseRow_59 : decode cX8_eraseRow 59 = .ok (.iload_n 2, 1) := by decide +kernel
theorem dX8_eraseRow_60 : decode cX8_eraseRow 60 = .ok (.iload_n 3, 1) := by decide +kernel
theorem dX8_eraseRow_61 : decode cX8_eraseRow 61 = .ok (.invokevirtual 149, 3) := by decide +kernel
theorem dX8_eraseRow_64 : decode cX8_eraseRow 64 = .ok (.iload_n 3, 1) := by decide +kernel
theorem dX8_eraseRow_65 : decode cX8_eraseRow 65 = .ok (.aload_n 0, 1) := by decide +kernel
theorem dX8_eraseRow_66 : decode cX8_eraseRow 66 = .ok (.getfield 66, 3) := by decide +kernel
theorem dX8_eraseRow_69 : decode cX8_eraseRow 69 = .ok (.if_icmp .lt 18, 3) := by decide +kernel
theorem dX8_eraseRow_72 : decode cX8_eraseRow 72 = .ok (.aload_n 0, 1) := by decide +kernel
theorem dX8_eraseRow_73 : decode cX8_eraseRow 73 = .ok (.invokevirtual 138, 3) := by decide +kernel
theorem dX8_eraseRow_76 : decode cX8_eraseRow 76 = .ok (.aload_n 0, 1) := by decide +kernel
theorem dX8_eraseRow_77 : decode cX8_eraseRow 77 = .ok (.getfield 21, 3) := by decide +kernel
theorem dX8_eraseRow_80 : decode cX8_eraseRow 80 = .ok (.getfield 82, 3) := by decide +kernel
theorem dX8_eraseRow_83 : decode cX8_eraseRow 83 = .ok (.iconst 0, 1) := by decide +kernel
theorem dX8_eraseRow_84 : decode cX8_eraseRow 84 = .ok (.invokevirtual 153, 3) := by decide +kernel
theorem dX8_eraseRow_87 : decode cX8_eraseRow 87 = .ok (.return_, 1) := by decide +kernel
theorem dX8_moveLines_0 : decode cX8_moveLines 0 = .ok (.aload_n 0, 1) := by decide +kernel
theorem dX8_moveLines_1 : decode cX8_moveLines 1 = .ok (.getfield 21, 3) := by decide +kernel
theorem dX8_moveLines_4 : decode cX8_moveLines 4 = .ok (.getfield 82, 3) := by decide +kernel
theorem dX8_moveLines_7 : decode cX8_moveLines 7 = .ok (.aload_n 0, 1) := by decide +kernel
theorem dX8_moveLines_8 : decode cX8_moveLines 8 = .ok (.getfield 97, 3) := by decide +kernel
theorem dX8_moveLines_11 : decode cX8_moveLines 11 = .ok (.if_icmp .lt 17, 3) := by decide +kernel
theorem dX8_moveLines_14 : decode cX8_moveLines 14 = .ok (.aload_n 0, 1) := by decide +kernel
theorem dX8_moveLines_15 : decode cX8_moveLines 15 = .ok (.getfield 21, 3) := by decide +kernel
theorem dX8_moveLines_18 : decode cX8_moveLines 18 = .ok (.getfield 82, 3) := by decide +kernel
theorem dX8_moveLines_21 : decode cX8_moveLines 21 = .ok (.aload_n 0, 1) := by decide +kernel
theorem dX8_moveLines_22 : decode cX8_moveLines 22 = .ok (.getfield 69, 3) := by decide +kernel
theorem dX8_moveLines_25 : decode cX8_moveLines 25 = .ok (.if_icmp .le 4, 3) := by decide +kernel
theorem dX8_moveLines_28 : decode cX8_moveLines 28 = .ok (.return_, 1) := by decide +kernel
theorem dX8_moveLines_29 : decode cX8_moveLines 29 = .ok (.iload_n 1, 1) := by decide +kernel
theorem dX8_moveLines_30 : decode cX8_moveLines 30 = .ok (.bipush 12, 2) := by decide +kernel
theorem dX8_moveLines_32 : decode cX8_moveLines 32 = .ok (.invokestatic 169, 3) := by decide +kernel
theorem dX8_moveLines_35 : decode cX8_moveLines 35 = .ok (.istore_n 3, 1) := by decide +kernel
theorem dX8_moveLines_36 : decode cX8_moveLines 36 = .ok (.iconst 0, 1) := by decide +kernel
theorem dX8_moveLines_37 : decode cX8_moveLines 37 = .ok (.istore 4, 2) := by decide +kernel
theorem dX8_moveLines_39 : decode cX8_moveLines 39 = .ok (.iload 4, 2) := by decide +kernel
theorem dX8_moveLines_41 : decode cX8_moveLines 41 = .ok (.iload_n 3, 1) := by decide +kernel
theorem dX8_moveLines_42 : decode cX8_moveLines 42 = .ok (.if_icmp .ge 47, 3) := by decide +kernel
theorem dX8_moveLines_45 : decode cX8_moveLines 45 = .ok (.iload_n 2, 1) := by decide +kernel
theorem dX8_moveLines_46 : decode cX8_moveLines 46 = .ok (.ifCond .eq 22, 3) := by decide +kernel
theorem dX8_moveLines_49 : decode cX8_moveLines 49 = .ok (.aload_n 0, 1) := by decide +kernel
theorem dX8_moveLines_50 : decode cX8_moveLines 50 = .ok (.aload_n 0, 1) := by decide +kernel
theorem dX8_moveLines_51 : decode cX8_moveLines 51 = .ok (.getfield 21, 3) := by decide +kernel
theorem dX8_moveLines_54 : decode cX8_moveLines 54 = .ok (.getfield 82, 3) := by decide +kernel
theorem dX8_moveLines_57 : decode cX8_moveLines 57 = .ok (.aload_n 0, 1) := by decide +kernel
theorem dX8_moveLines_58 : decode cX8_moveLines 58 = .ok (.getfield 69, 3) := by decide +kernel
theorem dX8_moveLines_61 : decode cX8_moveLines 61 = .ok (.iconst 0, 1) := by decide +kernel
theorem dX8_moveLines_62 : decode cX8_moveLines 62 = .ok (.invokevirtual 185, 3) := by decide +kernel
theorem dX8_moveLines_65 : decode cX8_moveLines 65 = .ok (.goto 18, 3) := by decide +kernel
theorem dX8_moveLines_68 : decode cX8_moveLines 68 = .ok (.aload_n 0, 1) := by decide +kernel
theorem dX8_moveLines_69 : decode cX8_moveLines 69 = .ok (.aload_n 0, 1) := by decide +kernel
theorem dX8_moveLines_70 : decode cX8_moveLines 70 = .ok (.getfield 21, 3) := by decide +kernel
theorem dX8_moveLines_73 : decode cX8_moveLines 73 = .ok (.getfield 82, 3) := by decide +kernel
theorem dX8_moveLines_76 : decode cX8_moveLines 76 = .ok (.aload_n 0, 1) := by decide +kernel
theorem dX8_moveLines_77 : decode cX8_moveLines 77 = .ok (.getfield 69, 3) := by decide +kernel
theorem dX8_moveLines_80 : decode cX8_moveLines 80 = .ok (.invokevirtual 228, 3) := by decide +kernel
theorem dX8_moveLines_83 : decode cX8_moveLines 83 = .ok (.iinc 4 1, 3) := by decide +kernel
theorem dX8_moveLines_86 : decode cX8_moveLines 86 = .ok (.goto (-47), 3) := by decide +kernel
theorem dX8_moveLines_89 : decode cX8_moveLines 89 = .ok (.aload_n 0, 1) := by decide +kernel
theorem dX8_moveLines_90 : decode cX8_moveLines 90 = .ok (.getfield 21, 3) := by decide +kernel
theorem dX8_moveLines_93 : decode cX8_moveLines 93 = .ok (.iconst 0, 1) := by decide +kernel
theorem dX8_moveLines_94 : decode cX8_moveLines 94 = .ok (.putfield 85, 3) := by decide +kernel
theorem dX8_moveLines_97 : decode cX8_moveLines 97 = .ok (.return_, 1) := by decide +kernel
theorem dX8_scroll_0 : decode cX8_scroll 0 = .ok (.iload_n 1, 1) := by decide +kernel
theorem dX8_scroll_1 : decode cX8_scroll 1 = .ok (.bipush 52, 2) := by decide +kernel
theorem dX8_scroll_3 : decode cX8_scroll 3 = .ok (.invokestatic 169, 3) := by decide +kernel
theorem dX8_scroll_6 : decode cX8_scroll 6 = .ok (.istore_n 3, 1) := by decide +kernel
theorem dX8_scroll_7 : decode cX8_scroll 7 = .ok (.iconst 0, 1) := by decide +kernel
theorem dX8_scroll_8 : decode cX8_scroll 8 = .ok (.istore 4, 2) := by decide +kernel
theorem dX8_scroll_10 : decode cX8_scroll 10 = .ok (.iload 4, 2) := by decide +kernel
theorem dX8_scroll_12 : decode cX8_scroll 12 = .ok (.iload_n 3, 1) := by decide +kernel
theorem dX8_scroll_13 : decode cX8_scroll 13 = .ok (.if_icmp .ge 41, 3) := by decide +kernel
theorem dX8_scroll_16 : decode cX8_scroll 16 = .ok (.iload_n 2, 1) := by decide +kernel
theorem dX8_scroll_17 : decode cX8_scroll 17 = .ok (.ifCond .eq 19, 3) := by decide +kernel
theorem dX8_scroll_20 : decode cX8_scroll 20 = .ok (.aload_n 0, 1) := by decide +kernel
theorem dX8_scroll_21 : decode cX8_scroll 21 = .ok (.aload_n 0, 1) := by decide +kernel
theorem dX8_scroll_22 : decode cX8_scroll 22 = .ok (.getfield 97, 3) := by decide +kernel
theorem dX8_scroll_25 : decode cX8_scroll 25 = .ok (.aload_n 0, 1) := by decide +kernel
theorem dX8_scroll_26 : decode cX8_scroll 26 = .ok (.getfield 69, 3) := by decide +kernel
theorem dX8_scroll_29 : decode cX8_scroll 29 = .ok (.iconst 1, 1) := by decide +kernel
theorem dX8_scroll_30 : decode cX8_scroll 30 = .ok (.invokevirtual 185, 3) := by decide +kernel
theorem dX8_scroll_33 : decode cX8_scroll 33 = .ok (.goto 15, 3) := by decide +kernel
theorem dX8_scroll_36 : decode cX8_scroll 36 = .ok (.aload_n 0, 1) := by decide +kernel
theorem dX8_scroll_37 : decode cX8_scroll 37 = .ok (.aload_n 0, 1) := by decide +kernel
theorem dX8_scroll_38 : decode cX8_scroll 38 = .ok (.getfield 97, 3) := by decide +kernel
theorem dX8_scroll_41 : decode cX8_scroll 41 = .ok (.aload_n 0, 1) := by decide +kernel
theorem dX8_scroll_42 : decode cX8_scroll 42 = .ok (.getfield 69, 3) := by decide +kernel
theorem dX8_scroll_45 : decode cX8_scroll 45 = .ok (.invokevirtual 228, 3) := by decide +kernel
theorem dX8_scroll_48 : decode cX8_scroll 48 = .ok (.iinc 4 1, 3) := by decide +kernel
theorem dX8_scroll_51 : decode cX8_scroll 51 = .ok (.goto (-41), 3) := by decide +kernel
theorem dX8_scroll_54 : decode cX8_scroll 54 = .ok (.return_, 1) := by decide +kernel
theorem dX8_setRegion_0 : decode cX8_setRegion 0 = .ok (.aload_n 0, 1) := by decide +kernel
theorem dX8_setRegion_1 : decode cX8_setRegion 1 = .ok (.getfield 35, 3) := by decide +kernel
theorem dX8_setRegion_4 : decode cX8_setRegion 4 = .ok (.iconst 0, 1) := by decide +kernel
theorem dX8_setRegion_5 : decode cX8_setRegion 5 = .ok (.invokevirtual 239, 3) := by decide +kernel
theorem dX8_setRegion_8 : decode cX8_setRegion 8 = .ok (.iconst 1, 1) := by decide +kernel
theorem dX8_setRegion_9 : decode cX8_setRegion 9 = .ok (.invokestatic 110, 3) := by decide +kernel
theorem dX8_setRegion_12 : decode cX8_setRegion 12 = .ok (.istore_n 1, 1) := by decide +kernel
theorem dX8_setRegion_13 : decode cX8_setRegion 13 = .ok (.aload_n 0, 1) := by decide +kernel
theorem dX8_setRegion_14 : decode cX8_setRegion 14 = .ok (.getfield 35, 3) := by decide +kernel
theorem dX8_setRegion_17 : decode cX8_setRegion 17 = .ok (.iconst 1, 1) := by decide +kernel
theorem dX8_setRegion_18 : decode cX8_setRegion 18 = .ok (.invokevirtual 239, 3) := by decide +kernel
theorem dX8_setRegion_21 : decode cX8_setRegion 21 = .ok (.ifCond .ne 10, 3) := by decide +kernel
theorem dX8_setRegion_24 : decode cX8_setRegion 24 = .ok (.aload_n 0, 1) := by decide +kernel
theorem dX8_setRegion_25 : decode cX8_setRegion 25 = .ok (.getfield 62, 3) := by decide +kernel
theorem dX8_setRegion_28 : decode cX8_setRegion 28 = .ok (.goto 11, 3) := by decide +kernel
theorem dX8_setRegion_31 : decode cX8_setRegion 31 = .ok (.aload_n 0, 1) := by decide +kernel
theorem dX8_setRegion_32 : decode cX8_setRegion 32 = .ok (.getfield 35, 3) := by decide +kernel
theorem dX8_setRegion_35 : decode cX8_setRegion 35 = .ok (.iconst 1, 1) := by decide +kernel
theorem dX8_setRegion_36 : decode cX8_setRegion 36 = .ok (.invokevirtual 239, 3) := by decide +kernel
theorem dX8_setRegion_39 : decode cX8_setRegion 39 = .ok (.istore_n 2, 1) := by decide +kernel
theorem dX8_setRegion_40 : decode cX8_setRegion 40 = .ok (.iload_n 1, 1) := by decide +kernel
theorem dX8_setRegion_41 : decode cX8_setRegion 41 = .ok (.iload_n 2, 1) := by decide +kernel
theorem dX8_setRegion_42 : decode cX8_setRegion 42 = .ok (.if_icmp .ge 11, 3) := by decide +kernel
theorem dX8_setRegion_45 : decode cX8_setRegion 45 = .ok (.iload_n 2, 1) := by decide +kernel
theorem dX8_setRegion_46 : decode cX8_setRegion 46 = .ok (.aload_n 0, 1) := by decide +kernel
theorem dX8_setRegion_47 : decode cX8_setRegion 47 = .ok (.getfield 62, 3) := by decide +kernel
theorem dX8_setRegion_50 : decode cX8_setRegion 50 = .ok (.if_icmp .le 4, 3) := by decide +kernel
theorem dX8_setRegion_53 : decode cX8_setRegion 53 = .ok (.return_, 1) := by decide +kernel
theorem dX8_setRegion_54 : decode cX8_setRegion 54 = .ok (.aload_n 0, 1) := by decide +kernel
theorem dX8_setRegion_55 : decode cX8_setRegion 55 = .ok (.iload_n 1, 1) := by decide +kernel
theorem dX8_setRegion_56 : decode cX8_setRegion 56 = .ok (.iconst 1, 1) := by decide +kernel
theorem dX8_setRegion_57 : decode cX8_setRegion 57 = .ok (.isub, 1) := by decide +kernel
theorem dX8_setRegion_58 : decode cX8_setRegion 58 = .ok (.putfield 97, 3) := by decide +kernel
theorem dX8_setRegion_61 : decode cX8_setRegion 61 = .ok (.aload_n 0, 1) := by decide +kernel
theorem dX8_setRegion_62 : decode cX8_setRegion 62 = .ok (.iload_n 2, 1) := by decide +kernel
theorem dX8_setRegion_63 : decode cX8_setRegion 63 = .ok (.iconst 1, 1) := by decide +kernel
theorem dX8_setRegion_64 : decode cX8_setRegion 64 = .ok (.isub, 1) := by decide +kernel
theorem dX8_setRegion_65 : decode cX8_setRegion 65 = .ok (.putfield 69, 3) := by decide +kernel
theorem dX8_setRegion_68 : decode cX8_setRegion 68 = .ok (.aload_n 0, 1) := by decide +kernel
theorem dX8_setRegion_69 : decode cX8_setRegion 69 = .ok (.iconst 1, 1) := by decide +kernel
theorem dX8_setRegion_70 : decode cX8_setRegion 70 = .ok (.iconst 1, 1) := by decide +kernel
theorem dX8_setRegion_71 : decode cX8_setRegion 71 = .ok (.invokevirtual 242, 3) := by decide +kernel
theorem dX8_setRegion_74 : decode cX8_setRegion 74 = .ok (.return_, 1) := by decide +kernel
theorem dX8_setAttribute_0 : decode cX8_setAttribute 0 = .ok (.iconst 0, 1) := by decide +kernel
theorem dX8_setAttribute_1 : decode cX8_setAttribute 1 = .ok (.istore_n 1, 1) := by decide +kernel
theorem dX8_setAttribute_2 : decode cX8_setAttribute 2 = .ok (.iload_n 1, 1) := by decide +kernel
theorem dX8_setAttribute_3 : decode cX8_setAttribute 3 = .ok (.aload_n 0, 1) := by decide +kernel
theorem dX8_setAttribute_4 : decode cX8_setAttribute 4 = .ok (.getfield 35, 3) := by decide +kernel
theorem dX8_setAttribute_7 : decode cX8_setAttribute 7 = .ok (.getfield 283, 3) := by decide +kernel
theorem dX8_setAttribute_10 : decode cX8_setAttribute 10 = .ok (.if_icmp .ge 95, 3) := by decide +kernel
theorem dX8_setAttribute_13 : decode cX8_setAttribute 13 = .ok (.aload_n 0, 1) := by decide +kernel
theorem dX8_setAttribute_14 : decode cX8_setAttribute 14 = .ok (.getfield 35, 3) := by decide +kernel
theorem dX8_setAttribute_17 : decode cX8_setAttribute 17 = .ok (.iload_n 1, 1) := by decide +kernel
theorem dX8_setAttribute_18 : decode cX8_setAttribute 18 = .ok (.invokevirtual 239, 3) := by decide +kernel
theorem dX8_setAttribute_21 : decode cX8_setAttribute 21 = .ok (.istore_n 2, 1) := by decide +kernel
theorem dX8_setAttribute_22 : decode cX8_setAttribute 22 = .ok (.iload_n 2, 1) := by decide +kernel
theorem dX8_setAttribute_23 : decode cX8_setAttribute 23 = .ok (.ifCond .ne 14, 3) := by decide +kernel
theorem dX8_setAttribute_26 : decode cX8_setAttribute 26 = .ok (.aload_n 0, 1) := by decide +kernel
theorem dX8_setAttribute_27 : decode cX8_setAttribute 27 = .ok (.getfield 21, 3) := by decide +kernel
theorem dX8_setAttribute_30 : decode cX8_setAttribute 30 = .ok (.iconst 0, 1) := by decide +kernel
theorem dX8_setAttribute_31 : decode cX8_setAttribute 31 = .ok (.putfield 94, 3) := by decide +kernel
theorem dX8_setAttribute_34 : decode cX8_setAttribute 34 = .ok (.goto 65, 3) := by decide +kernel
theorem dX8_setAttribute_37 : decode cX8_setAttribute 37 = .ok (.iload_n 2, 1) := by decide +kernel
theorem dX8_setAttribute_38 : decode cX8_setAttribute 38 = .ok (.iconst 1, 1) := by decide +kernel
theorem dX8_setAttribute_39 : decode cX8_setAttribute 39 = .ok (.if_icmp .lt 28, 3) := by decide +kernel
theorem dX8_setAttribute_42 : decode cX8_setAttribute 42 = .ok (.iload_n 2, 1) := by decide +kernel
theorem dX8_setAttribute_43 : decode cX8_setAttribute 43 = .ok (.iconst 4, 1) := by decide +kernel
theorem dX8_setAttribute_44 : decode cX8_setAttribute 44 = .ok (.if_icmp .gt 23, 3) := by decide +kernel
theorem dX8_setAttribute_47 : decode cX8_setAttribute 47 = .ok (.aload_n 0, 1) := by decide +kernel
theorem dX8_setAttribute_48 : decode cX8_setAttribute 48 = .ok (.getfield 21, 3) := by decide +kernel
theorem dX8_setAttribute_51 : decode cX8_setAttribute 51 = .ok (.dup, 1) := by decide +kernel
theorem dX8_setAttribute_52 : decode cX8_setAttribute 52 = .ok (.getfield 94, 3) := by decide +kernel
theorem dX8_setAttribute_55 : decode cX8_setAttribute 55 = .ok (.iconst 1, 1) := by decide +kernel
theorem dX8_setAttribute_56 : decode cX8_setAttribute 56 = .ok (.iload_n 2, 1) := by decide +kernel
theorem dX8_setAttribute_57 : decode cX8_setAttribute 57 = .ok (.iconst 1, 1) := by decide +kernel
theorem dX8_setAttribute_58 : decode cX8_setAttribute 58 = .ok (.isub, 1) := by decide +kernel
theorem dX8_setAttribute_59 : decode cX8_setAttribute 59 = .ok (.ishl, 1) := by decide +kernel
theorem dX8_setAttribute_60 : decode cX8_setAttribute 60 = .ok (.ior, 1) := by decide +kernel
theorem dX8_setAttribute_61 : decode cX8_setAttribute 61 = .ok (.putfield 94, 3) := by decide +kernel
theorem dX8_setAttribute_64 : decode cX8_setAttribute 64 = .ok (.goto 35, 3) := by decide +kernel
theorem dX8_setAttribute_67 : decode cX8_setAttribute 67 = .ok (.iload_n 2, 1) := by decide +kernel
theorem dX8_setAttribute_68 : decode cX8_setAttribute 68 = .ok (.bipush 21, 2) := by decide +kernel
theorem dX8_setAttribute_70 : decode cX8_setAttribute 70 = .ok (.if_icmp .lt 29, 3) := by decide +kernel
theorem dX8_setAttribute_73 : decode cX8_setAttribute 73 = .ok (.iload_n 2, 1) := by decide +kernel
theorem dX8_setAttribute_74 : decode cX8_setAttribute 74 = .ok (.bipush 24, 2) := by decide +kernel
theorem dX8_setAttribute_76 : decode cX8_setAttribute 76 = .ok (.if_icmp .gt 23, 3) := by decide +kernel
theorem dX8_setAttribute_79 : decode cX8_setAttribute 79 = .ok (.aload_n 0, 1) := by decide +kernel
theorem dX8_setAttribute_80 : decode cX8_setAttribute 80 = .ok (.getfield 21, 3) := by decide +kernel
theorem dX8_setAttribute_83 : decode cX8_setAttribute 83 = .ok (.dup, 1) := by decide +kernel
theorem dX8_setAttribute_84 : decode cX8_setAttribute 84 = .ok (.getfield 94, 3) := by decide +kernel
theorem dX8_setAttribute_87 : decode cX8_setAttribute 87 = .ok (.iconst 1, 1) := by decide +kernel
theorem dX8_setAttribute_88 : decode cX8_setAttribute 88 = .ok (.iload_n 2, 1) := by decide +kernel
theorem dX8_setAttribute_89 : decode cX8_setAttribute 89 = .ok (.bipush 21, 2) := by decide +kernel
theorem dX8_setAttribute_91 : decode cX8_setAttribute 91 = .ok (.isub, 1) := by decide +kernel
theorem dX8_setAttribute_92 : decode cX8_setAttribute 92 = .ok (.ishl, 1) := by decide +kernel
theorem dX8_setAttribute_93 : decode cX8_setAttribute 93 = .ok (.iconst (-1), 1) := by decide +kernel
theorem dX8_setAttribute_94 : decode cX8_setAttribute 94 = .ok (.ixor, 1) := by decide +kernel
theorem dX8_setAttribute_95 : decode cX8_setAttribute 95 = .ok (.iand, 1) := by decide +kernel
theorem dX8_setAttribute_96 : decode cX8_setAttribute 96 = .ok (.putfield 94, 3) := by decide +kernel
theorem dX8_setAttribute_99 : decode cX8_setAttribute 99 = .ok (.iinc 1 1, 3) := by decide +kernel
theorem dX8_setAttribute_102 : decode cX8_setAttribute 102 = .ok (.goto (-100), 3) := by decide +kernel
theorem dX8_setAttribute_105 : decode cX8_setAttribute 105 = .ok (.return_, 1) := by decide +kernel
theorem dX8_clearTabs_0 : decode cX8_clearTabs 0 = .ok (.iload_n 1, 1) := by decide +kernel
theorem dX8_clearTabs_1 : decode cX8_clearTabs 1 = .ok (.ifCond .ne 18, 3) := by decide +kernel
theorem dX8_clearTabs_4 : decode cX8_clearTabs 4 = .ok (.aload_n 0, 1) := by decide +kernel
theorem dX8_clearTabs_5 : decode cX8_clearTabs 5 = .ok (.aload_n 0, 1) := by decide +kernel
theorem dX8_clearTabs_6 : decode cX8_clearTabs 6 = .ok (.getfield 21, 3) := by decide +kernel
theorem dX8_clearTabs_9 : decode cX8_clearTabs 9 = .ok (.getfield 85, 3) := by decide +kernel
theorem dX8_clearTabs_12 : decode cX8_clearTabs 12 = .ok (.iconst 0, 1) := by decide +kernel
theorem dX8_clearTabs_13 : decode cX8_clearTabs 13 = .ok (.invokevirtual 222, 3) := by decide +kernel
theorem dX8_clearTabs_16 : decode cX8_clearTabs 16 = .ok (.goto 29, 3) := by decide +kernel
theorem dX8_clearTabs_19 : decode cX8_clearTabs 19 = .ok (.iload_n 1, 1) := by decide +kernel
theorem dX8_clearTabs_20 : decode cX8_clearTabs 20 = .ok (.iconst 3, 1) := by decide +kernel
theorem dX8_clearTabs_21 : decode cX8_clearTabs 21 = .ok (.if_icmp .ne 24, 3) := by decide +kernel
theorem dX8_clearTabs_24 : decode cX8_clearTabs 24 = .ok (.iconst 0, 1) := by decide +kernel
theorem dX8_clearTabs_25 : decode cX8_clearTabs 25 = .ok (.istore_n 2, 1) := by decide +kernel
theorem dX8_clearTabs_26 : decode cX8_clearTabs 26 = .ok (.iload_n 2, 1) := by decide +kernel
theorem dX8_clearTabs_27 : decode cX8_clearTabs 27 = .ok (.bipush 24, 2) := by decide +kernel
theorem dX8_clearTabs_29 : decode cX8_clearTabs 29 = .ok (.if_icmp .ge 16, 3) := by decide +kernel
theorem dX8_clearTabs_32 : decode cX8_clearTabs 32 = .ok (.aload_n 0, 1) := by decide +kernel
theorem dX8_clearTabs_33 : decode cX8_clearTabs 33 = .ok (.getfield 58, 3) := by decide +kernel
theorem dX8_clearTabs_36 : decode cX8_clearTabs 36 = .ok (.iload_n 2, 1) := by decide +kernel
theorem dX8_clearTabs_37 : decode cX8_clearTabs 37 = .ok (.iconst 0, 1) := by decide +kernel
theorem dX8_clearTabs_38 : decode cX8_clearTabs 38 = .ok (.bastore, 1) := by decide +kernel
theorem dX8_clearTabs_39 : decode cX8_clearTabs 39 = .ok (.iinc 2 1, 3) := by decide +kernel
theorem dX8_clearTabs_42 : decode cX8_clearTabs 42 = .ok (.goto (-16), 3) := by decide +kernel
theorem dX8_clearTabs_45 : decode cX8_clearTabs 45 = .ok (.return_, 1) := by decide +kernel
theorem dX8_answer_0 : decode cX8_answer 0 = .ok (.iload_n 1, 1) := by decide +kernel
theorem dX8_answer_1 : decode cX8_answer 1 = .ok (.iconst 5, 1) := by decide +kernel
theorem dX8_answer_2 : decode cX8_answer 2 = .ok (.if_icmp .eq 10, 3) := by decide +kernel
theorem dX8_answer_5 : decode cX8_answer 5 = .ok (.iload_n 1, 1) := by decide +kernel
theorem dX8_answer_6 : decode cX8_answer 6 = .ok (.bipush 6, 2) := by decide +kernel
theorem dX8_answer_8 : decode cX8_answer 8 = .ok (.if_icmp .eq 4, 3) := by decide +kernel
theorem dX8_answer_11 : decode cX8_answer 11 = .ok (.return_, 1) := by decide +kernel
theorem dX8_answer_12 : decode cX8_answer 12 = .ok (.aload_n 0, 1) := by decide +kernel
theorem dX8_answer_13 : decode cX8_answer 13 = .ok (.getfield 44, 3) := by decide +kernel
theorem dX8_answer_16 : decode cX8_answer 16 = .ok (.bipush 27, 2) := by decide +kernel
theorem dX8_answer_18 : decode cX8_answer 18 = .ok (.invokevirtual 285, 3) := by decide +kernel
theorem dX8_answer_21 : decode cX8_answer 21 = .ok (.pop, 1) := by decide +kernel
theorem dX8_answer_22 : decode cX8_answer 22 = .ok (.aload_n 0, 1) := by decide +kernel
theorem dX8_answer_23 : decode cX8_answer 23 = .ok (.getfield 44, 3) := by decide +kernel
theorem dX8_answer_26 : decode cX8_answer 26 = .ok (.bipush 91, 2) := by decide +kernel
theorem dX8_answer_28 : decode cX8_answer 28 = .ok (.invokevirtual 285, 3) := by decide +kernel
theorem dX8_answer_31 : decode cX8_answer 31 = .ok (.pop, 1) := by decide +kernel
theorem dX8_answer_32 : decode cX8_answer 32 = .ok (.iload_n 1, 1) := by decide +kernel
theorem dX8_answer_33 : decode cX8_answer 33 = .ok (.iconst 5, 1) := by decide +kernel
theorem dX8_answer_34 : decode cX8_answer 34 = .ok (.if_icmp .ne 24, 3) := by decide +kernel
theorem dX8_answer_37 : decode cX8_answer 37 = .ok (.aload_n 0, 1) := by decide +kernel
theorem dX8_answer_38 : decode cX8_answer 38 = .ok (.getfield 44, 3) := by decide +kernel
theorem dX8_answer_41 : decode cX8_answer 41 = .ok (.bipush 48, 2) := by decide +kernel
theorem dX8_answer_43 : decode cX8_answer 43 = .ok (.invokevirtual 285, 3) := by decide +kernel
theorem dX8_answer_46 : decode cX8_answer 46 = .ok (.pop, 1) := by decide +kernel
theorem dX8_answer_47 : decode cX8_answer 47 = .ok (.aload_n 0, 1) := by decide +kernel
theorem dX8_answer_48 : decode cX8_answer 48 = .ok (.getfield 44, 3) := by decide +kernel
theorem dX8_answer_51 : decode cX8_answer 51 = .ok (.bipush 110, 2) := by decide +kernel
theorem dX8_answer_53 : decode cX8_answer 53 = .ok (.invokevirtual 285, 3) := by decide +kernel
theorem dX8_answer_56 : decode cX8_answer 56 = .ok (.pop, 1) := by decide +kernel
theorem dX8_answer_57 : decode cX8_answer 57 = .ok (.return_, 1) := by decide +kernel
theorem dX8_answer_58 : decode cX8_answer 58 = .ok (.aload_n 0, 1) := by decide +kernel
theorem dX8_answer_59 : decode cX8_answer 59 = .ok (.getfield 21, 3) := by decide +kernel
theorem dX8_answer_62 : decode cX8_answer 62 = .ok (.getfield 275, 3) := by decide +kernel
theorem dX8_answer_65 : decode cX8_answer 65 = .ok (.ifCond .eq 10, 3) := by decide +kernel
theorem dX8_answer_68 : decode cX8_answer 68 = .ok (.aload_n 0, 1) := by decide +kernel
theorem dX8_answer_69 : decode cX8_answer 69 = .ok (.getfield 97, 3) := by decide +kernel
theorem dX8_answer_72 : decode cX8_answer 72 = .ok (.goto 4, 3) := by decide +kernel
theorem dX8_answer_75 : decode cX8_answer 75 = .ok (.iconst 0, 1) := by decide +kernel
theorem dX8_answer_76 : decode cX8_answer 76 = .ok (.istore_n 2, 1) := by decide +kernel
theorem dX8_answer_77 : decode cX8_answer 77 = .ok (.aload_n 0, 1) := by decide +kernel
theorem dX8_answer_78 : decode cX8_answer 78 = .ok (.getfield 44, 3) := by decide +kernel
theorem dX8_answer_81 : decode cX8_answer 81 = .ok (.aload_n 0, 1) := by decide +kernel
theorem dX8_answer_82 : decode cX8_answer 82 = .ok (.getfield 21, 3) := by decide +kernel
theorem dX8_answer_85 : decode cX8_answer 85 = .ok (.getfield 82, 3) := by decide +kernel
theorem dX8_answer_88 : decode cX8_answer 88 = .ok (.iload_n 2, 1) := by decide +kernel
theorem dX8_answer_89 : decode cX8_answer 89 = .ok (.isub, 1) := by decide +kernel
theorem dX8_answer_90 : decode cX8_answer 90 = .ok (.iconst 1, 1) := by decide +kernel
theorem dX8_answer_91 : decode cX8_answer 91 = .ok (.iadd, 1) := by decide +kernel
theorem dX8_answer_92 : decode cX8_answer 92 = .ok (.iconst 1, 1) := by decide +kernel
theorem dX8_answer_93 : decode cX8_answer 93 = .ok (.invokestatic 110, 3) := by decide +kernel
theorem dX8_answer_96 : decode cX8_answer 96 = .ok (.invokevirtual 287, 3) := by decide +kernel
theorem dX8_answer_99 : decode cX8_answer 99 = .ok (.aload_n 0, 1) := by decide +kernel
theorem dX8_answer_100 : decode cX8_answer 100 = .ok (.getfield 44, 3) := by decide +kernel
theorem dX8_answer_103 : decode cX8_answer 103 = .ok (.bipush 59, 2) := by decide +kernel
theorem dX8_answer_105 : decode cX8_answer 105 = .ok (.invokevirtual 285, 3) := by decide +kernel
theorem dX8_answer_108 : decode cX8_answer 108 = .ok (.pop, 1) := by decide +kernel
theorem dX8_answer_109 : decode cX8_answer 109 = .ok (.aload_n 0, 1) := by decide +kernel
theorem dX8_answer_110 : decode cX8_answer 110 = .ok (.getfield 44, 3) := by decide +kernel
theorem dX8_answer_113 : decode cX8_answer 113 = .ok (.aload_n 0, 1) := by decide +kernel
theorem dX8_answer_114 : decode cX8_answer 114 = .ok (.getfield 21, 3) := by decide +kernel
theorem dX8_answer_117 : decode cX8_answer 117 = .ok (.getfield 85, 3) := by decide +kernel
theorem dX8_answer_120 : decode cX8_answer 120 = .ok (.iconst 1, 1) := by decide +kernel
theorem dX8_answer_121 : decode cX8_answer 121 = .ok (.iadd, 1) := by decide +kernel
theorem dX8_answer_122 : decode cX8_answer 122 = .ok (.invokevirtual 287, 3) := by decide +kernel
theorem dX8_answer_125 : decode cX8_answer 125 = .ok (.aload_n 0, 1) := by decide +kernel
theorem dX8_answer_126 : decode cX8_answer 126 = .ok (.getfield 44, 3) := by decide +kernel
theorem dX8_answer_129 : decode cX8_answer 129 = .ok (.bipush 82, 2) := by decide +kernel
theorem dX8_answer_131 : decode cX8_answer 131 = .ok (.invokevirtual 285, 3) := by decide +kernel
theorem dX8_answer_134 : decode cX8_answer 134 = .ok (.pop, 1) := by decide +kernel
theorem dX8_answer_135 : decode cX8_answer 135 = .ok (.return_, 1) := by decide +kernel
theorem dX8_setInsert_0 : decode cX8_setInsert 0 = .ok (.iconst 0, 1) := by decide +kernel
theorem dX8_setInsert_1 : decode cX8_setInsert 1 = .ok (.istore_n 2, 1) := by decide +kernel
theorem dX8_setInsert_2 : decode cX8_setInsert 2 = .ok (.iload_n 2, 1) := by decide +kernel
theorem dX8_setInsert_3 : decode cX8_setInsert 3 = .ok (.aload_n 0, 1) := by decide +kernel
theorem dX8_setInsert_4 : decode cX8_setInsert 4 = .ok (.getfield 35, 3) := by decide +kernel
theorem dX8_setInsert_7 : decode cX8_setInsert 7 = .ok (.getfield 283, 3) := by decide +kernel
theorem dX8_setInsert_10 : decode cX8_setInsert 10 = .ok (.if_icmp .ge 29, 3) := by decide +kernel
theorem dX8_setInsert_13 : decode cX8_setInsert 13 = .ok (.aload_n 0, 1) := by decide +kernel
theorem dX8_setInsert_14 : decode cX8_setInsert 14 = .ok (.getfield 35, 3) := by decide +kernel
theorem dX8_setInsert_17 : decode cX8_setInsert 17 = .ok (.iload_n 2, 1) := by decide +kernel
theorem dX8_setInsert_18 : decode cX8_setInsert 18 = .ok (.invokevirtual 239, 3) := by decide +kernel
theorem dX8_setInsert_21 : decode cX8_setInsert 21 = .ok (.iconst 4, 1) := by decide +kernel
theorem dX8_setInsert_22 : decode cX8_setInsert 22 = .ok (.if_icmp .ne 11, 3) := by decide +kernel
theorem dX8_setInsert_25 : decode cX8_setInsert 25 = .ok (.aload_n 0, 1) := by decide +kernel
theorem dX8_setInsert_26 : decode cX8_setInsert 26 = .ok (.getfield 28, 3) := by decide +kernel
theorem dX8_setInsert_29 : decode cX8_setInsert 29 = .ok (.iload_n 1, 1) := by decide +kernel
theorem dX8_setInsert_30 : decode cX8_setInsert 30 = .ok (.putfield 160, 3) := by decide +kernel
theorem dX8_setInsert_33 : decode cX8_setInsert 33 = .ok (.iinc 2 1, 3) := by decide +kernel
theorem dX8_setInsert_36 : decode cX8_setInsert 36 = .ok (.goto (-34), 3) := by decide +kernel
theorem dX8_setInsert_39 : decode cX8_setInsert 39 = .ok (.return_, 1) := by decide +kernel
theorem dX8_codedWithMark_0 : decode cX8_codedWithMark 0 = .ok (.iload_n 1, 1) := by decide +kernel
theorem dX8_codedWithMark_1 : decode cX8_codedWithMark 1 = .ok (.bipush 104, 2) := by decide +kernel
theorem dX8_codedWithMark_3 : decode cX8_codedWithMark 3 = .ok (.if_icmp .eq 10, 3) := by decide +kernel
theorem dX8_codedWithMark_6 : decode cX8_codedWithMark 6 = .ok (.iload_n 1, 1) := by decide +kernel
theorem dX8_codedWithMark_7 : decode cX8_codedWithMark 7 = .ok (.bipush 108, 2) := by decide +kernel
theorem dX8_codedWithMark_9 : decode cX8_codedWithMark 9 = .ok (.if_icmp .eq 4, 3) := by decide +kernel
theorem dX8_codedWithMark_12 : decode cX8_codedWithMark 12 = .ok (.return_, 1) := by decide +kernel
theorem dX8_codedWithMark_13 : decode cX8_codedWithMark 13 = .ok (.iconst 0, 1) := by decide +kernel
theorem dX8_codedWithMark_14 : decode cX8_codedWithMark 14 = .ok (.istore_n 2, 1) := by decide +kernel
theorem dX8_codedWithMark_15 : decode cX8_codedWithMark 15 = .ok (.iload_n 2, 1) := by decide +kernel
theorem dX8_codedWithMark_16 : decode cX8_codedWithMark 16 = .ok (.aload_n 0, 1) := by decide +kernel
theorem dX8_codedWithMark_17 : decode cX8_codedWithMark 17 = .ok (.getfield 35, 3) := by decide +kernel
theorem dX8_codedWithMark_20 : decode cX8_codedWithMark 20 = .ok (.getfield 283, 3) := by decide +kernel
theorem dX8_codedWithMark_23 : decode cX8_codedWithMark 23 = .ok (.if_icmp .ge 32, 3) := by decide +kernel
theorem dX8_codedWithMark_26 : decode cX8_codedWithMark 26 = .ok (.aload_n 0, 1) := by decide +kernel
theorem dX8_codedWithMark_27 : decode cX8_codedWithMark 27 = .ok (.aload_n 0, 1) := by decide +kernel
theorem dX8_codedWithMark_28 : decode cX8_codedWithMark 28 = .ok (.getfield 35, 3) := by decide +kernel
theorem dX8_codedWithMark_31 : decode cX8_codedWithMark 31 = .ok (.iload_n 2, 1) := by decide +kernel
theorem dX8_codedWithMark_32 : decode cX8_codedWithMark 32 = .ok (.invokevirtual 239, 3) := by decide +kernel
theorem dX8_codedWithMark_35 : decode cX8_codedWithMark 35 = .ok (.iload_n 1, 1) := by decide +kernel
theorem dX8_codedWithMark_36 : decode cX8_codedWithMark 36 = .ok (.bipush 104, 2) := by decide +kernel
theorem dX8_codedWithMark_38 : decode cX8_codedWithMark 38 = .ok (.if_icmp .ne 7, 3) := by decide +kernel
theorem dX8_codedWithMark_41 : decode cX8_codedWithMark 41 = .ok (.iconst 1, 1) := by decide +kernel
theorem dX8_codedWithMark_42 : decode cX8_codedWithMark 42 = .ok (.goto 4, 3) := by decide +kernel
theorem dX8_codedWithMark_45 : decode cX8_codedWithMark 45 = .ok (.iconst 0, 1) := by decide +kernel
theorem dX8_codedWithMark_46 : decode cX8_codedWithMark 46 = .ok (.invokevirtual 290, 3) := by decide +kernel
theorem dX8_codedWithMark_49 : decode cX8_codedWithMark 49 = .ok (.iinc 2 1, 3) := by decide +kernel
theorem dX8_codedWithMark_52 : decode cX8_codedWithMark 52 = .ok (.goto (-37), 3) := by decide +kernel
theorem dX8_codedWithMark_55 : decode cX8_codedWithMark 55 = .ok (.return_, 1) := by decide +kernel
theorem dX8_setMarkedMode_0 : decode cX8_setMarkedMode 0 = .ok (.iload_n 1, 1) := by decide +kernel
theorem dX8_setMarkedMode_1 : decode cX8_setMarkedMode 1 = .ok (.lookupswitch 173 #[(1, 67), (6, 78), (7, 95), (25, 132), (47, 143), (100, 151), (204, 162)], 67) := by decide +kernel
theorem dX8_setMarkedMode_68 : decode cX8_setMarkedMode 68 = .ok (.aload_n 0, 1) := by decide +kernel
theorem dX8_setMarkedMode_69 : decode cX8_setMarkedMode 69 = .ok (.getfield 28, 3) := by decide +kernel
theorem dX8_setMarkedMode_72 : decode cX8_setMarkedMode 72 = .ok (.iload_n 2, 1) := by decide +kernel
theorem dX8_setMarkedMode_73 : decode cX8_setMarkedMode 73 = .ok (.putfield 293, 3) := by decide +kernel
theorem dX8_setMarkedMode_76 : decode cX8_setMarkedMode 76 = .ok (.goto 98, 3) := by decide +kernel
theorem dX8_setMarkedMode_79 : decode cX8_setMarkedMode 79 = .ok (.aload_n 0, 1) := by decide +kernel
theorem dX8_setMarkedMode_80 : decode cX8_setMarkedMode 80 = .ok (.getfield 21, 3) := by decide +kernel
theorem dX8_setMarkedMode_83 : decode cX8_setMarkedMode 83 = .ok (.iload_n 2, 1) := by decide +kernel
theorem dX8_setMarkedMode_84 : decode cX8_setMarkedMode 84 = .ok (.putfield 275, 3) := by decide +kernel
theorem dX8_setMarkedMode_87 : decode cX8_setMarkedMode 87 = .ok (.aload_n 0, 1) := by decide +kernel
theorem dX8_setMarkedMode_88 : decode cX8_setMarkedMode 88 = .ok (.iconst 1, 1) := by decide +kernel
theorem dX8_setMarkedMode_89 : decode cX8_setMarkedMode 89 = .ok (.iconst 1, 1) := by decide +kernel
theorem dX8_setMarkedMode_90 : decode cX8_setMarkedMode 90 = .ok (.invokevirtual 242, 3) := by decide +kernel
theorem dX8_setMarkedMode_93 : decode cX8_setMarkedMode 93 = .ok (.goto 81, 3) := by decide +kernel
theorem dX8_setMarkedMode_96 : decode cX8_setMarkedMode 96 = .ok (.aload_n 0, 1) := by decide +kernel
theorem dX8_setMarkedMode_97 : decode cX8_setMarkedMode 97 = .ok (.getfield 28, 3) := by decide +kernel
theorem dX8_setMarkedMode_100 : decode cX8_setMarkedMode 100 = .ok (.iload_n 2, 1) := by decide +kernel
theorem dX8_setMarkedMode_101 : decode cX8_setMarkedMode 101 = .ok (.putfield 146, 3) := by decide +kernel
theorem dX8_setMarkedMode_104 : decode cX8_setMarkedMode 104 = .ok (.aload_n 0, 1) := by decide +kernel
theorem dX8_setMarkedMode_105 : decode cX8_setMarkedMode 105 = .ok (.getfield 21, 3) := by decide +kernel
theorem dX8_setMarkedMode_108 : decode cX8_setMarkedMode 108 = .ok (.aload_n 0, 1) := by decide +kernel
theorem dX8_setMarkedMode_109 : decode cX8_setMarkedMode 109 = .ok (.getfield 21, 3) := by decide +kernel
theorem dX8_setMarkedMode_112 : decode cX8_setMarkedMode 112 = .ok (.getfield 88, 3) := by decide +kernel
theorem dX8_setMarkedMode_115 : decode cX8_setMarkedMode 115 = .ok (.ifCond .eq 11, 3) := by decide +kernel
theorem dX8_setMarkedMode_118 : decode cX8_setMarkedMode 118 = .ok (.iload_n 2, 1) := by decide +kernel
theorem dX8_setMarkedMode_119 : decode cX8_setMarkedMode 119 = .ok (.ifCond .eq 7, 3) := by decide +kernel
theorem dX8_setMarkedMode_122 : decode cX8_setMarkedMode 122 = .ok (.iconst 1, 1) := by decide +kernel
theorem dX8_setMarkedMode_123 : decode cX8_setMarkedMode 123 = .ok (.goto 4, 3) := by decide +kernel
theorem dX8_setMarkedMode_126 : decode cX8_setMarkedMode 126 = .ok (.iconst 0, 1) := by decide +kernel
theorem dX8_setMarkedMode_127 : decode cX8_setMarkedMode 127 = .ok (.putfield 88, 3) := by decide +kernel
theorem dX8_setMarkedMode_130 : decode cX8_setMarkedMode 130 = .ok (.goto 44, 3) := by decide +kernel
theorem dX8_setMarkedMode_133 : decode cX8_setMarkedMode 133 = .ok (.aload_n 0, 1) := by decide +kernel
theorem dX8_setMarkedMode_134 : decode cX8_setMarkedMode 134 = .ok (.getfield 28, 3) := by decide +kernel
theorem dX8_setMarkedMode_137 : decode cX8_setMarkedMode 137 = .ok (.iload_n 2, 1) := by decide +kernel
theorem dX8_setMarkedMode_138 : decode cX8_setMarkedMode 138 = .ok (.putfield 296, 3) := by decide +kernel
theorem dX8_setMarkedMode_141 : decode cX8_setMarkedMode 141 = .ok (.goto 33, 3) := by decide +kernel
theorem dX8_setMarkedMode_144 : decode cX8_setMarkedMode 144 = .ok (.aload_n 0, 1) := by decide +kernel
theorem dX8_setMarkedMode_145 : decode cX8_setMarkedMode 145 = .ok (.iload_n 2, 1) := by decide +kernel
theorem dX8_setMarkedMode_146 : decode cX8_setMarkedMode 146 = .ok (.invokevirtual 299, 3) := by decide +kernel
theorem dX8_setMarkedMode_149 : decode cX8_setMarkedMode 149 = .ok (.goto 25, 3) := by decide +kernel
theorem dX8_setMarkedMode_152 : decode cX8_setMarkedMode 152 = .ok (.aload_n 0, 1) := by decide +kernel
theorem dX8_setMarkedMode_153 : decode cX8_setMarkedMode 153 = .ok (.getfield 28, 3) := by decide +kernel
theorem dX8_setMarkedMode_156 : decode cX8_setMarkedMode 156 = .ok (.iload_n 2, 1) := by decide +kernel
theorem dX8_setMarkedMode_157 : decode cX8_setMarkedMode 157 = .ok (.putfield 302, 3) := by decide +kernel
theorem dX8_setMarkedMode_160 : decode cX8_setMarkedMode 160 = .ok (.goto 14, 3) := by decide +kernel
theorem dX8_setMarkedMode_163 : decode cX8_setMarkedMode 163 = .ok (.aload_n 0, 1) := by decide +kernel
theorem dX8_setMarkedMode_164 : decode cX8_setMarkedMode 164 = .ok (.getfield 28, 3) := by decide +kernel
theorem dX8_setMarkedMode_167 : decode cX8_setMarkedMode 167 = .ok (.iload_n 2, 1) := by decide +kernel
theorem dX8_setMarkedMode_168 : decode cX8_setMarkedMode 168 = .ok (.putfield 305, 3) := by decide +kernel
theorem dX8_setMarkedMode_171 : decode cX8_setMarkedMode 171 = .ok (.goto 3, 3) := by decide +kernel
theorem dX8_setMarkedMode_174 : decode cX8_setMarkedMode 174 = .ok (.return_, 1) := by decide +kernel
theorem dX8_showOther_0 : decode cX8_showOther 0 = .ok (.iload_n 1, 1) := by decide +kernel
theorem dX8_showOther_1 : decode cX8_showOther 1 = .ok (.aload_n 0, 1) := by decide +kernel
theorem dX8_showOther_2 : decode cX8_showOther 2 = .ok (.getfield 75, 3) := by decide +kernel
theorem dX8_showOther_5 : decode cX8_showOther 5 = .ok (.if_icmp .ne 4, 3) := by decide +kernel
theorem dX8_showOther_8 : decode cX8_showOther 8 = .ok (.return_, 1) := by decide +kernel
theorem dX8_showOther_9 : decode cX8_showOther 9 = .ok (.aload_n 0, 1) := by decide +kernel
theorem dX8_showOther_10 : decode cX8_showOther 10 = .ok (.iload_n 1, 1) := by decide +kernel
theorem dX8_showOther_11 : decode cX8_showOther 11 = .ok (.putfield 75, 3) := by decide +kernel
theorem dX8_showOther_14 : decode cX8_showOther 14 = .ok (.iload_n 1, 1) := by decide +kernel
theorem dX8_showOther_15 : decode cX8_showOther 15 = .ok (.ifCond .eq 24, 3) := by decide +kernel
theorem dX8_showOther_18 : decode cX8_showOther 18 = .ok (.aload_n 0, 1) := by decide +kernel
theorem dX8_showOther_19 : decode cX8_showOther 19 = .ok (.getfield 55, 3) := by decide +kernel
theorem dX8_showOther_22 : decode cX8_showOther 22 = .ok (.aload_n 0, 1) := by decide +kernel
theorem dX8_showOther_23 : decode cX8_showOther 23 = .ok (.getfield 21, 3) := by decide +kernel
theorem dX8_showOther_26 : decode cX8_showOther 26 = .ok (.invokevirtual 212, 3) := by decide +kernel
theorem dX8_showOther_29 : decode cX8_showOther 29 = .ok (.aload_n 0, 1) := by decide +kernel
theorem dX8_showOther_30 : decode cX8_showOther 30 = .ok (.getfield 51, 3) := by decide +kernel
theorem dX8_showOther_33 : decode cX8_showOther 33 = .ok (.invokevirtual 231, 3) := by decide +kernel
theorem dX8_showOther_36 : decode cX8_showOther 36 = .ok (.goto 7, 3) := by decide +kernel
theorem dX8_showOther_39 : decode cX8_showOther 39 = .ok (.aload_n 0, 1) := by decide +kernel
theorem dX8_showOther_40 : decode cX8_showOther 40 = .ok (.invokevirtual 216, 3) := by decide +kernel
theorem dX8_showOther_43 : decode cX8_showOther 43 = .ok (.return_, 1) := by decide +kernel
theorem dX8_resize_0 : decode cX8_resize 0 = .ok (.aload_n 0, 1) := by decide +kernel
theorem dX8_resize_1 : decode cX8_resize 1 = .ok (.getfield 66, 3) := by decide +kernel
theorem dX8_resize_4 : decode cX8_resize 4 = .ok (.istore_n 3, 1) := by decide +kernel
theorem dX8_resize_5 : decode cX8_resize 5 = .ok (.aload_n 0, 1) := by decide +kernel
theorem dX8_resize_6 : decode cX8_resize 6 = .ok (.getfield 12, 3) := by decide +kernel
theorem dX8_resize_9 : decode cX8_resize 9 = .ok (.aload_n 0, 1) := by decide +kernel
theorem dX8_resize_10 : decode cX8_resize 10 = .ok (.getfield 75, 3) := by decide +kernel
theorem dX8_resize_13 : decode cX8_resize 13 = .ok (.ifCond .eq 10, 3) := by decide +kernel
theorem dX8_resize_16 : decode cX8_resize 16 = .ok (.aload_n 0, 1) := by decide +kernel
theorem dX8_resize_17 : decode cX8_resize 17 = .ok (.getfield 55, 3) := by decide +kernel
theorem dX8_resize_20 : decode cX8_resize 20 = .ok (.goto 7, 3) := by decide +kernel
theorem dX8_resize_23 : decode cX8_resize 23 = .ok (.aload_n 0, 1) := by decide +kernel
theorem dX8_resize_24 : decode cX8_resize 24 = .ok (.getfield 21, 3) := by decide +kernel
theorem dX8_resize_27 : decode cX8_resize 27 = .ok (.iload_n 1, 1) := by decide +kernel
theorem dX8_resize_28 : decode cX8_resize 28 = .ok (.iload_n 2, 1) := by decide +kernel
theorem dX8_resize_29 : decode cX8_resize 29 = .ok (.invokevirtual 308, 3) := by decide +kernel
theorem dX8_resize_32 : decode cX8_resize 32 = .ok (.aload_n 0, 1) := by decide +kernel
theorem dX8_resize_33 : decode cX8_resize 33 = .ok (.getfield 51, 3) := by decide +kernel
theorem dX8_resize_36 : decode cX8_resize 36 = .ok (.iload_n 1, 1) := by decide +kernel
theorem dX8_resize_37 : decode cX8_resize 37 = .ok (.iload_n 2, 1) := by decide +kernel
theorem dX8_resize_38 : decode cX8_resize 38 = .ok (.invokevirtual 312, 3) := by decide +kernel
theorem dX8_resize_41 : decode cX8_resize 41 = .ok (.aload_n 0, 1) := by decide +kernel
theorem dX8_resize_42 : decode cX8_resize 42 = .ok (.iload_n 1, 1) := by decide +kernel
theorem dX8_resize_43 : decode cX8_resize 43 = .ok (.putfield 62, 3) := by decide +kernel
theorem dX8_resize_46 : decode cX8_resize 46 = .ok (.aload_n 0, 1) := by decide +kernel
theorem dX8_resize_47 : decode cX8_resize 47 = .ok (.iload_n 2, 1) := by decide +kernel
theorem dX8_resize_48 : decode cX8_resize 48 = .ok (.putfield 66, 3) := by decide +kernel
theorem dX8_resize_51 : decode cX8_resize 51 = .ok (.aload_n 0, 1) := by decide +kernel
theorem dX8_resize_52 : decode cX8_resize 52 = .ok (.iconst 0, 1) := by decide +kernel
theorem dX8_resize_53 : decode cX8_resize 53 = .ok (.putfield 97, 3) := by decide +kernel
theorem dX8_resize_56 : decode cX8_resize 56 = .ok (.aload_n 0, 1) := by decide +kernel
theorem dX8_resize_57 : decode cX8_resize 57 = .ok (.aload_n 0, 1) := by decide +kernel
theorem dX8_resize_58 : decode cX8_resize 58 = .ok (.getfield 62, 3) := by decide +kernel
theorem dX8_resize_61 : decode cX8_resize 61 = .ok (.iconst 1, 1) := by decide +kernel
theorem dX8_resize_62 : decode cX8_resize 62 = .ok (.isub, 1) := by decide +kernel
theorem dX8_resize_63 : decode cX8_resize 63 = .ok (.putfield 69, 3) := by decide +kernel
theorem dX8_resize_66 : decode cX8_resize 66 = .ok (.aload_n 0, 1) := by decide +kernel
theorem dX8_resize_67 : decode cX8_resize 67 = .ok (.iload_n 3, 1) := by decide +kernel
theorem dX8_resize_68 : decode cX8_resize 68 = .ok (.aload_n 0, 1) := by decide +kernel
theorem dX8_resize_69 : decode cX8_resize 69 = .ok (.getfield 66, 3) := by decide +kernel
theorem dX8_resize_72 : decode cX8_resize 72 = .ok (.invokestatic 169, 3) := by decide +kernel
theorem dX8_resize_75 : decode cX8_resize 75 = .ok (.invokevirtual 72, 3) := by decide +kernel
theorem dX8_resize_78 : decode cX8_resize 78 = .ok (.aload_n 0, 1) := by decide +kernel
theorem dX8_resize_79 : decode cX8_resize 79 = .ok (.getfield 75, 3) := by decide +kernel
theorem dX8_resize_82 : decode cX8_resize 82 = .ok (.ifCond .eq 42, 3) := by decide +kernel
theorem dX8_resize_85 : decode cX8_resize 85 = .ok (.aload_n 0, 1) := by decide +kernel
theorem dX8_resize_86 : decode cX8_resize 86 = .ok (.getfield 21, 3) := by decide +kernel
theorem dX8_resize_89 : decode cX8_resize 89 = .ok (.aload_n 0, 1) := by decide +kernel
theorem dX8_resize_90 : decode cX8_resize 90 = .ok (.getfield 21, 3) := by decide +kernel
theorem dX8_resize_93 : decode cX8_resize 93 = .ok (.getfield 82, 3) := by decide +kernel
theorem dX8_resize_96 : decode cX8_resize 96 = .ok (.aload_n 0, 1) := by decide +kernel
theorem dX8_resize_97 : decode cX8_resize 97 = .ok (.getfield 62, 3) := by decide +kernel
theorem dX8_resize_100 : decode cX8_resize 100 = .ok (.iconst 1, 1) := by decide +kernel
theorem dX8_resize_101 : decode cX8_resize 101 = .ok (.isub, 1) := by decide +kernel
theorem dX8_resize_102 : decode cX8_resize 102 = .ok (.invokestatic 169, 3) := by decide +kernel
theorem dX8_resize_105 : decode cX8_resize 105 = .ok (.aload_n 0, 1) := by decide +kernel
theorem dX8_resize_106 : decode cX8_resize 106 = .ok (.getfield 21, 3) := by decide +kernel
theorem dX8_resize_109 : decode cX8_resize 109 = .ok (.getfield 85, 3) := by decide +kernel
theorem dX8_resize_112 : decode cX8_resize 112 = .ok (.aload_n 0, 1) := by decide +kernel
theorem dX8_resize_113 : decode cX8_resize 113 = .ok (.getfield 66, 3) := by decide +kernel
theorem dX8_resize_116 : decode cX8_resize 116 = .ok (.iconst 1, 1) := by decide +kernel
theorem dX8_resize_117 : decode cX8_resize 117 = .ok (.isub, 1) := by decide +kernel
theorem dX8_resize_118 : decode cX8_resize 118 = .ok (.invokestatic 169, 3) := by decide +kernel
theorem dX8_resize_121 : decode cX8_resize 121 = .ok (.invokevirtual 278, 3) := by decide +kernel
theorem dX8_resize_124 : decode cX8_resize 124 = .ok (.return_, 1) := by decide +kernel
