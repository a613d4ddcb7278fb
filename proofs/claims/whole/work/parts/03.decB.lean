theorem dX11_init_0 : decode cX11_init 0 = .ok (.aload_n 0, 1) := by decide +kernel
theorem dX11_init_1 : decode cX11_init 1 = .ok (.invokespecial 1, 3) := by decide +kernel
theorem dX11_init_4 : decode cX11_init 4 = .ok (.aload_n 0, 1) := by decide +kernel
theorem dX11_init_5 : decode cX11_init 5 = .ok (.new 7, 3) := by decide +kernel
theorem dX11_init_8 : decode cX11_init 8 = .ok (.dup, 1) := by decide +kernel
theorem dX11_init_9 : decode cX11_init 9 = .ok (.invokespecial 9, 3) := by decide +kernel
theorem dX11_init_12 : decode cX11_init 12 = .ok (.putfield 10, 3) := by decide +kernel
theorem dX11_init_15 : decode cX11_init 15 = .ok (.aload_n 0, 1) := by decide +kernel
theorem dX11_init_16 : decode cX11_init 16 = .ok (.new 7, 3) := by decide +kernel
theorem dX11_init_19 : decode cX11_init 19 = .ok (.dup, 1) := by decide +kernel
theorem dX11_init_20 : decode cX11_init 20 = .ok (.invokespecial 9, 3) := by decide +kernel
theorem dX11_init_23 : decode cX11_init 23 = .ok (.putfield 16, 3) := by decide +kernel
theorem dX11_init_26 : decode cX11_init 26 = .ok (.aload_n 0, 1) := by decide +kernel
theorem dX11_init_27 : decode cX11_init 27 = .ok (.new 7, 3) := by decide +kernel
theorem dX11_init_30 : decode cX11_init 30 = .ok (.dup, 1) := by decide +kernel
theorem dX11_init_31 : decode cX11_init 31 = .ok (.invokespecial 9, 3) := by decide +kernel
theorem dX11_init_34 : decode cX11_init 34 = .ok (.putfield 19, 3) := by decide +kernel
theorem dX11_init_37 : decode cX11_init 37 = .ok (.aload_n 0, 1) := by decide +kernel
theorem dX11_init_38 : decode cX11_init 38 = .ok (.new 22, 3) := by decide +kernel
theorem dX11_init_41 : decode cX11_init 41 = .ok (.dup, 1) := by decide +kernel
theorem dX11_init_42 : decode cX11_init 42 = .ok (.invokespecial 24, 3) := by decide +kernel
theorem dX11_init_45 : decode cX11_init 45 = .ok (.putfield 25, 3) := by decide +kernel
theorem dX11_init_48 : decode cX11_init 48 = .ok (.aload_n 0, 1) := by decide +kernel
theorem dX11_init_49 : decode cX11_init 49 = .ok (.bipush 8, 2) := by decide +kernel
theorem dX11_init_51 : decode cX11_init 51 = .ok (.anewarray 29, 3) := by decide +kernel
theorem dX11_init_54 : decode cX11_init 54 = .ok (.putfield 31, 3) := by decide +kernel
theorem dX11_init_57 : decode cX11_init 57 = .ok (.aload_n 0, 1) := by decide +kernel
theorem dX11_init_58 : decode cX11_init 58 = .ok (.iconst 5, 1) := by decide +kernel
theorem dX11_init_59 : decode cX11_init 59 = .ok (.newarray .int, 2) := by decide +kernel
theorem dX11_init_61 : decode cX11_init 61 = .ok (.putfield 35, 3) := by decide +kernel
theorem dX11_init_64 : decode cX11_init 64 = .ok (.aload_n 0, 1) := by decide +kernel
theorem dX11_init_65 : decode cX11_init 65 = .ok (.sipush 241, 3) := by decide +kernel
theorem dX11_init_68 : decode cX11_init 68 = .ok (.newarray .int, 2) := by decide +kernel
theorem dX11_init_70 : decode cX11_init 70 = .ok (.putfield 39, 3) := by decide +kernel
theorem dX11_init_73 : decode cX11_init 73 = .ok (.aload_n 0, 1) := by decide +kernel
theorem dX11_init_74 : decode cX11_init 74 = .ok (.sipush 241, 3) := by decide +kernel
theorem dX11_init_77 : decode cX11_init 77 = .ok (.newarray .int, 2) := by decide +kernel
theorem dX11_init_79 : decode cX11_init 79 = .ok (.putfield 42, 3) := by decide +kernel
theorem dX11_init_82 : decode cX11_init 82 = .ok (.iconst 0, 1) := by decide +kernel
theorem dX11_init_83 : decode cX11_init 83 = .ok (.istore_n 1, 1) := by decide +kernel
theorem dX11_init_84 : decode cX11_init 84 = .ok (.iload_n 1, 1) := by decide +kernel
theorem dX11_init_85 : decode cX11_init 85 = .ok (.aload_n 0, 1) := by decide +kernel
theorem dX11_init_86 : decode cX11_init 86 = .ok (.getfield 31, 3) := by decide +kernel
theorem dX11_init_89 : decode cX11_init 89 = .ok (.arraylength, 1) := by decide +kernel
theorem dX11_init_90 : decode cX11_init 90 = .ok (.if_icmp .ge 22, 3) := by decide +kernel
theorem dX11_init_93 : decode cX11_init 93 = .ok (.aload_n 0, 1) := by decide +kernel
theorem dX11_init_94 : decode cX11_init 94 = .ok (.getfield 31, 3) := by decide +kernel
theorem dX11_init_97 : decode cX11_init 97 = .ok (.iload_n 1, 1) := by decide +kernel
theorem dX11_init_98 : decode cX11_init 98 = .ok (.new 29, 3) := by decide +kernel
theorem dX11_init_101 : decode cX11_init 101 = .ok (.dup, 1) := by decide +kernel
theorem dX11_init_102 : decode cX11_init 102 = .ok (.invokespecial 45, 3) := by decide +kernel
theorem dX11_init_105 : decode cX11_init 105 = .ok (.aastore, 1) := by decide +kernel
theorem dX11_init_106 : decode cX11_init 106 = .ok (.iinc 1 1, 3) := by decide +kernel
theorem dX11_init_109 : decode cX11_init 109 = .ok (.goto (-25), 3) := by decide +kernel
theorem dX11_init_112 : decode cX11_init 112 = .ok (.return_, 1) := by decide +kernel
theorem dX11_town_0 : decode cX11_town 0 = .ok (.aload_n 0, 1) := by decide +kernel
theorem dX11_town_1 : decode cX11_town 1 = .ok (.iload_n 1, 1) := by decide +kernel
theorem dX11_town_2 : decode cX11_town 2 = .ok (.invokevirtual 46, 3) := by decide +kernel
theorem dX11_town_5 : decode cX11_town 5 = .ok (.astore_n 2, 1) := by decide +kernel
theorem dX11_town_6 : decode cX11_town 6 = .ok (.aload_n 2, 1) := by decide +kernel
theorem dX11_town_7 : decode cX11_town 7 = .ok (.ifnonnull 5, 3) := by decide +kernel
theorem dX11_town_10 : decode cX11_town 10 = .ok (.iconst (-1), 1) := by decide +kernel
theorem dX11_town_11 : decode cX11_town 11 = .ok (.ireturn, 1) := by decide +kernel
theorem dX11_town_12 : decode cX11_town 12 = .ok (.aload_n 2, 1) := by decide +kernel
theorem dX11_town_13 : decode cX11_town 13 = .ok (.invokevirtual 50, 3) := by decide +kernel
theorem dX11_town_16 : decode cX11_town 16 = .ok (.istore_n 3, 1) := by decide +kernel
theorem dX11_town_17 : decode cX11_town 17 = .ok (.iload_n 3, 1) := by decide +kernel
theorem dX11_town_18 : decode cX11_town 18 = .ok (.ifCond .eq 5, 3) := by decide +kernel
theorem dX11_town_21 : decode cX11_town 21 = .ok (.iload_n 3, 1) := by decide +kernel
theorem dX11_town_22 : decode cX11_town 22 = .ok (.ireturn, 1) := by decide +kernel
theorem dX11_town_23 : decode cX11_town 23 = .ok (.aload_n 0, 1) := by decide +kernel
theorem dX11_town_24 : decode cX11_town 24 = .ok (.getfield 19, 3) := by decide +kernel
theorem dX11_town_27 : decode cX11_town 27 = .ok (.aload_n 0, 1) := by decide +kernel
theorem dX11_town_28 : decode cX11_town 28 = .ok (.getfield 10, 3) := by decide +kernel
theorem dX11_town_31 : decode cX11_town 31 = .ok (.invokevirtual 54, 3) := by decide +kernel
theorem dX11_town_34 : decode cX11_town 34 = .ok (.aload_n 0, 1) := by decide +kernel
theorem dX11_town_35 : decode cX11_town 35 = .ok (.getfield 19, 3) := by decide +kernel
theorem dX11_town_38 : decode cX11_town 38 = .ok (.aload_n 2, 1) := by decide +kernel
theorem dX11_town_39 : decode cX11_town 39 = .ok (.invokevirtual 58, 3) := by decide +kernel
theorem dX11_town_42 : decode cX11_town 42 = .ok (.istore 4, 2) := by decide +kernel
theorem dX11_town_44 : decode cX11_town 44 = .ok (.iload 4, 2) := by decide +kernel
theorem dX11_town_46 : decode cX11_town 46 = .ok (.ifCond .le 14, 3) := by decide +kernel
theorem dX11_town_49 : decode cX11_town 49 = .ok (.aload_n 0, 1) := by decide +kernel
theorem dX11_town_50 : decode cX11_town 50 = .ok (.getfield 10, 3) := by decide +kernel
theorem dX11_town_53 : decode cX11_town 53 = .ok (.aload_n 0, 1) := by decide +kernel
theorem dX11_town_54 : decode cX11_town 54 = .ok (.getfield 19, 3) := by decide +kernel
theorem dX11_town_57 : decode cX11_town 57 = .ok (.invokevirtual 54, 3) := by decide +kernel
theorem dX11_town_60 : decode cX11_town 60 = .ok (.iload 4, 2) := by decide +kernel
theorem dX11_town_62 : decode cX11_town 62 = .ok (.ireturn, 1) := by decide +kernel
theorem dX11_deed_0 : decode cX11_deed 0 = .ok (.aload_n 0, 1) := by decide +kernel
theorem dX11_deed_1 : decode cX11_deed 1 = .ok (.getfield 10, 3) := by decide +kernel
theorem dX11_deed_4 : decode cX11_deed 4 = .ok (.iload_n 1, 1) := by decide +kernel
theorem dX11_deed_5 : decode cX11_deed 5 = .ok (.invokevirtual 62, 3) := by decide +kernel
theorem dX11_deed_8 : decode cX11_deed 8 = .ok (.astore_n 3, 1) := by decide +kernel
theorem dX11_deed_9 : decode cX11_deed 9 = .ok (.aload_n 3, 1) := by decide +kernel
theorem dX11_deed_10 : decode cX11_deed 10 = .ok (.ifnonnull 5, 3) := by decide +kernel
theorem dX11_deed_13 : decode cX11_deed 13 = .ok (.iconst (-1), 1) := by decide +kernel
theorem dX11_deed_14 : decode cX11_deed 14 = .ok (.ireturn, 1) := by decide +kernel
theorem dX11_deed_15 : decode cX11_deed 15 = .ok (.iload_n 2, 1) := by decide +kernel
theorem dX11_deed_16 : decode cX11_deed 16 = .ok (.tableswitch 96 0 7 #[48, 53, 58, 63, 68, 73, 78, 83], 48) := by decide +kernel
theorem dX11_deed_64 : decode cX11_deed 64 = .ok (.aload_n 3, 1) := by decide +kernel
theorem dX11_deed_65 : decode cX11_deed 65 = .ok (.getfield 66, 3) := by decide +kernel
theorem dX11_deed_68 : decode cX11_deed 68 = .ok (.ireturn, 1) := by decide +kernel
theorem dX11_deed_69 : decode cX11_deed 69 = .ok (.aload_n 3, 1) := by decide +kernel
theorem dX11_deed_70 : decode cX11_deed 70 = .ok (.getfield 72, 3) := by decide +kernel
theorem dX11_deed_73 : decode cX11_deed 73 = .ok (.ireturn, 1) := by decide +kernel
theorem dX11_deed_74 : decode cX11_deed 74 = .ok (.aload_n 3, 1) := by decide +kernel
theorem dX11_deed_75 : decode cX11_deed 75 = .ok (.getfield 75, 3) := by decide +kernel
theorem dX11_deed_78 : decode cX11_deed 78 = .ok (.ireturn, 1) := by decide +kernel
theorem dX11_deed_79 : decode cX11_deed 79 = .ok (.aload_n 3, 1) := by decide +kernel
theorem dX11_deed_80 : decode cX11_deed 80 = .ok (.getfield 78, 3) := by decide +kernel
theorem dX11_deed_83 : decode cX11_deed 83 = .ok (.ireturn, 1) := by decide +kernel
theorem dX11_deed_84 : decode cX11_deed 84 = .ok (.aload_n 3, 1) := by decide +kernel
theorem dX11_deed_85 : decode cX11_deed 85 = .ok (.getfield 81, 3) := by decide +kernel
theorem dX11_deed_88 : decode cX11_deed 88 = .ok (.ireturn, 1) := by decide +kernel
theorem dX11_deed_89 : decode cX11_deed 89 = .ok (.aload_n 3, 1) := by decide +kernel
theorem dX11_deed_90 : decode cX11_deed 90 = .ok (.getfield 84, 3) := by decide +kernel
theorem dX11_deed_93 : decode cX11_deed 93 = .ok (.ireturn, 1) := by decide +kernel
theorem dX11_deed_94 : decode cX11_deed 94 = .ok (.aload_n 3, 1) := by decide +kernel
theorem dX11_deed_95 : decode cX11_deed 95 = .ok (.getfield 87, 3) := by decide +kernel
theorem dX11_deed_98 : decode cX11_deed 98 = .ok (.ireturn, 1) := by decide +kernel
theorem dX11_deed_99 : decode cX11_deed 99 = .ok (.aload_n 3, 1) := by decide +kernel
theorem dX11_deed_100 : decode cX11_deed 100 = .ok (.getfield 90, 3) := by decide +kernel
theorem dX11_deed_103 : decode cX11_deed 103 = .ok (.ifCond .eq 7, 3) := by decide +kernel
theorem dX11_deed_106 : decode cX11_deed 106 = .ok (.iconst 1, 1) := by decide +kernel
theorem dX11_deed_107 : decode cX11_deed 107 = .ok (.goto 4, 3) := by decide +kernel
theorem dX11_deed_110 : decode cX11_deed 110 = .ok (.iconst 0, 1) := by decide +kernel
theorem dX11_deed_111 : decode cX11_deed 111 = .ok (.ireturn, 1) := by decide +kernel
theorem dX11_deed_112 : decode cX11_deed 112 = .ok (.iconst (-1), 1) := by decide +kernel
theorem dX11_deed_113 : decode cX11_deed 113 = .ok (.ireturn, 1) := by decide +kernel
theorem dX11_marks_0 : decode cX11_marks 0 = .ok (.aload_n 0, 1) := by decide +kernel
theorem dX11_marks_1 : decode cX11_marks 1 = .ok (.getfield 10, 3) := by decide +kernel
theorem dX11_marks_4 : decode cX11_marks 4 = .ok (.getfield 94, 3) := by decide +kernel
theorem dX11_marks_7 : decode cX11_marks 7 = .ok (.ireturn, 1) := by decide +kernel
theorem dX11_state_0 : decode cX11_state 0 = .ok (.iload_n 1, 1) := by decide +kernel
theorem dX11_state_1 : decode cX11_state 1 = .ok (.tableswitch 63 0 3 #[31, 39, 47, 55], 31) := by decide +kernel
theorem dX11_state_32 : decode cX11_state 32 = .ok (.aload_n 0, 1) := by decide +kernel
theorem dX11_state_33 : decode cX11_state 33 = .ok (.getfield 10, 3) := by decide +kernel
theorem dX11_state_36 : decode cX11_state 36 = .ok (.getfield 97, 3) := by decide +kernel
theorem dX11_state_39 : decode cX11_state 39 = .ok (.ireturn, 1) := by decide +kernel
theorem dX11_state_40 : decode cX11_state 40 = .ok (.aload_n 0, 1) := by decide +kernel
theorem dX11_state_41 : decode cX11_state 41 = .ok (.getfield 10, 3) := by decide +kernel
theorem dX11_state_44 : decode cX11_state 44 = .ok (.getfield 100, 3) := by decide +kernel
theorem dX11_state_47 : decode cX11_state 47 = .ok (.ireturn, 1) := by decide +kernel
theorem dX11_state_48 : decode cX11_state 48 = .ok (.aload_n 0, 1) := by decide +kernel
theorem dX11_state_49 : decode cX11_state 49 = .ok (.getfield 10, 3) := by decide +kernel
theorem dX11_state_52 : decode cX11_state 52 = .ok (.getfield 103, 3) := by decide +kernel
theorem dX11_state_55 : decode cX11_state 55 = .ok (.ireturn, 1) := by decide +kernel
theorem dX11_state_56 : decode cX11_state 56 = .ok (.aload_n 0, 1) := by decide +kernel
theorem dX11_state_57 : decode cX11_state 57 = .ok (.getfield 10, 3) := by decide +kernel
theorem dX11_state_60 : decode cX11_state 60 = .ok (.getfield 106, 3) := by decide +kernel
theorem dX11_state_63 : decode cX11_state 63 = .ok (.ireturn, 1) := by decide +kernel
theorem dX11_state_64 : decode cX11_state 64 = .ok (.iconst (-1), 1) := by decide +kernel
theorem dX11_state_65 : decode cX11_state 65 = .ok (.ireturn, 1) := by decide +kernel
theorem dX11_rise_0 : decode cX11_rise 0 = .ok (.aload_n 0, 1) := by decide +kernel
theorem dX11_rise_1 : decode cX11_rise 1 = .ok (.getfield 10, 3) := by decide +kernel
theorem dX11_rise_4 : decode cX11_rise 4 = .ok (.getfield 109, 3) := by decide +kernel
theorem dX11_rise_7 : decode cX11_rise 7 = .ok (.ireturn, 1) := by decide +kernel
theorem dX11_set_0 : decode cX11_set 0 = .ok (.iload_n 1, 1) := by decide +kernel
theorem dX11_set_1 : decode cX11_set 1 = .ok (.tableswitch 54 0 2 #[27, 36, 45], 27) := by decide +kernel
theorem dX11_set_28 : decode cX11_set 28 = .ok (.aload_n 0, 1) := by decide +kernel
theorem dX11_set_29 : decode cX11_set 29 = .ok (.getfield 10, 3) := by decide +kernel
theorem dX11_set_32 : decode cX11_set 32 = .ok (.iload_n 2, 1) := by decide +kernel
theorem dX11_set_33 : decode cX11_set 33 = .ok (.invokevirtual 112, 3) := by decide +kernel
theorem dX11_set_36 : decode cX11_set 36 = .ok (.ireturn, 1) := by decide +kernel
theorem dX11_set_37 : decode cX11_set 37 = .ok (.aload_n 0, 1) := by decide +kernel
theorem dX11_set_38 : decode cX11_set 38 = .ok (.getfield 10, 3) := by decide +kernel
theorem dX11_set_41 : decode cX11_set 41 = .ok (.iload_n 2, 1) := by decide +kernel
theorem dX11_set_42 : decode cX11_set 42 = .ok (.invokevirtual 116, 3) := by decide +kernel
theorem dX11_set_45 : decode cX11_set 45 = .ok (.ireturn, 1) := by decide +kernel
theorem dX11_set_46 : decode cX11_set 46 = .ok (.aload_n 0, 1) := by decide +kernel
theorem dX11_set_47 : decode cX11_set 47 = .ok (.getfield 10, 3) := by decide +kernel
theorem dX11_set_50 : decode cX11_set 50 = .ok (.iload_n 2, 1) := by decide +kernel
theorem dX11_set_51 : decode cX11_set 51 = .ok (.invokevirtual 119, 3) := by decide +kernel
theorem dX11_set_54 : decode cX11_set 54 = .ok (.ireturn, 1) := by decide +kernel
theorem dX11_set_55 : decode cX11_set 55 = .ok (.iconst (-1), 1) := by decide +kernel
theorem dX11_set_56 : decode cX11_set 56 = .ok (.ireturn, 1) := by decide +kernel
theorem dX11_may_0 : decode cX11_may 0 = .ok (.aload_n 0, 1) := by decide +kernel
theorem dX11_may_1 : decode cX11_may 1 = .ok (.getfield 10, 3) := by decide +kernel
theorem dX11_may_4 : decode cX11_may 4 = .ok (.iload_n 1, 1) := by decide +kernel
theorem dX11_may_5 : decode cX11_may 5 = .ok (.invokevirtual 62, 3) := by decide +kernel
theorem dX11_may_8 : decode cX11_may 8 = .ok (.astore_n 2, 1) := by decide +kernel
theorem dX11_may_9 : decode cX11_may 9 = .ok (.aload_n 2, 1) := by decide +kernel
theorem dX11_may_10 : decode cX11_may 10 = .ok (.ifnonnull 5, 3) := by decide +kernel
theorem dX11_may_13 : decode cX11_may 13 = .ok (.iconst (-1), 1) := by decide +kernel
theorem dX11_may_14 : decode cX11_may 14 = .ok (.ireturn, 1) := by decide +kernel
theorem dX11_may_15 : decode cX11_may 15 = .ok (.aload_n 2, 1) := by decide +kernel
theorem dX11_may_16 : decode cX11_may 16 = .ok (.aload_n 0, 1) := by decide +kernel
theorem dX11_may_17 : decode cX11_may 17 = .ok (.getfield 10, 3) := by decide +kernel
theorem dX11_may_20 : decode cX11_may 20 = .ok (.getfield 94, 3) := by decide +kernel
theorem dX11_may_23 : decode cX11_may 23 = .ok (.aload_n 0, 1) := by decide +kernel
theorem dX11_may_24 : decode cX11_may 24 = .ok (.getfield 10, 3) := by decide +kernel
theorem dX11_may_27 : decode cX11_may 27 = .ok (.getfield 97, 3) := by decide +kernel
theorem dX11_may_30 : decode cX11_may 30 = .ok (.invokevirtual 122, 3) := by decide +kernel
theorem dX11_may_33 : decode cX11_may 33 = .ok (.ifCond .eq 7, 3) := by decide +kernel
theorem dX11_may_36 : decode cX11_may 36 = .ok (.iconst 1, 1) := by decide +kernel
theorem dX11_may_37 : decode cX11_may 37 = .ok (.goto 4, 3) := by decide +kernel
theorem dX11_may_40 : decode cX11_may 40 = .ok (.iconst 0, 1) := by decide +kernel
theorem dX11_may_41 : decode cX11_may 41 = .ok (.ireturn, 1) := by decide +kernel
theorem dX11_pair_0 : decode cX11_pair 0 = .ok (.aload_n 0, 1) := by decide +kernel
theorem dX11_pair_1 : decode cX11_pair 1 = .ok (.iload_n 1, 1) := by decide +kernel
theorem dX11_pair_2 : decode cX11_pair 2 = .ok (.iload_n 2, 1) := by decide +kernel
theorem dX11_pair_3 : decode cX11_pair 3 = .ok (.invokevirtual 126, 3) := by decide +kernel
theorem dX11_pair_6 : decode cX11_pair 6 = .ok (.istore_n 3, 1) := by decide +kernel
theorem dX11_pair_7 : decode cX11_pair 7 = .ok (.iload_n 3, 1) := by decide +kernel
theorem dX11_pair_8 : decode cX11_pair 8 = .ok (.ifCond .eq 5, 3) := by decide +kernel
theorem dX11_pair_11 : decode cX11_pair 11 = .ok (.iload_n 3, 1) := by decide +kernel
theorem dX11_pair_12 : decode cX11_pair 12 = .ok (.ireturn, 1) := by decide +kernel
theorem dX11_pair_13 : decode cX11_pair 13 = .ok (.aload_n 0, 1) := by decide +kernel
theorem dX11_pair_14 : decode cX11_pair 14 = .ok (.iconst 2, 1) := by decide +kernel
theorem dX11_pair_15 : decode cX11_pair 15 = .ok (.invokevirtual 130, 3) := by decide +kernel
theorem dX11_pair_18 : decode cX11_pair 18 = .ok (.aload_n 0, 1) := by decide +kernel
theorem dX11_pair_19 : decode cX11_pair 19 = .ok (.getfield 25, 3) := by decide +kernel
theorem dX11_pair_22 : decode cX11_pair 22 = .ok (.invokevirtual 134, 3) := by decide +kernel
theorem dX11_pair_25 : decode cX11_pair 25 = .ok (.invokestatic 137, 3) := by decide +kernel
theorem dX11_pair_28 : decode cX11_pair 28 = .ok (.ireturn, 1) := by decide +kernel
theorem dX11_even_0 : decode cX11_even 0 = .ok (.aload_n 0, 1) := by decide +kernel
theorem dX11_even_1 : decode cX11_even 1 = .ok (.iload_n 1, 1) := by decide +kernel
theorem dX11_even_2 : decode cX11_even 2 = .ok (.invokevirtual 142, 3) := by decide +kernel
theorem dX11_even_5 : decode cX11_even 5 = .ok (.istore_n 2, 1) := by decide +kernel
theorem dX11_even_6 : decode cX11_even 6 = .ok (.iload_n 2, 1) := by decide +kernel
theorem dX11_even_7 : decode cX11_even 7 = .ok (.ifCond .eq 5, 3) := by decide +kernel
theorem dX11_even_10 : decode cX11_even 10 = .ok (.iload_n 2, 1) := by decide +kernel
theorem dX11_even_11 : decode cX11_even 11 = .ok (.ireturn, 1) := by decide +kernel
theorem dX11_even_12 : decode cX11_even 12 = .ok (.aload_n 0, 1) := by decide +kernel
theorem dX11_even_13 : decode cX11_even 13 = .ok (.getfield 25, 3) := by decide +kernel
theorem dX11_even_16 : decode cX11_even 16 = .ok (.aload_n 0, 1) := by decide +kernel
theorem dX11_even_17 : decode cX11_even 17 = .ok (.getfield 10, 3) := by decide +kernel
theorem dX11_even_20 : decode cX11_even 20 = .ok (.getfield 94, 3) := by decide +kernel
theorem dX11_even_23 : decode cX11_even 23 = .ok (.aload_n 0, 1) := by decide +kernel
theorem dX11_even_24 : decode cX11_even 24 = .ok (.getfield 10, 3) := by decide +kernel
theorem dX11_even_27 : decode cX11_even 27 = .ok (.getfield 97, 3) := by decide +kernel
theorem dX11_even_30 : decode cX11_even 30 = .ok (.invokevirtual 145, 3) := by decide +kernel
theorem dX11_even_33 : decode cX11_even 33 = .ok (.aload_n 0, 1) := by decide +kernel
theorem dX11_even_34 : decode cX11_even 34 = .ok (.getfield 25, 3) := by decide +kernel
theorem dX11_even_37 : decode cX11_even 37 = .ok (.iconst 0, 1) := by decide +kernel
theorem dX11_even_38 : decode cX11_even 38 = .ok (.invokevirtual 149, 3) := by decide +kernel
theorem dX11_even_41 : decode cX11_even 41 = .ok (.aload_n 0, 1) := by decide +kernel
theorem dX11_even_42 : decode cX11_even 42 = .ok (.iconst 1, 1) := by decide +kernel
theorem dX11_even_43 : decode cX11_even 43 = .ok (.invokevirtual 130, 3) := by decide +kernel
theorem dX11_even_46 : decode cX11_even 46 = .ok (.aload_n 0, 1) := by decide +kernel
theorem dX11_even_47 : decode cX11_even 47 = .ok (.getfield 25, 3) := by decide +kernel
theorem dX11_even_50 : decode cX11_even 50 = .ok (.getfield 152, 3) := by decide +kernel
theorem dX11_even_53 : decode cX11_even 53 = .ok (.invokestatic 137, 3) := by decide +kernel
theorem dX11_even_56 : decode cX11_even 56 = .ok (.ireturn, 1) := by decide +kernel
theorem dX11_lasts_0 : decode cX11_lasts 0 = .ok (.iload_n 3, 1) := by decide +kernel
theorem dX11_lasts_1 : decode cX11_lasts 1 = .ok (.ifCond .lt 9, 3) := by decide +kernel
theorem dX11_lasts_4 : decode cX11_lasts 4 = .ok (.iload_n 3, 1) := by decide +kernel
theorem dX11_lasts_5 : decode cX11_lasts 5 = .ok (.bipush 10, 2) := by decide +kernel
theorem dX11_lasts_7 : decode cX11_lasts 7 = .ok (.if_icmp .lt 5, 3) := by decide +kernel
theorem dX11_lasts_10 : decode cX11_lasts 10 = .ok (.iconst (-1), 1) := by decide +kernel
theorem dX11_lasts_11 : decode cX11_lasts 11 = .ok (.ireturn, 1) := by decide +kernel
theorem dX11_lasts_12 : decode cX11_lasts 12 = .ok (.aload_n 0, 1) := by decide +kernel
theorem dX11_lasts_13 : decode cX11_lasts 13 = .ok (.iload_n 1, 1) := by decide +kernel
theorem dX11_lasts_14 : decode cX11_lasts 14 = .ok (.iload_n 2, 1) := by decide +kernel
theorem dX11_lasts_15 : decode cX11_lasts 15 = .ok (.invokevirtual 126, 3) := by decide +kernel
theorem dX11_lasts_18 : decode cX11_lasts 18 = .ok (.istore 4, 2) := by decide +kernel
theorem dX11_lasts_20 : decode cX11_lasts 20 = .ok (.iload 4, 2) := by decide +kernel
theorem dX11_lasts_22 : decode cX11_lasts 22 = .ok (.ifCond .eq 8, 3) := by decide +kernel
theorem dX11_lasts_25 : decode cX11_lasts 25 = .ok (.iload 4, 2) := by decide +kernel
theorem dX11_lasts_27 : decode cX11_lasts 27 = .ok (.goto 14, 3) := by decide +kernel
theorem dX11_lasts_30 : decode cX11_lasts 30 = .ok (.aload_n 0, 1) := by decide +kernel
theorem dX11_lasts_31 : decode cX11_lasts 31 = .ok (.getfield 25, 3) := by decide +kernel
theorem dX11_lasts_34 : decode cX11_lasts 34 = .ok (.getfield 155, 3) := by decide +kernel
theorem dX11_lasts_37 : decode cX11_lasts 37 = .ok (.iload_n 3, 1) := by decide +kernel
theorem dX11_lasts_38 : decode cX11_lasts 38 = .ok (.ishr, 1) := by decide +kernel
theorem dX11_lasts_39 : decode cX11_lasts 39 = .ok (.iconst 1, 1) := by decide +kernel
theorem dX11_lasts_40 : decode cX11_lasts 40 = .ok (.iand, 1) := by decide +kernel
theorem dX11_lasts_41 : decode cX11_lasts 41 = .ok (.ireturn, 1) := by decide +kernel
theorem dX11_why_0 : decode cX11_why 0 = .ok (.aload_n 0, 1) := by decide +kernel
theorem dX11_why_1 : decode cX11_why 1 = .ok (.iload_n 1, 1) := by decide +kernel
theorem dX11_why_2 : decode cX11_why 2 = .ok (.iload_n 2, 1) := by decide +kernel
theorem dX11_why_3 : decode cX11_why 3 = .ok (.invokevirtual 126, 3) := by decide +kernel
theorem dX11_why_6 : decode cX11_why 6 = .ok (.istore 4, 2) := by decide +kernel
theorem dX11_why_8 : decode cX11_why 8 = .ok (.iload 4, 2) := by decide +kernel
theorem dX11_why_10 : decode cX11_why 10 = .ok (.ifCond .eq 6, 3) := by decide +kernel
theorem dX11_why_13 : decode cX11_why 13 = .ok (.iload 4, 2) := by decide +kernel
theorem dX11_why_15 : decode cX11_why 15 = .ok (.ireturn, 1) := by decide +kernel
theorem dX11_why_16 : decode cX11_why 16 = .ok (.iload_n 3, 1) := by decide +kernel
theorem dX11_why_17 : decode cX11_why 17 = .ok (.ifCond .lt 14, 3) := by decide +kernel
theorem dX11_why_20 : decode cX11_why 20 = .ok (.iload_n 3, 1) := by decide +kernel
theorem dX11_why_21 : decode cX11_why 21 = .ok (.aload_n 0, 1) := by decide +kernel
theorem dX11_why_22 : decode cX11_why 22 = .ok (.getfield 25, 3) := by decide +kernel
theorem dX11_why_25 : decode cX11_why 25 = .ok (.getfield 156, 3) := by decide +kernel
theorem dX11_why_28 : decode cX11_why 28 = .ok (.if_icmp .lt 8, 3) := by decide +kernel
theorem dX11_why_31 : decode cX11_why 31 = .ok (.bipush (-13), 2) := by decide +kernel
theorem dX11_why_33 : decode cX11_why 33 = .ok (.goto 11, 3) := by decide +kernel
theorem dX11_why_36 : decode cX11_why 36 = .ok (.aload_n 0, 1) := by decide +kernel
theorem dX11_why_37 : decode cX11_why 37 = .ok (.getfield 25, 3) := by decide +kernel
theorem dX11_why_40 : decode cX11_why 40 = .ok (.iload_n 3, 1) := by decide +kernel
theorem dX11_why_41 : decode cX11_why 41 = .ok (.invokevirtual 159, 3) := by decide +kernel
theorem dX11_why_44 : decode cX11_why 44 = .ok (.ireturn, 1) := by decide +kernel
theorem dX11_behind_0 : decode cX11_behind 0 = .ok (.iload_n 3, 1) := by decide +kernel
theorem dX11_behind_1 : decode cX11_behind 1 = .ok (.ifCond .lt 8, 3) := by decide +kernel
theorem dX11_behind_4 : decode cX11_behind 4 = .ok (.iload_n 3, 1) := by decide +kernel
theorem dX11_behind_5 : decode cX11_behind 5 = .ok (.iconst 3, 1) := by decide +kernel
theorem dX11_behind_6 : decode cX11_behind 6 = .ok (.if_icmp .le 5, 3) := by decide +kernel
theorem dX11_behind_9 : decode cX11_behind 9 = .ok (.iconst (-1), 1) := by decide +kernel
theorem dX11_behind_10 : decode cX11_behind 10 = .ok (.ireturn, 1) := by decide +kernel
theorem dX11_behind_11 : decode cX11_behind 11 = .ok (.aload_n 0, 1) := by decide +kernel
theorem dX11_behind_12 : decode cX11_behind 12 = .ok (.iload_n 1, 1) := by decide +kernel
theorem dX11_behind_13 : decode cX11_behind 13 = .ok (.iload_n 2, 1) := by decide +kernel
theorem dX11_behind_14 : decode cX11_behind 14 = .ok (.invokevirtual 126, 3) := by decide +kernel
theorem dX11_behind_17 : decode cX11_behind 17 = .ok (.istore 4, 2) := by decide +kernel
theorem dX11_behind_19 : decode cX11_behind 19 = .ok (.iload 4, 2) := by decide +kernel
theorem dX11_behind_21 : decode cX11_behind 21 = .ok (.ifCond .eq 6, 3) := by decide +kernel
theorem dX11_behind_24 : decode cX11_behind 24 = .ok (.iload 4, 2) := by decide +kernel
theorem dX11_behind_26 : decode cX11_behind 26 = .ok (.ireturn, 1) := by decide +kernel
theorem dX11_behind_27 : decode cX11_behind 27 = .ok (.iload_n 3, 1) := by decide +kernel
theorem dX11_behind_28 : decode cX11_behind 28 = .ok (.tableswitch 55 0 2 #[28, 36, 44], 28) := by decide +kernel
theorem dX11_behind_56 : decode cX11_behind 56 = .ok (.aload_n 0, 1) := by decide +kernel
theorem dX11_behind_57 : decode cX11_behind 57 = .ok (.getfield 25, 3) := by decide +kernel
theorem dX11_behind_60 : decode cX11_behind 60 = .ok (.getfield 155, 3) := by decide +kernel
theorem dX11_behind_63 : decode cX11_behind 63 = .ok (.ireturn, 1) := by decide +kernel
theorem dX11_behind_64 : decode cX11_behind 64 = .ok (.aload_n 0, 1) := by decide +kernel
theorem dX11_behind_65 : decode cX11_behind 65 = .ok (.getfield 25, 3) := by decide +kernel
theorem dX11_behind_68 : decode cX11_behind 68 = .ok (.getfield 162, 3) := by decide +kernel
theorem dX11_behind_71 : decode cX11_behind 71 = .ok (.ireturn, 1) := by decide +kernel
theorem dX11_behind_72 : decode cX11_behind 72 = .ok (.aload_n 0, 1) := by decide +kernel
theorem dX11_behind_73 : decode cX11_behind 73 = .ok (.getfield 25, 3) := by decide +kernel
theorem dX11_behind_76 : decode cX11_behind 76 = .ok (.getfield 163, 3) := by decide +kernel
theorem dX11_behind_79 : decode cX11_behind 79 = .ok (.invokestatic 137, 3) := by decide +kernel
theorem dX11_behind_82 : decode cX11_behind 82 = .ok (.ireturn, 1) := by decide +kernel
theorem dX11_behind_83 : decode cX11_behind 83 = .ok (.aload_n 0, 1) := by decide +kernel
theorem dX11_behind_84 : decode cX11_behind 84 = .ok (.getfield 25, 3) := by decide +kernel
theorem dX11_behind_87 : decode cX11_behind 87 = .ok (.getfield 166, 3) := by decide +kernel
theorem dX11_behind_90 : decode cX11_behind 90 = .ok (.ireturn, 1) := by decide +kernel
theorem dX11_least_0 : decode cX11_least 0 = .ok (.iload_n 2, 1) := by decide +kernel
theorem dX11_least_1 : decode cX11_least 1 = .ok (.invokestatic 169, 3) := by decide +kernel
theorem dX11_least_4 : decode cX11_least 4 = .ok (.ifCond .eq 12, 3) := by decide +kernel
theorem dX11_least_7 : decode cX11_least 7 = .ok (.iload_n 3, 1) := by decide +kernel
theorem dX11_least_8 : decode cX11_least 8 = .ok (.ifCond .lt 8, 3) := by decide +kernel
theorem dX11_least_11 : decode cX11_least 11 = .ok (.iload_n 3, 1) := by decide +kernel
theorem dX11_least_12 : decode cX11_least 12 = .ok (.iconst 2, 1) := by decide +kernel
theorem dX11_least_13 : decode cX11_least 13 = .ok (.if_icmp .le 5, 3) := by decide +kernel
theorem dX11_least_16 : decode cX11_least 16 = .ok (.iconst (-1), 1) := by decide +kernel
theorem dX11_least_17 : decode cX11_least 17 = .ok (.ireturn, 1) := by decide +kernel
theorem dX11_least_18 : decode cX11_least 18 = .ok (.aload_n 0, 1) := by decide +kernel
theorem dX11_least_19 : decode cX11_least 19 = .ok (.iload_n 1, 1) := by decide +kernel
theorem dX11_least_20 : decode cX11_least 20 = .ok (.invokevirtual 142, 3) := by decide +kernel
theorem dX11_least_23 : decode cX11_least 23 = .ok (.istore 4, 2) := by decide +kernel
theorem dX11_least_25 : decode cX11_least 25 = .ok (.iload 4, 2) := by decide +kernel
theorem dX11_least_27 : decode cX11_least 27 = .ok (.ifCond .eq 6, 3) := by decide +kernel
theorem dX11_least_30 : decode cX11_least 30 = .ok (.iload 4, 2) := by decide +kernel
theorem dX11_least_32 : decode cX11_least 32 = .ok (.ireturn, 1) := by decide +kernel
theorem dX11_least_33 : decode cX11_least 33 = .ok (.aload_n 0, 1) := by decide +kernel
theorem dX11_least_34 : decode cX11_least 34 = .ok (.getfield 25, 3) := by decide +kernel
theorem dX11_least_37 : decode cX11_least 37 = .ok (.iload_n 2, 1) := by decide +kernel
theorem dX11_least_38 : decode cX11_least 38 = .ok (.invokevirtual 173, 3) := by decide +kernel
theorem dX11_least_41 : decode cX11_least 41 = .ok (.istore 5, 2) := by decide +kernel
theorem dX11_least_43 : decode cX11_least 43 = .ok (.iload 5, 2) := by decide +kernel
theorem dX11_least_45 : decode cX11_least 45 = .ok (.ifCond .ge 6, 3) := by decide +kernel
theorem dX11_least_48 : decode cX11_least 48 = .ok (.bipush (-4), 2) := by decide +kernel
theorem dX11_least_50 : decode cX11_least 50 = .ok (.ireturn, 1) := by decide +kernel
theorem dX11_least_51 : decode cX11_least 51 = .ok (.iload_n 3, 1) := by decide +kernel
theorem dX11_least_52 : decode cX11_least 52 = .ok (.ifCond .ne 9, 3) := by decide +kernel
theorem dX11_least_55 : decode cX11_least 55 = .ok (.iload 5, 2) := by decide +kernel
theorem dX11_least_57 : decode cX11_least 57 = .ok (.invokestatic 137, 3) := by decide +kernel
theorem dX11_least_60 : decode cX11_least 60 = .ok (.ireturn, 1) := by decide +kernel
theorem dX11_least_61 : decode cX11_least 61 = .ok (.iload_n 3, 1) := by decide +kernel
theorem dX11_least_62 : decode cX11_least 62 = .ok (.iconst 2, 1) := by decide +kernel
theorem dX11_least_63 : decode cX11_least 63 = .ok (.if_icmp .ne 6, 3) := by decide +kernel
theorem dX11_least_66 : decode cX11_least 66 = .ok (.iload 5, 2) := by decide +kernel
theorem dX11_least_68 : decode cX11_least 68 = .ok (.ireturn, 1) := by decide +kernel
theorem dX11_least_69 : decode cX11_least 69 = .ok (.aload_n 0, 1) := by decide +kernel
theorem dX11_least_70 : decode cX11_least 70 = .ok (.getfield 25, 3) := by decide +kernel
theorem dX11_least_73 : decode cX11_least 73 = .ok (.iload 5, 2) := by decide +kernel
theorem dX11_least_75 : decode cX11_least 75 = .ok (.invokevirtual 176, 3) := by decide +kernel
theorem dX11_least_78 : decode cX11_least 78 = .ok (.aload_n 0, 1) := by decide +kernel
theorem dX11_least_79 : decode cX11_least 79 = .ok (.getfield 25, 3) := by decide +kernel
theorem dX11_least_82 : decode cX11_least 82 = .ok (.getfield 166, 3) := by decide +kernel
theorem dX11_least_85 : decode cX11_least 85 = .ok (.ireturn, 1) := by decide +kernel
theorem dX11_free_0 : decode cX11_free 0 = .ok (.iload_n 2, 1) := by decide +kernel
theorem dX11_free_1 : decode cX11_free 1 = .ok (.invokestatic 169, 3) := by decide +kernel
theorem dX11_free_4 : decode cX11_free 4 = .ok (.ifCond .eq 12, 3) := by decide +kernel
theorem dX11_free_7 : decode cX11_free 7 = .ok (.iload_n 3, 1) := by decide +kernel
theorem dX11_free_8 : decode cX11_free 8 = .ok (.ifCond .lt 8, 3) := by decide +kernel
theorem dX11_free_11 : decode cX11_free 11 = .ok (.iload_n 3, 1) := by decide +kernel
theorem dX11_free_12 : decode cX11_free 12 = .ok (.iconst 1, 1) := by decide +kernel
theorem dX11_free_13 : decode cX11_free 13 = .ok (.if_icmp .le 5, 3) := by decide +kernel
theorem dX11_free_16 : decode cX11_free 16 = .ok (.iconst (-1), 1) := by decide +kernel
theorem dX11_free_17 : decode cX11_free 17 = .ok (.ireturn, 1) := by decide +kernel
theorem dX11_free_18 : decode cX11_free 18 = .ok (.aload_n 0, 1) := by decide +kernel
theorem dX11_free_19 : decode cX11_free 19 = .ok (.iload_n 1, 1) := by decide +kernel
theorem dX11_free_20 : decode cX11_free 20 = .ok (.invokevirtual 179, 3) := by decide +kernel
theorem dX11_free_23 : decode cX11_free 23 = .ok (.istore 4, 2) := by decide +kernel
theorem dX11_free_25 : decode cX11_free 25 = .ok (.aload_n 0, 1) := by decide +kernel
theorem dX11_free_26 : decode cX11_free 26 = .ok (.iload_n 1, 1) := by decide +kernel
theorem dX11_free_27 : decode cX11_free 27 = .ok (.invokevirtual 46, 3) := by decide +kernel
theorem dX11_free_30 : decode cX11_free 30 = .ok (.astore 5, 2) := by decide +kernel
theorem dX11_free_32 : decode cX11_free 32 = .ok (.iload 4, 2) := by decide +kernel
theorem dX11_free_34 : decode cX11_free 34 = .ok (.ifCond .ne 8, 3) := by decide +kernel
theorem dX11_free_37 : decode cX11_free 37 = .ok (.aload 5, 2) := by decide +kernel
theorem dX11_free_39 : decode cX11_free 39 = .ok (.ifnonnull 6, 3) := by decide +kernel
theorem dX11_free_42 : decode cX11_free 42 = .ok (.iload 4, 2) := by decide +kernel
theorem dX11_free_44 : decode cX11_free 44 = .ok (.ireturn, 1) := by decide +kernel
theorem dX11_free_45 : decode cX11_free 45 = .ok (.aload 5, 2) := by decide +kernel
theorem dX11_free_47 : decode cX11_free 47 = .ok (.getfield 182, 3) := by decide +kernel
theorem dX11_free_50 : decode cX11_free 50 = .ok (.iconst 5, 1) := by decide +kernel
theorem dX11_free_51 : decode cX11_free 51 = .ok (.if_icmp .le 8, 3) := by decide +kernel
theorem dX11_free_54 : decode cX11_free 54 = .ok (.bipush (-13), 2) := by decide +kernel
theorem dX11_free_56 : decode cX11_free 56 = .ok (.goto 11, 3) := by decide +kernel
theorem dX11_free_59 : decode cX11_free 59 = .ok (.aload_n 0, 1) := by decide +kernel
theorem dX11_free_60 : decode cX11_free 60 = .ok (.aload 5, 2) := by decide +kernel
theorem dX11_free_62 : decode cX11_free 62 = .ok (.iload_n 2, 1) := by decide +kernel
theorem dX11_free_63 : decode cX11_free 63 = .ok (.iload_n 3, 1) := by decide +kernel
theorem dX11_free_64 : decode cX11_free 64 = .ok (.invokevirtual 183, 3) := by decide +kernel
theorem dX11_free_67 : decode cX11_free 67 = .ok (.ireturn, 1) := by decide +kernel
theorem dX11_plan_0 : decode cX11_plan 0 = .ok (.aload_n 0, 1) := by decide +kernel
theorem dX11_plan_1 : decode cX11_plan 1 = .ok (.iload_n 2, 1) := by decide +kernel
theorem dX11_plan_2 : decode cX11_plan 2 = .ok (.invokevirtual 46, 3) := by decide +kernel
theorem dX11_plan_5 : decode cX11_plan 5 = .ok (.astore 4, 2) := by decide +kernel
theorem dX11_plan_7 : decode cX11_plan 7 = .ok (.aload 4, 2) := by decide +kernel
theorem dX11_plan_9 : decode cX11_plan 9 = .ok (.ifnull 22, 3) := by decide +kernel
theorem dX11_plan_12 : decode cX11_plan 12 = .ok (.iload_n 1, 1) := by decide +kernel
theorem dX11_plan_13 : decode cX11_plan 13 = .ok (.iconst 1, 1) := by decide +kernel
theorem dX11_plan_14 : decode cX11_plan 14 = .ok (.if_icmp .lt 17, 3) := by decide +kernel
theorem dX11_plan_17 : decode cX11_plan 17 = .ok (.iload_n 1, 1) := by decide +kernel
theorem dX11_plan_18 : decode cX11_plan 18 = .ok (.iconst 2, 1) := by decide +kernel
theorem dX11_plan_19 : decode cX11_plan 19 = .ok (.if_icmp .gt 12, 3) := by decide +kernel
theorem dX11_plan_22 : decode cX11_plan 22 = .ok (.iload_n 3, 1) := by decide +kernel
theorem dX11_plan_23 : decode cX11_plan 23 = .ok (.ifCond .lt 8, 3) := by decide +kernel
theorem dX11_plan_26 : decode cX11_plan 26 = .ok (.iload_n 3, 1) := by decide +kernel
theorem dX11_plan_27 : decode cX11_plan 27 = .ok (.iconst 1, 1) := by decide +kernel
theorem dX11_plan_28 : decode cX11_plan 28 = .ok (.if_icmp .le 6, 3) := by decide +kernel
theorem dX11_plan_31 : decode cX11_plan 31 = .ok (.ldc 187, 2) := by decide +kernel
theorem dX11_plan_33 : decode cX11_plan 33 = .ok (.ireturn, 1) := by decide +kernel
theorem dX11_plan_34 : decode cX11_plan 34 = .ok (.aload 4, 2) := by decide +kernel
theorem dX11_plan_36 : decode cX11_plan 36 = .ok (.invokevirtual 188, 3) := by decide +kernel
theorem dX11_plan_39 : decode cX11_plan 39 = .ok (.istore 5, 2) := by decide +kernel
theorem dX11_plan_41 : decode cX11_plan 41 = .ok (.iload 5, 2) := by decide +kernel
theorem dX11_plan_43 : decode cX11_plan 43 = .ok (.ifCond .ne 15, 3) := by decide +kernel
theorem dX11_plan_46 : decode cX11_plan 46 = .ok (.aload 4, 2) := by decide +kernel
theorem dX11_plan_48 : decode cX11_plan 48 = .ok (.invokestatic 191, 3) := by decide +kernel
theorem dX11_plan_51 : decode cX11_plan 51 = .ok (.ifCond .ne 7, 3) := by decide +kernel
theorem dX11_plan_54 : decode cX11_plan 54 = .ok (.bipush (-13), 2) := by decide +kernel
theorem dX11_plan_56 : decode cX11_plan 56 = .ok (.istore 5, 2) := by decide +kernel
theorem dX11_plan_58 : decode cX11_plan 58 = .ok (.iload 5, 2) := by decide +kernel
theorem dX11_plan_60 : decode cX11_plan 60 = .ok (.ifCond .eq 9, 3) := by decide +kernel
theorem dX11_plan_63 : decode cX11_plan 63 = .ok (.ldc 195, 2) := by decide +kernel
theorem dX11_plan_65 : decode cX11_plan 65 = .ok (.iload 5, 2) := by decide +kernel
theorem dX11_plan_67 : decode cX11_plan 67 = .ok (.iadd, 1) := by decide +kernel
theorem dX11_plan_68 : decode cX11_plan 68 = .ok (.ireturn, 1) := by decide +kernel
theorem dX11_plan_69 : decode cX11_plan 69 = .ok (.aload_n 0, 1) := by decide +kernel
theorem dX11_plan_70 : decode cX11_plan 70 = .ok (.invokevirtual 196, 3) := by decide +kernel
theorem dX11_plan_73 : decode cX11_plan 73 = .ok (.aload_n 0, 1) := by decide +kernel
theorem dX11_plan_74 : decode cX11_plan 74 = .ok (.iload_n 1, 1) := by decide +kernel
theorem dX11_plan_75 : decode cX11_plan 75 = .ok (.aload 4, 2) := by decide +kernel
theorem dX11_plan_77 : decode cX11_plan 77 = .ok (.invokevirtual 199, 3) := by decide +kernel
theorem dX11_plan_80 : decode cX11_plan 80 = .ok (.istore 6, 2) := by decide +kernel
theorem dX11_plan_82 : decode cX11_plan 82 = .ok (.iload_n 3, 1) := by decide +kernel
theorem dX11_plan_83 : decode cX11_plan 83 = .ok (.iconst 1, 1) := by decide +kernel
theorem dX11_plan_84 : decode cX11_plan 84 = .ok (.if_icmp .ne 8, 3) := by decide +kernel
theorem dX11_plan_87 : decode cX11_plan 87 = .ok (.iload 6, 2) := by decide +kernel
theorem dX11_plan_89 : decode cX11_plan 89 = .ok (.goto 12, 3) := by decide +kernel
theorem dX11_plan_92 : decode cX11_plan 92 = .ok (.aload_n 0, 1) := by decide +kernel
theorem dX11_plan_93 : decode cX11_plan 93 = .ok (.iload 6, 2) := by decide +kernel
theorem dX11_plan_95 : decode cX11_plan 95 = .ok (.iload_n 1, 1) := by decide +kernel
theorem dX11_plan_96 : decode cX11_plan 96 = .ok (.aload 4, 2) := by decide +kernel
theorem dX11_plan_98 : decode cX11_plan 98 = .ok (.invokevirtual 203, 3) := by decide +kernel
theorem dX11_plan_101 : decode cX11_plan 101 = .ok (.ireturn, 1) := by decide +kernel
theorem dX11_ever_0 : decode cX11_ever 0 = .ok (.aload_n 0, 1) := by decide +kernel
theorem dX11_ever_1 : decode cX11_ever 1 = .ok (.getfield 10, 3) := by decide +kernel
theorem dX11_ever_4 : decode cX11_ever 4 = .ok (.getfield 94, 3) := by decide +kernel
theorem dX11_ever_7 : decode cX11_ever 7 = .ok (.istore_n 1, 1) := by decide +kernel
theorem dX11_ever_8 : decode cX11_ever 8 = .ok (.iconst 0, 1) := by decide +kernel
theorem dX11_ever_9 : decode cX11_ever 9 = .ok (.istore_n 2, 1) := by decide +kernel
theorem dX11_ever_10 : decode cX11_ever 10 = .ok (.iload_n 2, 1) := by decide +kernel
theorem dX11_ever_11 : decode cX11_ever 11 = .ok (.bipush 10, 2) := by decide +kernel
theorem dX11_ever_13 : decode cX11_ever 13 = .ok (.if_icmp .ge 60, 3) := by decide +kernel
theorem dX11_ever_16 : decode cX11_ever 16 = .ok (.iconst 0, 1) := by decide +kernel
theorem dX11_ever_17 : decode cX11_ever 17 = .ok (.istore_n 3, 1) := by decide +kernel
theorem dX11_ever_18 : decode cX11_ever 18 = .ok (.iload_n 3, 1) := by decide +kernel
theorem dX11_ever_19 : decode cX11_ever 19 = .ok (.aload_n 0, 1) := by decide +kernel
theorem dX11_ever_20 : decode cX11_ever 20 = .ok (.getfield 10, 3) := by decide +kernel
theorem dX11_ever_23 : decode cX11_ever 23 = .ok (.getfield 207, 3) := by decide +kernel
theorem dX11_ever_26 : decode cX11_ever 26 = .ok (.if_icmp .ge 41, 3) := by decide +kernel
theorem dX11_ever_29 : decode cX11_ever 29 = .ok (.aload_n 0, 1) := by decide +kernel
theorem dX11_ever_30 : decode cX11_ever 30 = .ok (.getfield 10, 3) := by decide +kernel
theorem dX11_ever_33 : decode cX11_ever 33 = .ok (.iload_n 3, 1) := by decide +kernel
theorem dX11_ever_34 : decode cX11_ever 34 = .ok (.invokevirtual 62, 3) := by decide +kernel
theorem dX11_ever_37 : decode cX11_ever 37 = .ok (.astore 4, 2) := by decide +kernel
theorem dX11_ever_39 : decode cX11_ever 39 = .ok (.aload 4, 2) := by decide +kernel
theorem dX11_ever_41 : decode cX11_ever 41 = .ok (.ifnull 20, 3) := by decide +kernel
theorem dX11_ever_44 : decode cX11_ever 44 = .ok (.aload 4, 2) := by decide +kernel
theorem dX11_ever_46 : decode cX11_ever 46 = .ok (.iload_n 1, 1) := by decide +kernel
theorem dX11_ever_47 : decode cX11_ever 47 = .ok (.invokevirtual 210, 3) := by decide +kernel
theorem dX11_ever_50 : decode cX11_ever 50 = .ok (.ifCond .eq 11, 3) := by decide +kernel
theorem dX11_ever_53 : decode cX11_ever 53 = .ok (.iload_n 1, 1) := by decide +kernel
theorem dX11_ever_54 : decode cX11_ever 54 = .ok (.aload 4, 2) := by decide +kernel
theorem dX11_ever_56 : decode cX11_ever 56 = .ok (.getfield 213, 3) := by decide +kernel
theorem dX11_ever_59 : decode cX11_ever 59 = .ok (.ior, 1) := by decide +kernel
theorem dX11_ever_60 : decode cX11_ever 60 = .ok (.istore_n 1, 1) := by decide +kernel
theorem dX11_ever_61 : decode cX11_ever 61 = .ok (.iinc 3 1, 3) := by decide +kernel
theorem dX11_ever_64 : decode cX11_ever 64 = .ok (.goto (-46), 3) := by decide +kernel
theorem dX11_ever_67 : decode cX11_ever 67 = .ok (.iinc 2 1, 3) := by decide +kernel
theorem dX11_ever_70 : decode cX11_ever 70 = .ok (.goto (-60), 3) := by decide +kernel
theorem dX11_ever_73 : decode cX11_ever 73 = .ok (.iload_n 1, 1) := by decide +kernel
theorem dX11_ever_74 : decode cX11_ever 74 = .ok (.ireturn, 1) := by decide +kernel
theorem dX11_help_0 : decode cX11_help 0 = .ok (.iconst 0, 1) := by decide +kernel
theorem dX11_help_1 : decode cX11_help 1 = .ok (.istore_n 1, 1) := by decide +kernel
theorem dX11_help_2 : decode cX11_help 2 = .ok (.iconst 0, 1) := by decide +kernel
theorem dX11_help_3 : decode cX11_help 3 = .ok (.istore_n 2, 1) := by decide +kernel
theorem dX11_help_4 : decode cX11_help 4 = .ok (.iload_n 2, 1) := by decide +kernel
theorem dX11_help_5 : decode cX11_help 5 = .ok (.aload_n 0, 1) := by decide +kernel
theorem dX11_help_6 : decode cX11_help 6 = .ok (.getfield 10, 3) := by decide +kernel
theorem dX11_help_9 : decode cX11_help 9 = .ok (.getfield 207, 3) := by decide +kernel
theorem dX11_help_12 : decode cX11_help 12 = .ok (.if_icmp .ge 58, 3) := by decide +kernel
theorem dX11_help_15 : decode cX11_help 15 = .ok (.aload_n 0, 1) := by decide +kernel
theorem dX11_help_16 : decode cX11_help 16 = .ok (.getfield 10, 3) := by decide +kernel
theorem dX11_help_19 : decode cX11_help 19 = .ok (.iload_n 2, 1) := by decide +kernel
theorem dX11_help_20 : decode cX11_help 20 = .ok (.invokevirtual 62, 3) := by decide +kernel
theorem dX11_help_23 : decode cX11_help 23 = .ok (.astore_n 3, 1) := by decide +kernel
theorem dX11_help_24 : decode cX11_help 24 = .ok (.aload_n 3, 1) := by decide +kernel
theorem dX11_help_25 : decode cX11_help 25 = .ok (.ifnull 39, 3) := by decide +kernel
theorem dX11_help_28 : decode cX11_help 28 = .ok (.aload_n 3, 1) := by decide +kernel
theorem dX11_help_29 : decode cX11_help 29 = .ok (.aload_n 0, 1) := by decide +kernel
theorem dX11_help_30 : decode cX11_help 30 = .ok (.getfield 10, 3) := by decide +kernel
theorem dX11_help_33 : decode cX11_help 33 = .ok (.getfield 94, 3) := by decide +kernel
theorem dX11_help_36 : decode cX11_help 36 = .ok (.aload_n 0, 1) := by decide +kernel
theorem dX11_help_37 : decode cX11_help 37 = .ok (.getfield 10, 3) := by decide +kernel
theorem dX11_help_40 : decode cX11_help 40 = .ok (.getfield 97, 3) := by decide +kernel
theorem dX11_help_43 : decode cX11_help 43 = .ok (.invokevirtual 122, 3) := by decide +kernel
theorem dX11_help_46 : decode cX11_help 46 = .ok (.ifCond .eq 18, 3) := by decide +kernel
theorem dX11_help_49 : decode cX11_help 49 = .ok (.iload_n 1, 1) := by decide +kernel
theorem dX11_help_50 : decode cX11_help 50 = .ok (.aload_n 0, 1) := by decide +kernel
theorem dX11_help_51 : decode cX11_help 51 = .ok (.getfield 10, 3) := by decide +kernel
theorem dX11_help_54 : decode cX11_help 54 = .ok (.getfield 94, 3) := by decide +kernel
theorem dX11_help_57 : decode cX11_help 57 = .ok (.aload_n 3, 1) := by decide +kernel
theorem dX11_help_58 : decode cX11_help 58 = .ok (.getfield 216, 3) := by decide +kernel
theorem dX11_help_61 : decode cX11_help 61 = .ok (.iand, 1) := by decide +kernel
theorem dX11_help_62 : decode cX11_help 62 = .ok (.ior, 1) := by decide +kernel
theorem dX11_help_63 : decode cX11_help 63 = .ok (.istore_n 1, 1) := by decide +kernel
theorem dX11_help_64 : decode cX11_help 64 = .ok (.iinc 2 1, 3) := by decide +kernel
theorem dX11_help_67 : decode cX11_help 67 = .ok (.goto (-63), 3) := by decide +kernel
theorem dX11_help_70 : decode cX11_help 70 = .ok (.iload_n 1, 1) := by decide +kernel
theorem dX11_help_71 : decode cX11_help 71 = .ok (.ireturn, 1) := by decide +kernel
theorem dX11_two_0 : decode cX11_two 0 = .ok (.aload_n 0, 1) := by decide +kernel
theorem dX11_two_1 : decode cX11_two 1 = .ok (.iload_n 1, 1) := by decide +kernel
theorem dX11_two_2 : decode cX11_two 2 = .ok (.invokevirtual 46, 3) := by decide +kernel
theorem dX11_two_5 : decode cX11_two 5 = .ok (.astore 6, 2) := by decide +kernel
theorem dX11_two_7 : decode cX11_two 7 = .ok (.aload_n 0, 1) := by decide +kernel
theorem dX11_two_8 : decode cX11_two 8 = .ok (.iload_n 2, 1) := by decide +kernel
theorem dX11_two_9 : decode cX11_two 9 = .ok (.invokevirtual 46, 3) := by decide +kernel
theorem dX11_two_12 : decode cX11_two 12 = .ok (.astore 7, 2) := by decide +kernel
theorem dX11_two_14 : decode cX11_two 14 = .ok (.aload 6, 2) := by decide +kernel
theorem dX11_two_16 : decode cX11_two 16 = .ok (.ifnull 34, 3) := by decide +kernel
theorem dX11_two_19 : decode cX11_two 19 = .ok (.aload 7, 2) := by decide +kernel
theorem dX11_two_21 : decode cX11_two 21 = .ok (.ifnull 29, 3) := by decide +kernel
theorem dX11_two_24 : decode cX11_two 24 = .ok (.iload_n 3, 1) := by decide +kernel
theorem dX11_two_25 : decode cX11_two 25 = .ok (.invokestatic 219, 3) := by decide +kernel
theorem dX11_two_28 : decode cX11_two 28 = .ok (.ifCond .eq 22, 3) := by decide +kernel
theorem dX11_two_31 : decode cX11_two 31 = .ok (.iload 4, 2) := by decide +kernel
theorem dX11_two_33 : decode cX11_two 33 = .ok (.invokestatic 219, 3) := by decide +kernel
theorem dX11_two_36 : decode cX11_two 36 = .ok (.ifCond .eq 14, 3) := by decide +kernel
theorem dX11_two_39 : decode cX11_two 39 = .ok (.iload 5, 2) := by decide +kernel
theorem dX11_two_41 : decode cX11_two 41 = .ok (.ifCond .lt 9, 3) := by decide +kernel
theorem dX11_two_44 : decode cX11_two 44 = .ok (.iload 5, 2) := by decide +kernel
theorem dX11_two_46 : decode cX11_two 46 = .ok (.iconst 1, 1) := by decide +kernel
theorem dX11_two_47 : decode cX11_two 47 = .ok (.if_icmp .le 5, 3) := by decide +kernel
theorem dX11_two_50 : decode cX11_two 50 = .ok (.iconst (-1), 1) := by decide +kernel
theorem dX11_two_51 : decode cX11_two 51 = .ok (.ireturn, 1) := by decide +kernel
theorem dX11_two_52 : decode cX11_two 52 = .ok (.aload_n 0, 1) := by decide +kernel
theorem dX11_two_53 : decode cX11_two 53 = .ok (.iload_n 1, 1) := by decide +kernel
theorem dX11_two_54 : decode cX11_two 54 = .ok (.invokevirtual 179, 3) := by decide +kernel
theorem dX11_two_57 : decode cX11_two 57 = .ok (.istore 8, 2) := by decide +kernel
theorem dX11_two_59 : decode cX11_two 59 = .ok (.iload 8, 2) := by decide +kernel
theorem dX11_two_61 : decode cX11_two 61 = .ok (.ifCond .ne 10, 3) := by decide +kernel
theorem dX11_two_64 : decode cX11_two 64 = .ok (.aload_n 0, 1) := by decide +kernel
theorem dX11_two_65 : decode cX11_two 65 = .ok (.iload_n 2, 1) := by decide +kernel
theorem dX11_two_66 : decode cX11_two 66 = .ok (.invokevirtual 179, 3) := by decide +kernel
theorem dX11_two_69 : decode cX11_two 69 = .ok (.istore 8, 2) := by decide +kernel
theorem dX11_two_71 : decode cX11_two 71 = .ok (.iload 8, 2) := by decide +kernel
theorem dX11_two_73 : decode cX11_two 73 = .ok (.ifCond .eq 6, 3) := by decide +kernel
theorem dX11_two_76 : decode cX11_two 76 = .ok (.iload 8, 2) := by decide +kernel
theorem dX11_two_78 : decode cX11_two 78 = .ok (.ireturn, 1) := by decide +kernel
theorem dX11_two_79 : decode cX11_two 79 = .ok (.aload_n 0, 1) := by decide +kernel
theorem dX11_two_80 : decode cX11_two 80 = .ok (.aload 6, 2) := by decide +kernel
theorem dX11_two_82 : decode cX11_two 82 = .ok (.aload 7, 2) := by decide +kernel
theorem dX11_two_84 : decode cX11_two 84 = .ok (.iload_n 3, 1) := by decide +kernel
theorem dX11_two_85 : decode cX11_two 85 = .ok (.iload 4, 2) := by decide +kernel
theorem dX11_two_87 : decode cX11_two 87 = .ok (.invokevirtual 222, 3) := by decide +kernel
theorem dX11_two_90 : decode cX11_two 90 = .ok (.istore 9, 2) := by decide +kernel
theorem dX11_two_92 : decode cX11_two 92 = .ok (.aload_n 0, 1) := by decide +kernel
theorem dX11_two_93 : decode cX11_two 93 = .ok (.getfield 25, 3) := by decide +kernel
theorem dX11_two_96 : decode cX11_two 96 = .ok (.invokevirtual 134, 3) := by decide +kernel
theorem dX11_two_99 : decode cX11_two 99 = .ok (.iload 5, 2) := by decide +kernel
theorem dX11_two_101 : decode cX11_two 101 = .ok (.ifCond .ne 8, 3) := by decide +kernel
theorem dX11_two_104 : decode cX11_two 104 = .ok (.iload 9, 2) := by decide +kernel
theorem dX11_two_106 : decode cX11_two 106 = .ok (.goto 7, 3) := by decide +kernel
theorem dX11_two_109 : decode cX11_two 109 = .ok (.iload 9, 2) := by decide +kernel
theorem dX11_two_111 : decode cX11_two 111 = .ok (.iconst (-1), 1) := by decide +kernel
theorem dX11_two_112 : decode cX11_two 112 = .ok (.ixor, 1) := by decide +kernel
theorem dX11_two_113 : decode cX11_two 113 = .ok (.iand, 1) := by decide +kernel
theorem dX11_two_114 : decode cX11_two 114 = .ok (.invokestatic 137, 3) := by decide +kernel
theorem dX11_two_117 : decode cX11_two 117 = .ok (.ireturn, 1) := by decide +kernel
theorem dX11_month_0 : decode cX11_month 0 = .ok (.iconst 0, 1) := by decide +kernel
theorem dX11_month_1 : decode cX11_month 1 = .ok (.istore_n 1, 1) := by decide +kernel
theorem dX11_month_2 : decode cX11_month 2 = .ok (.iconst 1, 1) := by decide +kernel
theorem dX11_month_3 : decode cX11_month 3 = .ok (.istore_n 2, 1) := by decide +kernel
theorem dX11_month_4 : decode cX11_month 4 = .ok (.iload_n 2, 1) := by decide +kernel
theorem dX11_month_5 : decode cX11_month 5 = .ok (.bipush 8, 2) := by decide +kernel
theorem dX11_month_7 : decode cX11_month 7 = .ok (.if_icmp .ge 30, 3) := by decide +kernel
theorem dX11_month_10 : decode cX11_month 10 = .ok (.aload_n 0, 1) := by decide +kernel
theorem dX11_month_11 : decode cX11_month 11 = .ok (.getfield 10, 3) := by decide +kernel
theorem dX11_month_14 : decode cX11_month 14 = .ok (.iload_n 2, 1) := by decide +kernel
theorem dX11_month_15 : decode cX11_month 15 = .ok (.invokevirtual 226, 3) := by decide +kernel
theorem dX11_month_18 : decode cX11_month 18 = .ok (.aload_n 0, 1) := by decide +kernel
theorem dX11_month_19 : decode cX11_month 19 = .ok (.getfield 10, 3) := by decide +kernel
theorem dX11_month_22 : decode cX11_month 22 = .ok (.iload_n 1, 1) := by decide +kernel
theorem dX11_month_23 : decode cX11_month 23 = .ok (.invokevirtual 226, 3) := by decide +kernel
theorem dX11_month_26 : decode cX11_month 26 = .ok (.if_icmp .ge 5, 3) := by decide +kernel
theorem dX11_month_29 : decode cX11_month 29 = .ok (.iload_n 2, 1) := by decide +kernel
theorem dX11_month_30 : decode cX11_month 30 = .ok (.istore_n 1, 1) := by decide +kernel
theorem dX11_month_31 : decode cX11_month 31 = .ok (.iinc 2 1, 3) := by decide +kernel
theorem dX11_month_34 : decode cX11_month 34 = .ok (.goto (-30), 3) := by decide +kernel
theorem dX11_month_37 : decode cX11_month 37 = .ok (.iload_n 1, 1) := by decide +kernel
theorem dX11_month_38 : decode cX11_month 38 = .ok (.ireturn, 1) := by decide +kernel
theorem dX11_nail_0 : decode cX11_nail 0 = .ok (.iload_n 1, 1) := by decide +kernel
theorem dX11_nail_1 : decode cX11_nail 1 = .ok (.ifCond .lt 9, 3) := by decide +kernel
theorem dX11_nail_4 : decode cX11_nail 4 = .ok (.iload_n 1, 1) := by decide +kernel
theorem dX11_nail_5 : decode cX11_nail 5 = .ok (.bipush 8, 2) := by decide +kernel
theorem dX11_nail_7 : decode cX11_nail 7 = .ok (.if_icmp .lt 7, 3) := by decide +kernel
theorem dX11_nail_10 : decode cX11_nail 10 = .ok (.iconst (-1), 1) := by decide +kernel
theorem dX11_nail_11 : decode cX11_nail 11 = .ok (.goto 11, 3) := by decide +kernel
theorem dX11_nail_14 : decode cX11_nail 14 = .ok (.aload_n 0, 1) := by decide +kernel
theorem dX11_nail_15 : decode cX11_nail 15 = .ok (.getfield 10, 3) := by decide +kernel
theorem dX11_nail_18 : decode cX11_nail 18 = .ok (.iload_n 1, 1) := by decide +kernel
theorem dX11_nail_19 : decode cX11_nail 19 = .ok (.invokevirtual 226, 3) := by decide +kernel
theorem dX11_nail_22 : decode cX11_nail 22 = .ok (.ireturn, 1) := by decide +kernel
theorem dX11_byLaw_0 : decode cX11_byLaw 0 = .ok (.iload_n 1, 1) := by decide +kernel
theorem dX11_byLaw_1 : decode cX11_byLaw 1 = .ok (.ifCond .lt 15, 3) := by decide +kernel
theorem dX11_byLaw_4 : decode cX11_byLaw 4 = .ok (.iload_n 1, 1) := by decide +kernel
theorem dX11_byLaw_5 : decode cX11_byLaw 5 = .ok (.iconst 3, 1) := by decide +kernel
theorem dX11_byLaw_6 : decode cX11_byLaw 6 = .ok (.if_icmp .ge 10, 3) := by decide +kernel
theorem dX11_byLaw_9 : decode cX11_byLaw 9 = .ok (.iload_n 3, 1) := by decide +kernel
theorem dX11_byLaw_10 : decode cX11_byLaw 10 = .ok (.invokestatic 219, 3) := by decide +kernel
theorem dX11_byLaw_13 : decode cX11_byLaw 13 = .ok (.ifCond .ne 5, 3) := by decide +kernel
theorem dX11_byLaw_16 : decode cX11_byLaw 16 = .ok (.iconst (-1), 1) := by decide +kernel
theorem dX11_byLaw_17 : decode cX11_byLaw 17 = .ok (.ireturn, 1) := by decide +kernel
theorem dX11_byLaw_18 : decode cX11_byLaw 18 = .ok (.aload_n 0, 1) := by decide +kernel
theorem dX11_byLaw_19 : decode cX11_byLaw 19 = .ok (.iload_n 2, 1) := by decide +kernel
theorem dX11_byLaw_20 : decode cX11_byLaw 20 = .ok (.invokevirtual 142, 3) := by decide +kernel
theorem dX11_byLaw_23 : decode cX11_byLaw 23 = .ok (.istore 4, 2) := by decide +kernel
theorem dX11_byLaw_25 : decode cX11_byLaw 25 = .ok (.iload 4, 2) := by decide +kernel
theorem dX11_byLaw_27 : decode cX11_byLaw 27 = .ok (.ifCond .eq 6, 3) := by decide +kernel
theorem dX11_byLaw_30 : decode cX11_byLaw 30 = .ok (.iload 4, 2) := by decide +kernel
theorem dX11_byLaw_32 : decode cX11_byLaw 32 = .ok (.ireturn, 1) := by decide +kernel
theorem dX11_byLaw_33 : decode cX11_byLaw 33 = .ok (.aload_n 0, 1) := by decide +kernel
theorem dX11_byLaw_34 : decode cX11_byLaw 34 = .ok (.getfield 25, 3) := by decide +kernel
theorem dX11_byLaw_37 : decode cX11_byLaw 37 = .ok (.iload_n 1, 1) := by decide +kernel
theorem dX11_byLaw_38 : decode cX11_byLaw 38 = .ok (.putfield 229, 3) := by decide +kernel
theorem dX11_byLaw_41 : decode cX11_byLaw 41 = .ok (.aload_n 0, 1) := by decide +kernel
theorem dX11_byLaw_42 : decode cX11_byLaw 42 = .ok (.getfield 25, 3) := by decide +kernel
theorem dX11_byLaw_45 : decode cX11_byLaw 45 = .ok (.iload_n 3, 1) := by decide +kernel
theorem dX11_byLaw_46 : decode cX11_byLaw 46 = .ok (.invokevirtual 176, 3) := by decide +kernel
theorem dX11_byLaw_49 : decode cX11_byLaw 49 = .ok (.aload_n 0, 1) := by decide +kernel
theorem dX11_byLaw_50 : decode cX11_byLaw 50 = .ok (.getfield 25, 3) := by decide +kernel
theorem dX11_byLaw_53 : decode cX11_byLaw 53 = .ok (.getfield 155, 3) := by decide +kernel
theorem dX11_byLaw_56 : decode cX11_byLaw 56 = .ok (.invokestatic 137, 3) := by decide +kernel
theorem dX11_byLaw_59 : decode cX11_byLaw 59 = .ok (.ireturn, 1) := by decide +kernel
theorem dX11_seeded_0 : decode cX11_seeded 0 = .ok (.iload_n 1, 1) := by decide +kernel
theorem dX11_seeded_1 : decode cX11_seeded 1 = .ok (.iconst 1, 1) := by decide +kernel
theorem dX11_seeded_2 : decode cX11_seeded 2 = .ok (.if_icmp .lt 18, 3) := by decide +kernel
theorem dX11_seeded_5 : decode cX11_seeded 5 = .ok (.iload_n 1, 1) := by decide +kernel
theorem dX11_seeded_6 : decode cX11_seeded 6 = .ok (.bipush 30, 2) := by decide +kernel
theorem dX11_seeded_8 : decode cX11_seeded 8 = .ok (.if_icmp .gt 12, 3) := by decide +kernel
theorem dX11_seeded_11 : decode cX11_seeded 11 = .ok (.iload_n 3, 1) := by decide +kernel
theorem dX11_seeded_12 : decode cX11_seeded 12 = .ok (.ifCond .lt 8, 3) := by decide +kernel
theorem dX11_seeded_15 : decode cX11_seeded 15 = .ok (.iload_n 3, 1) := by decide +kernel
theorem dX11_seeded_16 : decode cX11_seeded 16 = .ok (.iconst 2, 1) := by decide +kernel
theorem dX11_seeded_17 : decode cX11_seeded 17 = .ok (.if_icmp .le 5, 3) := by decide +kernel
theorem dX11_seeded_20 : decode cX11_seeded 20 = .ok (.iconst (-1), 1) := by decide +kernel
theorem dX11_seeded_21 : decode cX11_seeded 21 = .ok (.ireturn, 1) := by decide +kernel
theorem dX11_seeded_22 : decode cX11_seeded 22 = .ok (.aload_n 0, 1) := by decide +kernel
theorem dX11_seeded_23 : decode cX11_seeded 23 = .ok (.getfield 10, 3) := by decide +kernel
theorem dX11_seeded_26 : decode cX11_seeded 26 = .ok (.getfield 207, 3) := by decide +kernel
theorem dX11_seeded_29 : decode cX11_seeded 29 = .ok (.ifCond .ne 6, 3) := by decide +kernel
theorem dX11_seeded_32 : decode cX11_seeded 32 = .ok (.bipush (-3), 2) := by decide +kernel
theorem dX11_seeded_34 : decode cX11_seeded 34 = .ok (.ireturn, 1) := by decide +kernel
theorem dX11_seeded_35 : decode cX11_seeded 35 = .ok (.aload_n 0, 1) := by decide +kernel
theorem dX11_seeded_36 : decode cX11_seeded 36 = .ok (.iload_n 1, 1) := by decide +kernel
theorem dX11_seeded_37 : decode cX11_seeded 37 = .ok (.iload_n 2, 1) := by decide +kernel
theorem dX11_seeded_38 : decode cX11_seeded 38 = .ok (.invokevirtual 230, 3) := by decide +kernel
theorem dX11_seeded_41 : decode cX11_seeded 41 = .ok (.istore 4, 2) := by decide +kernel
theorem dX11_seeded_43 : decode cX11_seeded 43 = .ok (.iload_n 3, 1) := by decide +kernel
theorem dX11_seeded_44 : decode cX11_seeded 44 = .ok (.ifCond .ne 13, 3) := by decide +kernel
theorem dX11_seeded_47 : decode cX11_seeded 47 = .ok (.aload_n 0, 1) := by decide +kernel
theorem dX11_seeded_48 : decode cX11_seeded 48 = .ok (.getfield 25, 3) := by decide +kernel
theorem dX11_seeded_51 : decode cX11_seeded 51 = .ok (.getfield 155, 3) := by decide +kernel
theorem dX11_seeded_54 : decode cX11_seeded 54 = .ok (.goto 20, 3) := by decide +kernel
theorem dX11_seeded_57 : decode cX11_seeded 57 = .ok (.iload_n 3, 1) := by decide +kernel
theorem dX11_seeded_58 : decode cX11_seeded 58 = .ok (.iconst 1, 1) := by decide +kernel
theorem dX11_seeded_59 : decode cX11_seeded 59 = .ok (.if_icmp .ne 13, 3) := by decide +kernel
theorem dX11_seeded_62 : decode cX11_seeded 62 = .ok (.aload_n 0, 1) := by decide +kernel
theorem dX11_seeded_63 : decode cX11_seeded 63 = .ok (.getfield 25, 3) := by decide +kernel
theorem dX11_seeded_66 : decode cX11_seeded 66 = .ok (.getfield 162, 3) := by decide +kernel
theorem dX11_seeded_69 : decode cX11_seeded 69 = .ok (.goto 5, 3) := by decide +kernel
theorem dX11_seeded_72 : decode cX11_seeded 72 = .ok (.iload 4, 2) := by decide +kernel
theorem dX11_seeded_74 : decode cX11_seeded 74 = .ok (.ireturn, 1) := by decide +kernel
theorem dX11_judge_0 : decode cX11_judge 0 = .ok (.aload_n 0, 1) := by decide +kernel
theorem dX11_judge_1 : decode cX11_judge 1 = .ok (.iload_n 3, 1) := by decide +kernel
theorem dX11_judge_2 : decode cX11_judge 2 = .ok (.invokevirtual 46, 3) := by decide +kernel
theorem dX11_judge_5 : decode cX11_judge 5 = .ok (.astore 4, 2) := by decide +kernel
theorem dX11_judge_7 : decode cX11_judge 7 = .ok (.aload 4, 2) := by decide +kernel
theorem dX11_judge_9 : decode cX11_judge 9 = .ok (.ifnull 10, 3) := by decide +kernel
theorem dX11_judge_12 : decode cX11_judge 12 = .ok (.iload_n 2, 1) := by decide +kernel
theorem dX11_judge_13 : decode cX11_judge 13 = .ok (.invokestatic 219, 3) := by decide +kernel
theorem dX11_judge_16 : decode cX11_judge 16 = .ok (.ifCond .ne 5, 3) := by decide +kernel
theorem dX11_judge_19 : decode cX11_judge 19 = .ok (.iconst (-1), 1) := by decide +kernel
theorem dX11_judge_20 : decode cX11_judge 20 = .ok (.ireturn, 1) := by decide +kernel
theorem dX11_judge_21 : decode cX11_judge 21 = .ok (.aload_n 0, 1) := by decide +kernel
theorem dX11_judge_22 : decode cX11_judge 22 = .ok (.iload_n 1, 1) := by decide +kernel
theorem dX11_judge_23 : decode cX11_judge 23 = .ok (.invokevirtual 142, 3) := by decide +kernel
theorem dX11_judge_26 : decode cX11_judge 26 = .ok (.istore 5, 2) := by decide +kernel
theorem dX11_judge_28 : decode cX11_judge 28 = .ok (.iload 5, 2) := by decide +kernel
theorem dX11_judge_30 : decode cX11_judge 30 = .ok (.ifCond .ne 10, 3) := by decide +kernel
theorem dX11_judge_33 : decode cX11_judge 33 = .ok (.aload 4, 2) := by decide +kernel
theorem dX11_judge_35 : decode cX11_judge 35 = .ok (.invokevirtual 188, 3) := by decide +kernel
theorem dX11_judge_38 : decode cX11_judge 38 = .ok (.istore 5, 2) := by decide +kernel
theorem dX11_judge_40 : decode cX11_judge 40 = .ok (.iload 5, 2) := by decide +kernel
theorem dX11_judge_42 : decode cX11_judge 42 = .ok (.ifCond .eq 8, 3) := by decide +kernel
theorem dX11_judge_45 : decode cX11_judge 45 = .ok (.iload 5, 2) := by decide +kernel
theorem dX11_judge_47 : decode cX11_judge 47 = .ok (.goto 10, 3) := by decide +kernel
theorem dX11_judge_50 : decode cX11_judge 50 = .ok (.aload_n 0, 1) := by decide +kernel
theorem dX11_judge_51 : decode cX11_judge 51 = .ok (.aload 4, 2) := by decide +kernel
theorem dX11_judge_53 : decode cX11_judge 53 = .ok (.iload_n 2, 1) := by decide +kernel
theorem dX11_judge_54 : decode cX11_judge 54 = .ok (.invokevirtual 233, 3) := by decide +kernel
theorem dX11_judge_57 : decode cX11_judge 57 = .ok (.ireturn, 1) := by decide +kernel
theorem dX11_image_0 : decode cX11_image 0 = .ok (.aload_n 0, 1) := by decide +kernel
theorem dX11_image_1 : decode cX11_image 1 = .ok (.getfield 16, 3) := by decide +kernel
theorem dX11_image_4 : decode cX11_image 4 = .ok (.aload_n 0, 1) := by decide +kernel
theorem dX11_image_5 : decode cX11_image 5 = .ok (.getfield 10, 3) := by decide +kernel
theorem dX11_image_8 : decode cX11_image 8 = .ok (.invokevirtual 54, 3) := by decide +kernel
theorem dX11_image_11 : decode cX11_image 11 = .ok (.aload_n 0, 1) := by decide +kernel
theorem dX11_image_12 : decode cX11_image 12 = .ok (.iconst 1, 1) := by decide +kernel
theorem dX11_image_13 : decode cX11_image 13 = .ok (.putfield 237, 3) := by decide +kernel
theorem dX11_image_16 : decode cX11_image 16 = .ok (.aload_n 0, 1) := by decide +kernel
theorem dX11_image_17 : decode cX11_image 17 = .ok (.getfield 10, 3) := by decide +kernel
theorem dX11_image_20 : decode cX11_image 20 = .ok (.getfield 100, 3) := by decide +kernel
theorem dX11_image_23 : decode cX11_image 23 = .ok (.ireturn, 1) := by decide +kernel
theorem dX11_restore_0 : decode cX11_restore 0 = .ok (.aload_n 0, 1) := by decide +kernel
theorem dX11_restore_1 : decode cX11_restore 1 = .ok (.getfield 237, 3) := by decide +kernel
theorem dX11_restore_4 : decode cX11_restore 4 = .ok (.ifCond .ne 6, 3) := by decide +kernel
theorem dX11_restore_7 : decode cX11_restore 7 = .ok (.bipush (-3), 2) := by decide +kernel
theorem dX11_restore_9 : decode cX11_restore 9 = .ok (.ireturn, 1) := by decide +kernel
theorem dX11_restore_10 : decode cX11_restore 10 = .ok (.aload_n 0, 1) := by decide +kernel
theorem dX11_restore_11 : decode cX11_restore 11 = .ok (.getfield 10, 3) := by decide +kernel
theorem dX11_restore_14 : decode cX11_restore 14 = .ok (.aload_n 0, 1) := by decide +kernel
theorem dX11_restore_15 : decode cX11_restore 15 = .ok (.getfield 16, 3) := by decide +kernel
theorem dX11_restore_18 : decode cX11_restore 18 = .ok (.invokevirtual 54, 3) := by decide +kernel
theorem dX11_restore_21 : decode cX11_restore 21 = .ok (.aload_n 0, 1) := by decide +kernel
theorem dX11_restore_22 : decode cX11_restore 22 = .ok (.getfield 10, 3) := by decide +kernel
theorem dX11_restore_25 : decode cX11_restore 25 = .ok (.getfield 100, 3) := by decide +kernel
theorem dX11_restore_28 : decode cX11_restore 28 = .ok (.ireturn, 1) := by decide +kernel
theorem dX11_count_0 : decode cX11_count 0 = .ok (.iload_n 1, 1) := by decide +kernel
theorem dX11_count_1 : decode cX11_count 1 = .ok (.ifCond .ne 11, 3) := by decide +kernel
theorem dX11_count_4 : decode cX11_count 4 = .ok (.aload_n 0, 1) := by decide +kernel
theorem dX11_count_5 : decode cX11_count 5 = .ok (.getfield 10, 3) := by decide +kernel
theorem dX11_count_8 : decode cX11_count 8 = .ok (.getfield 207, 3) := by decide +kernel
theorem dX11_count_11 : decode cX11_count 11 = .ok (.ireturn, 1) := by decide +kernel
theorem dX11_count_12 : decode cX11_count 12 = .ok (.iload_n 1, 1) := by decide +kernel
theorem dX11_count_13 : decode cX11_count 13 = .ok (.iconst 1, 1) := by decide +kernel
theorem dX11_count_14 : decode cX11_count 14 = .ok (.if_icmp .ne 14, 3) := by decide +kernel
theorem dX11_count_17 : decode cX11_count 17 = .ok (.aload_n 0, 1) := by decide +kernel
theorem dX11_count_18 : decode cX11_count 18 = .ok (.getfield 10, 3) := by decide +kernel
theorem dX11_count_21 : decode cX11_count 21 = .ok (.getfield 94, 3) := by decide +kernel
theorem dX11_count_24 : decode cX11_count 24 = .ok (.invokestatic 137, 3) := by decide +kernel
theorem dX11_count_27 : decode cX11_count 27 = .ok (.ireturn, 1) := by decide +kernel
theorem dX11_count_28 : decode cX11_count 28 = .ok (.iload_n 1, 1) := by decide +kernel
theorem dX11_count_29 : decode cX11_count 29 = .ok (.ifCond .lt 8, 3) := by decide +kernel
theorem dX11_count_32 : decode cX11_count 32 = .ok (.iload_n 1, 1) := by decide +kernel
theorem dX11_count_33 : decode cX11_count 33 = .ok (.iconst 5, 1) := by decide +kernel
theorem dX11_count_34 : decode cX11_count 34 = .ok (.if_icmp .le 5, 3) := by decide +kernel
theorem dX11_count_37 : decode cX11_count 37 = .ok (.iconst (-1), 1) := by decide +kernel
theorem dX11_count_38 : decode cX11_count 38 = .ok (.ireturn, 1) := by decide +kernel
theorem dX11_count_39 : decode cX11_count 39 = .ok (.iconst 0, 1) := by decide +kernel
theorem dX11_count_40 : decode cX11_count 40 = .ok (.istore_n 2, 1) := by decide +kernel
theorem dX11_count_41 : decode cX11_count 41 = .ok (.iconst 0, 1) := by decide +kernel
theorem dX11_count_42 : decode cX11_count 42 = .ok (.istore_n 3, 1) := by decide +kernel
theorem dX11_count_43 : decode cX11_count 43 = .ok (.iload_n 3, 1) := by decide +kernel
theorem dX11_count_44 : decode cX11_count 44 = .ok (.aload_n 0, 1) := by decide +kernel
theorem dX11_count_45 : decode cX11_count 45 = .ok (.getfield 10, 3) := by decide +kernel
theorem dX11_count_48 : decode cX11_count 48 = .ok (.getfield 207, 3) := by decide +kernel
theorem dX11_count_51 : decode cX11_count 51 = .ok (.if_icmp .ge 25, 3) := by decide +kernel
theorem dX11_count_54 : decode cX11_count 54 = .ok (.iload_n 2, 1) := by decide +kernel
theorem dX11_count_55 : decode cX11_count 55 = .ok (.aload_n 0, 1) := by decide +kernel
theorem dX11_count_56 : decode cX11_count 56 = .ok (.aload_n 0, 1) := by decide +kernel
theorem dX11_count_57 : decode cX11_count 57 = .ok (.getfield 10, 3) := by decide +kernel
theorem dX11_count_60 : decode cX11_count 60 = .ok (.iload_n 3, 1) := by decide +kernel
theorem dX11_count_61 : decode cX11_count 61 = .ok (.invokevirtual 62, 3) := by decide +kernel
theorem dX11_count_64 : decode cX11_count 64 = .ok (.iload_n 1, 1) := by decide +kernel
theorem dX11_count_65 : decode cX11_count 65 = .ok (.invokevirtual 240, 3) := by decide +kernel
theorem dX11_count_68 : decode cX11_count 68 = .ok (.iadd, 1) := by decide +kernel
theorem dX11_count_69 : decode cX11_count 69 = .ok (.istore_n 2, 1) := by decide +kernel
theorem dX11_count_70 : decode cX11_count 70 = .ok (.iinc 3 1, 3) := by decide +kernel
theorem dX11_count_73 : decode cX11_count 73 = .ok (.goto (-30), 3) := by decide +kernel
theorem dX11_count_76 : decode cX11_count 76 = .ok (.iload_n 2, 1) := by decide +kernel
theorem dX11_count_77 : decode cX11_count 77 = .ok (.ireturn, 1) := by decide +kernel
theorem dX11_keep_0 : decode cX11_keep 0 = .ok (.aload_n 0, 1) := by decide +kernel
theorem dX11_keep_1 : decode cX11_keep 1 = .ok (.iload_n 1, 1) := by decide +kernel
theorem dX11_keep_2 : decode cX11_keep 2 = .ok (.invokevirtual 46, 3) := by decide +kernel
theorem dX11_keep_5 : decode cX11_keep 5 = .ok (.astore 4, 2) := by decide +kernel
theorem dX11_keep_7 : decode cX11_keep 7 = .ok (.aload 4, 2) := by decide +kernel
theorem dX11_keep_9 : decode cX11_keep 9 = .ok (.ifnull 12, 3) := by decide +kernel
theorem dX11_keep_12 : decode cX11_keep 12 = .ok (.iload_n 2, 1) := by decide +kernel
theorem dX11_keep_13 : decode cX11_keep 13 = .ok (.ifCond .lt 8, 3) := by decide +kernel
theorem dX11_keep_16 : decode cX11_keep 16 = .ok (.iload_n 2, 1) := by decide +kernel
theorem dX11_keep_17 : decode cX11_keep 17 = .ok (.iconst 1, 1) := by decide +kernel
theorem dX11_keep_18 : decode cX11_keep 18 = .ok (.if_icmp .le 5, 3) := by decide +kernel
theorem dX11_keep_21 : decode cX11_keep 21 = .ok (.iconst (-1), 1) := by decide +kernel
theorem dX11_keep_22 : decode cX11_keep 22 = .ok (.ireturn, 1) := by decide +kernel
theorem dX11_keep_23 : decode cX11_keep 23 = .ok (.iload_n 2, 1) := by decide +kernel
theorem dX11_keep_24 : decode cX11_keep 24 = .ok (.iconst 1, 1) := by decide +kernel
theorem dX11_keep_25 : decode cX11_keep 25 = .ok (.if_icmp .ne 14, 3) := by decide +kernel
theorem dX11_keep_28 : decode cX11_keep 28 = .ok (.aload_n 0, 1) := by decide +kernel
theorem dX11_keep_29 : decode cX11_keep 29 = .ok (.getfield 10, 3) := by decide +kernel
theorem dX11_keep_32 : decode cX11_keep 32 = .ok (.iload_n 3, 1) := by decide +kernel
theorem dX11_keep_33 : decode cX11_keep 33 = .ok (.invokevirtual 62, 3) := by decide +kernel
theorem dX11_keep_36 : decode cX11_keep 36 = .ok (.goto 4, 3) := by decide +kernel
theorem dX11_keep_39 : decode cX11_keep 39 = .ok (.aconst_null, 1) := by decide +kernel
theorem dX11_keep_40 : decode cX11_keep 40 = .ok (.astore 5, 2) := by decide +kernel
theorem dX11_keep_42 : decode cX11_keep 42 = .ok (.iload_n 2, 1) := by decide +kernel
theorem dX11_keep_43 : decode cX11_keep 43 = .ok (.iconst 1, 1) := by decide +kernel
theorem dX11_keep_44 : decode cX11_keep 44 = .ok (.if_icmp .ne 10, 3) := by decide +kernel
theorem dX11_keep_47 : decode cX11_keep 47 = .ok (.aload 5, 2) := by decide +kernel
theorem dX11_keep_49 : decode cX11_keep 49 = .ok (.ifnonnull 5, 3) := by decide +kernel
theorem dX11_keep_52 : decode cX11_keep 52 = .ok (.iconst (-1), 1) := by decide +kernel
theorem dX11_keep_53 : decode cX11_keep 53 = .ok (.ireturn, 1) := by decide +kernel
theorem dX11_keep_54 : decode cX11_keep 54 = .ok (.aload 4, 2) := by decide +kernel
theorem dX11_keep_56 : decode cX11_keep 56 = .ok (.aload 5, 2) := by decide +kernel
theorem dX11_keep_58 : decode cX11_keep 58 = .ok (.invokevirtual 244, 3) := by decide +kernel
theorem dX11_keep_61 : decode cX11_keep 61 = .ok (.iconst 0, 1) := by decide +kernel
theorem dX11_keep_62 : decode cX11_keep 62 = .ok (.ireturn, 1) := by decide +kernel
theorem dX11_row_0 : decode cX11_row 0 = .ok (.aload_n 0, 1) := by decide +kernel
theorem dX11_row_1 : decode cX11_row 1 = .ok (.iload_n 1, 1) := by decide +kernel
theorem dX11_row_2 : decode cX11_row 2 = .ok (.invokevirtual 46, 3) := by decide +kernel
theorem dX11_row_5 : decode cX11_row 5 = .ok (.astore 4, 2) := by decide +kernel
theorem dX11_row_7 : decode cX11_row 7 = .ok (.aload 4, 2) := by decide +kernel
theorem dX11_row_9 : decode cX11_row 9 = .ok (.ifnull 18, 3) := by decide +kernel
theorem dX11_row_12 : decode cX11_row 12 = .ok (.iload_n 2, 1) := by decide +kernel
theorem dX11_row_13 : decode cX11_row 13 = .ok (.ifCond .lt 14, 3) := by decide +kernel
theorem dX11_row_16 : decode cX11_row 16 = .ok (.iload_n 2, 1) := by decide +kernel
theorem dX11_row_17 : decode cX11_row 17 = .ok (.iconst 2, 1) := by decide +kernel
theorem dX11_row_18 : decode cX11_row 18 = .ok (.if_icmp .gt 9, 3) := by decide +kernel
theorem dX11_row_21 : decode cX11_row 21 = .ok (.iload_n 3, 1) := by decide +kernel
theorem dX11_row_22 : decode cX11_row 22 = .ok (.bipush 100, 2) := by decide +kernel
theorem dX11_row_24 : decode cX11_row 24 = .ok (.if_icmp .le 5, 3) := by decide +kernel
theorem dX11_row_27 : decode cX11_row 27 = .ok (.iconst (-1), 1) := by decide +kernel
theorem dX11_row_28 : decode cX11_row 28 = .ok (.ireturn, 1) := by decide +kernel
theorem dX11_row_29 : decode cX11_row 29 = .ok (.iload_n 3, 1) := by decide +kernel
theorem dX11_row_30 : decode cX11_row 30 = .ok (.ifCond .ge 6, 3) := by decide +kernel
theorem dX11_row_33 : decode cX11_row 33 = .ok (.bipush (-14), 2) := by decide +kernel
theorem dX11_row_35 : decode cX11_row 35 = .ok (.ireturn, 1) := by decide +kernel
theorem dX11_row_36 : decode cX11_row 36 = .ok (.aload 4, 2) := by decide +kernel
theorem dX11_row_38 : decode cX11_row 38 = .ok (.iload_n 2, 1) := by decide +kernel
theorem dX11_row_39 : decode cX11_row 39 = .ok (.iload_n 3, 1) := by decide +kernel
theorem dX11_row_40 : decode cX11_row 40 = .ok (.invokevirtual 248, 3) := by decide +kernel
theorem dX11_row_43 : decode cX11_row 43 = .ok (.iconst 0, 1) := by decide +kernel
theorem dX11_row_44 : decode cX11_row 44 = .ok (.ireturn, 1) := by decide +kernel
theorem dX11_put_0 : decode cX11_put 0 = .ok (.aload_n 0, 1) := by decide +kernel
theorem dX11_put_1 : decode cX11_put 1 = .ok (.iload_n 1, 1) := by decide +kernel
theorem dX11_put_2 : decode cX11_put 2 = .ok (.invokevirtual 46, 3) := by decide +kernel
theorem dX11_put_5 : decode cX11_put 5 = .ok (.astore 4, 2) := by decide +kernel
theorem dX11_put_7 : decode cX11_put 7 = .ok (.aload 4, 2) := by decide +kernel
theorem dX11_put_9 : decode cX11_put 9 = .ok (.ifnonnull 5, 3) := by decide +kernel
theorem dX11_put_12 : decode cX11_put 12 = .ok (.iconst (-1), 1) := by decide +kernel
theorem dX11_put_13 : decode cX11_put 13 = .ok (.ireturn, 1) := by decide +kernel
theorem dX11_put_14 : decode cX11_put 14 = .ok (.aload 4, 2) := by decide +kernel
theorem dX11_put_16 : decode cX11_put 16 = .ok (.invokevirtual 188, 3) := by decide +kernel
theorem dX11_put_19 : decode cX11_put 19 = .ok (.istore 5, 2) := by decide +kernel
theorem dX11_put_21 : decode cX11_put 21 = .ok (.iload 5, 2) := by decide +kernel
theorem dX11_put_23 : decode cX11_put 23 = .ok (.ifCond .eq 6, 3) := by decide +kernel
theorem dX11_put_26 : decode cX11_put 26 = .ok (.iload 5, 2) := by decide +kernel
theorem dX11_put_28 : decode cX11_put 28 = .ok (.ireturn, 1) := by decide +kernel
theorem dX11_put_29 : decode cX11_put 29 = .ok (.aload 4, 2) := by decide +kernel
theorem dX11_put_31 : decode cX11_put 31 = .ok (.iload_n 2, 1) := by decide +kernel
theorem dX11_put_32 : decode cX11_put 32 = .ok (.iload_n 3, 1) := by decide +kernel
theorem dX11_put_33 : decode cX11_put 33 = .ok (.invokevirtual 251, 3) := by decide +kernel
theorem dX11_put_36 : decode cX11_put 36 = .ok (.ifCond .eq 7, 3) := by decide +kernel
theorem dX11_put_39 : decode cX11_put 39 = .ok (.iconst 0, 1) := by decide +kernel
theorem dX11_put_40 : decode cX11_put 40 = .ok (.goto 5, 3) := by decide +kernel
theorem dX11_put_43 : decode cX11_put 43 = .ok (.bipush (-13), 2) := by decide +kernel
theorem dX11_put_45 : decode cX11_put 45 = .ok (.ireturn, 1) := by decide +kernel
theorem dX11_element_0 : decode cX11_element 0 = .ok (.aload_n 0, 1) := by decide +kernel
theorem dX11_element_1 : decode cX11_element 1 = .ok (.iload_n 1, 1) := by decide +kernel
theorem dX11_element_2 : decode cX11_element 2 = .ok (.invokevirtual 46, 3) := by decide +kernel
theorem dX11_element_5 : decode cX11_element 5 = .ok (.astore_n 3, 1) := by decide +kernel
theorem dX11_element_6 : decode cX11_element 6 = .ok (.aload_n 3, 1) := by decide +kernel
theorem dX11_element_7 : decode cX11_element 7 = .ok (.ifnonnull 14, 3) := by decide +kernel
theorem dX11_element_10 : decode cX11_element 10 = .ok (.new 254, 3) := by decide +kernel
theorem dX11_element_13 : decode cX11_element 13 = .ok (.dup, 1) := by decide +kernel
theorem dX11_element_14 : decode cX11_element 14 = .ok (.ldc_w 256, 3) := by decide +kernel
theorem dX11_element_17 : decode cX11_element 17 = .ok (.invokespecial 258, 3) := by decide +kernel
theorem dX11_element_20 : decode cX11_element 20 = .ok (.athrow, 1) := by decide +kernel
theorem dX11_element_21 : decode cX11_element 21 = .ok (.aload_n 3, 1) := by decide +kernel
theorem dX11_element_22 : decode cX11_element 22 = .ok (.invokevirtual 188, 3) := by decide +kernel
theorem dX11_element_25 : decode cX11_element 25 = .ok (.ifCond .ne 11, 3) := by decide +kernel
theorem dX11_element_28 : decode cX11_element 28 = .ok (.aload_n 3, 1) := by decide +kernel
theorem dX11_element_29 : decode cX11_element 29 = .ok (.iload_n 2, 1) := by decide +kernel
theorem dX11_element_30 : decode cX11_element 30 = .ok (.invokevirtual 261, 3) := by decide +kernel
theorem dX11_element_33 : decode cX11_element 33 = .ok (.ifCond .ne 14, 3) := by decide +kernel
theorem dX11_element_36 : decode cX11_element 36 = .ok (.new 264, 3) := by decide +kernel
theorem dX11_element_39 : decode cX11_element 39 = .ok (.dup, 1) := by decide +kernel
theorem dX11_element_40 : decode cX11_element 40 = .ok (.ldc_w 266, 3) := by decide +kernel
theorem dX11_element_43 : decode cX11_element 43 = .ok (.invokespecial 268, 3) := by decide +kernel
theorem dX11_element_46 : decode cX11_element 46 = .ok (.athrow, 1) := by decide +kernel
theorem dX11_element_47 : decode cX11_element 47 = .ok (.aload_n 3, 1) := by decide +kernel
theorem dX11_element_48 : decode cX11_element 48 = .ok (.iload_n 2, 1) := by decide +kernel
theorem dX11_element_49 : decode cX11_element 49 = .ok (.invokevirtual 269, 3) := by decide +kernel
theorem dX11_element_52 : decode cX11_element 52 = .ok (.i2l, 1) := by decide +kernel
theorem dX11_element_53 : decode cX11_element 53 = .ok (.lreturn, 1) := by decide +kernel
theorem dX11_copy_0 : decode cX11_copy 0 = .ok (.aload_n 0, 1) := by decide +kernel
theorem dX11_copy_1 : decode cX11_copy 1 = .ok (.iload_n 1, 1) := by decide +kernel
theorem dX11_copy_2 : decode cX11_copy 2 = .ok (.invokevirtual 46, 3) := by decide +kernel
theorem dX11_copy_5 : decode cX11_copy 5 = .ok (.astore 6, 2) := by decide +kernel
theorem dX11_copy_7 : decode cX11_copy 7 = .ok (.aload_n 0, 1) := by decide +kernel
theorem dX11_copy_8 : decode cX11_copy 8 = .ok (.iload_n 3, 1) := by decide +kernel
theorem dX11_copy_9 : decode cX11_copy 9 = .ok (.invokevirtual 46, 3) := by decide +kernel
theorem dX11_copy_12 : decode cX11_copy 12 = .ok (.astore 7, 2) := by decide +kernel
theorem dX11_copy_14 : decode cX11_copy 14 = .ok (.aload 6, 2) := by decide +kernel
theorem dX11_copy_16 : decode cX11_copy 16 = .ok (.ifnull 8, 3) := by decide +kernel
theorem dX11_copy_19 : decode cX11_copy 19 = .ok (.aload 7, 2) := by decide +kernel
theorem dX11_copy_21 : decode cX11_copy 21 = .ok (.ifnonnull 5, 3) := by decide +kernel
theorem dX11_copy_24 : decode cX11_copy 24 = .ok (.iconst (-1), 1) := by decide +kernel
theorem dX11_copy_25 : decode cX11_copy 25 = .ok (.ireturn, 1) := by decide +kernel
theorem dX11_copy_26 : decode cX11_copy 26 = .ok (.aload 6, 2) := by decide +kernel
theorem dX11_copy_28 : decode cX11_copy 28 = .ok (.invokevirtual 271, 3) := by decide +kernel
theorem dX11_copy_31 : decode cX11_copy 31 = .ok (.ifCond .ne 11, 3) := by decide +kernel
theorem dX11_copy_34 : decode cX11_copy 34 = .ok (.aload 7, 2) := by decide +kernel
theorem dX11_copy_36 : decode cX11_copy 36 = .ok (.invokevirtual 271, 3) := by decide +kernel
theorem dX11_copy_39 : decode cX11_copy 39 = .ok (.ifCond .eq 6, 3) := by decide +kernel
theorem dX11_copy_42 : decode cX11_copy 42 = .ok (.bipush (-11), 2) := by decide +kernel
theorem dX11_copy_44 : decode cX11_copy 44 = .ok (.ireturn, 1) := by decide +kernel
theorem dX11_copy_45 : decode cX11_copy 45 = .ok (.aload 6, 2) := by decide +kernel
theorem dX11_copy_47 : decode cX11_copy 47 = .ok (.invokevirtual 188, 3) := by decide +kernel
theorem dX11_copy_50 : decode cX11_copy 50 = .ok (.ifCond .ne 24, 3) := by decide +kernel
theorem dX11_copy_53 : decode cX11_copy 53 = .ok (.aload 7, 2) := by decide +kernel
theorem dX11_copy_55 : decode cX11_copy 55 = .ok (.invokevirtual 188, 3) := by decide +kernel
theorem dX11_copy_58 : decode cX11_copy 58 = .ok (.ifCond .ne 16, 3) := by decide +kernel
theorem dX11_copy_61 : decode cX11_copy 61 = .ok (.aload 6, 2) := by decide +kernel
theorem dX11_copy_63 : decode cX11_copy 63 = .ok (.getfield 275, 3) := by decide +kernel
theorem dX11_copy_66 : decode cX11_copy 66 = .ok (.aload 7, 2) := by decide +kernel
theorem dX11_copy_68 : decode cX11_copy 68 = .ok (.getfield 275, 3) := by decide +kernel
theorem dX11_copy_71 : decode cX11_copy 71 = .ok (.if_icmp .eq 6, 3) := by decide +kernel
theorem dX11_copy_74 : decode cX11_copy 74 = .ok (.bipush (-12), 2) := by decide +kernel
theorem dX11_copy_76 : decode cX11_copy 76 = .ok (.ireturn, 1) := by decide +kernel
theorem dX11_copy_77 : decode cX11_copy 77 = .ok (.aload 6, 2) := by decide +kernel
theorem dX11_copy_79 : decode cX11_copy 79 = .ok (.iload_n 2, 1) := by decide +kernel
theorem dX11_copy_80 : decode cX11_copy 80 = .ok (.iload 5, 2) := by decide +kernel
theorem dX11_copy_82 : decode cX11_copy 82 = .ok (.invokevirtual 278, 3) := by decide +kernel
theorem dX11_copy_85 : decode cX11_copy 85 = .ok (.ifCond .eq 15, 3) := by decide +kernel
theorem dX11_copy_88 : decode cX11_copy 88 = .ok (.aload 7, 2) := by decide +kernel
theorem dX11_copy_90 : decode cX11_copy 90 = .ok (.iload 4, 2) := by decide +kernel
theorem dX11_copy_92 : decode cX11_copy 92 = .ok (.iload 5, 2) := by decide +kernel
theorem dX11_copy_94 : decode cX11_copy 94 = .ok (.invokevirtual 278, 3) := by decide +kernel
theorem dX11_copy_97 : decode cX11_copy 97 = .ok (.ifCond .ne 6, 3) := by decide +kernel
theorem dX11_copy_100 : decode cX11_copy 100 = .ok (.bipush (-13), 2) := by decide +kernel
theorem dX11_copy_102 : decode cX11_copy 102 = .ok (.ireturn, 1) := by decide +kernel
theorem dX11_copy_103 : decode cX11_copy 103 = .ok (.aload 6, 2) := by decide +kernel
theorem dX11_copy_105 : decode cX11_copy 105 = .ok (.getfield 281, 3) := by decide +kernel
theorem dX11_copy_108 : decode cX11_copy 108 = .ok (.iload_n 2, 1) := by decide +kernel
theorem dX11_copy_109 : decode cX11_copy 109 = .ok (.aload 7, 2) := by decide +kernel
theorem dX11_copy_111 : decode cX11_copy 111 = .ok (.getfield 281, 3) := by decide +kernel
theorem dX11_copy_114 : decode cX11_copy 114 = .ok (.iload 4, 2) := by decide +kernel
theorem dX11_copy_116 : decode cX11_copy 116 = .ok (.iload 5, 2) := by decide +kernel
theorem dX11_copy_118 : decode cX11_copy 118 = .ok (.invokestatic 284, 3) := by decide +kernel
theorem dX11_copy_121 : decode cX11_copy 121 = .ok (.iload 5, 2) := by decide +kernel
theorem dX11_copy_123 : decode cX11_copy 123 = .ok (.ireturn, 1) := by decide +kernel
theorem dX11_care_0 : decode cX11_care 0 = .ok (.aload_n 0, 1) := by decide +kernel
theorem dX11_care_1 : decode cX11_care 1 = .ok (.iload_n 1, 1) := by decide +kernel
theorem dX11_care_2 : decode cX11_care 2 = .ok (.invokevirtual 46, 3) := by decide +kernel
theorem dX11_care_5 : decode cX11_care 5 = .ok (.astore_n 2, 1) := by decide +kernel
theorem dX11_care_6 : decode cX11_care 6 = .ok (.aload_n 2, 1) := by decide +kernel
theorem dX11_care_7 : decode cX11_care 7 = .ok (.ifnonnull 5, 3) := by decide +kernel
theorem dX11_care_10 : decode cX11_care 10 = .ok (.iconst (-1), 1) := by decide +kernel
theorem dX11_care_11 : decode cX11_care 11 = .ok (.ireturn, 1) := by decide +kernel
theorem dX11_care_12 : decode cX11_care 12 = .ok (.aload_n 2, 1) := by decide +kernel
theorem dX11_care_13 : decode cX11_care 13 = .ok (.getfield 290, 3) := by decide +kernel
theorem dX11_care_16 : decode cX11_care 16 = .ok (.astore_n 3, 1) := by decide +kernel
theorem dX11_care_17 : decode cX11_care 17 = .ok (.aload_n 3, 1) := by decide +kernel
theorem dX11_care_18 : decode cX11_care 18 = .ok (.ifnonnull 10, 3) := by decide +kernel
theorem dX11_care_21 : decode cX11_care 21 = .ok (.aload_n 2, 1) := by decide +kernel
theorem dX11_care_22 : decode cX11_care 22 = .ok (.invokevirtual 294, 3) := by decide +kernel
theorem dX11_care_25 : decode cX11_care 25 = .ok (.goto 7, 3) := by decide +kernel
theorem dX11_care_28 : decode cX11_care 28 = .ok (.aload_n 3, 1) := by decide +kernel
theorem dX11_care_29 : decode cX11_care 29 = .ok (.getfield 297, 3) := by decide +kernel
theorem dX11_care_32 : decode cX11_care 32 = .ok (.ireturn, 1) := by decide +kernel
theorem dX11_toss_0 : decode cX11_toss 0 = .ok (.aload_n 0, 1) := by decide +kernel
theorem dX11_toss_1 : decode cX11_toss 1 = .ok (.iload_n 1, 1) := by decide +kernel
theorem dX11_toss_2 : decode cX11_toss 2 = .ok (.invokevirtual 46, 3) := by decide +kernel
theorem dX11_toss_5 : decode cX11_toss 5 = .ok (.astore_n 2, 1) := by decide +kernel
theorem dX11_toss_6 : decode cX11_toss 6 = .ok (.aload_n 2, 1) := by decide +kernel
theorem dX11_toss_7 : decode cX11_toss 7 = .ok (.ifnonnull 5, 3) := by decide +kernel
theorem dX11_toss_10 : decode cX11_toss 10 = .ok (.iconst (-1), 1) := by decide +kernel
theorem dX11_toss_11 : decode cX11_toss 11 = .ok (.ireturn, 1) := by decide +kernel
theorem dX11_toss_12 : decode cX11_toss 12 = .ok (.aload_n 2, 1) := by decide +kernel
theorem dX11_toss_13 : decode cX11_toss 13 = .ok (.getfield 290, 3) := by decide +kernel
theorem dX11_toss_16 : decode cX11_toss 16 = .ok (.astore_n 3, 1) := by decide +kernel
theorem dX11_toss_17 : decode cX11_toss 17 = .ok (.aload_n 3, 1) := by decide +kernel
theorem dX11_toss_18 : decode cX11_toss 18 = .ok (.ifnonnull 8, 3) := by decide +kernel
theorem dX11_toss_21 : decode cX11_toss 21 = .ok (.aload_n 2, 1) := by decide +kernel
theorem dX11_toss_22 : decode cX11_toss 22 = .ok (.invokevirtual 294, 3) := by decide +kernel
theorem dX11_toss_25 : decode cX11_toss 25 = .ok (.ireturn, 1) := by decide +kernel
theorem dX11_toss_26 : decode cX11_toss 26 = .ok (.aload_n 3, 1) := by decide +kernel
theorem dX11_toss_27 : decode cX11_toss 27 = .ok (.invokevirtual 300, 3) := by decide +kernel
theorem dX11_toss_30 : decode cX11_toss 30 = .ok (.goto 10, 3) := by decide +kernel
theorem dX11_toss_33 : decode cX11_toss 33 = .ok (.astore 4, 2) := by decide +kernel
theorem dX11_toss_35 : decode cX11_toss 35 = .ok (.aload_n 3, 1) := by decide +kernel
theorem dX11_toss_36 : decode cX11_toss 36 = .ok (.getfield 303, 3) := by decide +kernel
theorem dX11_toss_39 : decode cX11_toss 39 = .ok (.ireturn, 1) := by decide +kernel
theorem dX11_toss_40 : decode cX11_toss 40 = .ok (.bipush (-15), 2) := by decide +kernel
theorem dX11_toss_42 : decode cX11_toss 42 = .ok (.ireturn, 1) := by decide +kernel
theorem dX11_shelfAt_0 : decode cX11_shelfAt 0 = .ok (.iload_n 1, 1) := by decide +kernel
theorem dX11_shelfAt_1 : decode cX11_shelfAt 1 = .ok (.ifCond .lt 12, 3) := by decide +kernel
theorem dX11_shelfAt_4 : decode cX11_shelfAt 4 = .ok (.iload_n 1, 1) := by decide +kernel
theorem dX11_shelfAt_5 : decode cX11_shelfAt 5 = .ok (.aload_n 0, 1) := by decide +kernel
theorem dX11_shelfAt_6 : decode cX11_shelfAt 6 = .ok (.getfield 31, 3) := by decide +kernel
theorem dX11_shelfAt_9 : decode cX11_shelfAt 9 = .ok (.arraylength, 1) := by decide +kernel
theorem dX11_shelfAt_10 : decode cX11_shelfAt 10 = .ok (.if_icmp .lt 7, 3) := by decide +kernel
theorem dX11_shelfAt_13 : decode cX11_shelfAt 13 = .ok (.aconst_null, 1) := by decide +kernel
theorem dX11_shelfAt_14 : decode cX11_shelfAt 14 = .ok (.goto 9, 3) := by decide +kernel
theorem dX11_shelfAt_17 : decode cX11_shelfAt 17 = .ok (.aload_n 0, 1) := by decide +kernel
theorem dX11_shelfAt_18 : decode cX11_shelfAt 18 = .ok (.getfield 31, 3) := by decide +kernel
theorem dX11_shelfAt_21 : decode cX11_shelfAt 21 = .ok (.iload_n 1, 1) := by decide +kernel
theorem dX11_shelfAt_22 : decode cX11_shelfAt 22 = .ok (.aaload, 1) := by decide +kernel
theorem dX11_shelfAt_23 : decode cX11_shelfAt 23 = .ok (.areturn, 1) := by decide +kernel
theorem dX11_listRefusal_0 : decode cX11_listRefusal 0 = .ok (.aload_n 0, 1) := by decide +kernel
theorem dX11_listRefusal_1 : decode cX11_listRefusal 1 = .ok (.iload_n 1, 1) := by decide +kernel
theorem dX11_listRefusal_2 : decode cX11_listRefusal 2 = .ok (.invokevirtual 46, 3) := by decide +kernel
theorem dX11_listRefusal_5 : decode cX11_listRefusal 5 = .ok (.astore_n 2, 1) := by decide +kernel
theorem dX11_listRefusal_6 : decode cX11_listRefusal 6 = .ok (.aload_n 2, 1) := by decide +kernel
theorem dX11_listRefusal_7 : decode cX11_listRefusal 7 = .ok (.ifnonnull 5, 3) := by decide +kernel
theorem dX11_listRefusal_10 : decode cX11_listRefusal 10 = .ok (.iconst (-1), 1) := by decide +kernel
theorem dX11_listRefusal_11 : decode cX11_listRefusal 11 = .ok (.ireturn, 1) := by decide +kernel
theorem dX11_listRefusal_12 : decode cX11_listRefusal 12 = .ok (.aload_n 2, 1) := by decide +kernel
theorem dX11_listRefusal_13 : decode cX11_listRefusal 13 = .ok (.invokevirtual 50, 3) := by decide +kernel
theorem dX11_listRefusal_16 : decode cX11_listRefusal 16 = .ok (.istore_n 3, 1) := by decide +kernel
theorem dX11_listRefusal_17 : decode cX11_listRefusal 17 = .ok (.iload_n 3, 1) := by decide +kernel
theorem dX11_listRefusal_18 : decode cX11_listRefusal 18 = .ok (.ifCond .eq 5, 3) := by decide +kernel
theorem dX11_listRefusal_21 : decode cX11_listRefusal 21 = .ok (.iload_n 3, 1) := by decide +kernel
theorem dX11_listRefusal_22 : decode cX11_listRefusal 22 = .ok (.ireturn, 1) := by decide +kernel
theorem dX11_listRefusal_23 : decode cX11_listRefusal 23 = .ok (.aload_n 2, 1) := by decide +kernel
theorem dX11_listRefusal_24 : decode cX11_listRefusal 24 = .ok (.getfield 182, 3) := by decide +kernel
theorem dX11_listRefusal_27 : decode cX11_listRefusal 27 = .ok (.bipush 8, 2) := by decide +kernel
theorem dX11_listRefusal_29 : decode cX11_listRefusal 29 = .ok (.if_icmp .le 6, 3) := by decide +kernel
theorem dX11_listRefusal_32 : decode cX11_listRefusal 32 = .ok (.bipush (-13), 2) := by decide +kernel
theorem dX11_listRefusal_34 : decode cX11_listRefusal 34 = .ok (.ireturn, 1) := by decide +kernel
theorem dX11_listRefusal_35 : decode cX11_listRefusal 35 = .ok (.iconst 0, 1) := by decide +kernel
theorem dX11_listRefusal_36 : decode cX11_listRefusal 36 = .ok (.istore 4, 2) := by decide +kernel
theorem dX11_listRefusal_38 : decode cX11_listRefusal 38 = .ok (.iload 4, 2) := by decide +kernel
theorem dX11_listRefusal_40 : decode cX11_listRefusal 40 = .ok (.aload_n 2, 1) := by decide +kernel
theorem dX11_listRefusal_41 : decode cX11_listRefusal 41 = .ok (.getfield 182, 3) := by decide +kernel
theorem dX11_listRefusal_44 : decode cX11_listRefusal 44 = .ok (.if_icmp .ge 28, 3) := by decide +kernel
theorem dX11_listRefusal_47 : decode cX11_listRefusal 47 = .ok (.aload_n 0, 1) := by decide +kernel
theorem dX11_listRefusal_48 : decode cX11_listRefusal 48 = .ok (.getfield 10, 3) := by decide +kernel
theorem dX11_listRefusal_51 : decode cX11_listRefusal 51 = .ok (.aload_n 2, 1) := by decide +kernel
theorem dX11_listRefusal_52 : decode cX11_listRefusal 52 = .ok (.iload 4, 2) := by decide +kernel
theorem dX11_listRefusal_54 : decode cX11_listRefusal 54 = .ok (.invokevirtual 269, 3) := by decide +kernel
theorem dX11_listRefusal_57 : decode cX11_listRefusal 57 = .ok (.invokevirtual 62, 3) := by decide +kernel
theorem dX11_listRefusal_60 : decode cX11_listRefusal 60 = .ok (.ifnonnull 6, 3) := by decide +kernel
theorem dX11_listRefusal_63 : decode cX11_listRefusal 63 = .ok (.bipush (-13), 2) := by decide +kernel
theorem dX11_listRefusal_65 : decode cX11_listRefusal 65 = .ok (.ireturn, 1) := by decide +kernel
theorem dX11_listRefusal_66 : decode cX11_listRefusal 66 = .ok (.iinc 4 1, 3) := by decide +kernel
theorem dX11_listRefusal_69 : decode cX11_listRefusal 69 = .ok (.goto (-31), 3) := by decide +kernel
theorem dX11_listRefusal_72 : decode cX11_listRefusal 72 = .ok (.iconst 0, 1) := by decide +kernel
theorem dX11_listRefusal_73 : decode cX11_listRefusal 73 = .ok (.ireturn, 1) := by decide +kernel
theorem dX11_takeList_0 : decode cX11_takeList 0 = .ok (.aload_n 0, 1) := by decide +kernel
theorem dX11_takeList_1 : decode cX11_takeList 1 = .ok (.iload_n 1, 1) := by decide +kernel
theorem dX11_takeList_2 : decode cX11_takeList 2 = .ok (.invokevirtual 179, 3) := by decide +kernel
theorem dX11_takeList_5 : decode cX11_takeList 5 = .ok (.istore_n 2, 1) := by decide +kernel
theorem dX11_takeList_6 : decode cX11_takeList 6 = .ok (.aload_n 0, 1) := by decide +kernel
theorem dX11_takeList_7 : decode cX11_takeList 7 = .ok (.iload_n 1, 1) := by decide +kernel
theorem dX11_takeList_8 : decode cX11_takeList 8 = .ok (.invokevirtual 46, 3) := by decide +kernel
theorem dX11_takeList_11 : decode cX11_takeList 11 = .ok (.astore_n 3, 1) := by decide +kernel
theorem dX11_takeList_12 : decode cX11_takeList 12 = .ok (.iload_n 2, 1) := by decide +kernel
theorem dX11_takeList_13 : decode cX11_takeList 13 = .ok (.ifCond .ne 7, 3) := by decide +kernel
theorem dX11_takeList_16 : decode cX11_takeList 16 = .ok (.aload_n 3, 1) := by decide +kernel
theorem dX11_takeList_17 : decode cX11_takeList 17 = .ok (.ifnonnull 5, 3) := by decide +kernel
theorem dX11_takeList_20 : decode cX11_takeList 20 = .ok (.iload_n 2, 1) := by decide +kernel
theorem dX11_takeList_21 : decode cX11_takeList 21 = .ok (.ireturn, 1) := by decide +kernel
theorem dX11_takeList_22 : decode cX11_takeList 22 = .ok (.aload_n 0, 1) := by decide +kernel
theorem dX11_takeList_23 : decode cX11_takeList 23 = .ok (.getfield 25, 3) := by decide +kernel
theorem dX11_takeList_26 : decode cX11_takeList 26 = .ok (.aload_n 0, 1) := by decide +kernel
theorem dX11_takeList_27 : decode cX11_takeList 27 = .ok (.getfield 10, 3) := by decide +kernel
theorem dX11_takeList_30 : decode cX11_takeList 30 = .ok (.invokevirtual 306, 3) := by decide +kernel
theorem dX11_takeList_33 : decode cX11_takeList 33 = .ok (.iconst 0, 1) := by decide +kernel
theorem dX11_takeList_34 : decode cX11_takeList 34 = .ok (.istore 4, 2) := by decide +kernel
theorem dX11_takeList_36 : decode cX11_takeList 36 = .ok (.iload 4, 2) := by decide +kernel
theorem dX11_takeList_38 : decode cX11_takeList 38 = .ok (.aload_n 3, 1) := by decide +kernel
theorem dX11_takeList_39 : decode cX11_takeList 39 = .ok (.getfield 182, 3) := by decide +kernel
theorem dX11_takeList_42 : decode cX11_takeList 42 = .ok (.if_icmp .ge 29, 3) := by decide +kernel
theorem dX11_takeList_45 : decode cX11_takeList 45 = .ok (.aload_n 0, 1) := by decide +kernel
theorem dX11_takeList_46 : decode cX11_takeList 46 = .ok (.getfield 25, 3) := by decide +kernel
theorem dX11_takeList_49 : decode cX11_takeList 49 = .ok (.aload_n 0, 1) := by decide +kernel
theorem dX11_takeList_50 : decode cX11_takeList 50 = .ok (.getfield 10, 3) := by decide +kernel
theorem dX11_takeList_53 : decode cX11_takeList 53 = .ok (.aload_n 3, 1) := by decide +kernel
theorem dX11_takeList_54 : decode cX11_takeList 54 = .ok (.iload 4, 2) := by decide +kernel
theorem dX11_takeList_56 : decode cX11_takeList 56 = .ok (.invokevirtual 269, 3) := by decide +kernel
theorem dX11_takeList_59 : decode cX11_takeList 59 = .ok (.invokevirtual 62, 3) := by decide +kernel
theorem dX11_takeList_62 : decode cX11_takeList 62 = .ok (.invokevirtual 309, 3) := by decide +kernel
theorem dX11_takeList_65 : decode cX11_takeList 65 = .ok (.iinc 4 1, 3) := by decide +kernel
theorem dX11_takeList_68 : decode cX11_takeList 68 = .ok (.goto (-32), 3) := by decide +kernel
theorem dX11_takeList_71 : decode cX11_takeList 71 = .ok (.iconst 0, 1) := by decide +kernel
theorem dX11_takeList_72 : decode cX11_takeList 72 = .ok (.ireturn, 1) := by decide +kernel
theorem dX11_playList_0 : decode cX11_playList 0 = .ok (.iload_n 2, 1) := by decide +kernel
theorem dX11_playList_1 : decode cX11_playList 1 = .ok (.invokestatic 219, 3) := by decide +kernel
theorem dX11_playList_4 : decode cX11_playList 4 = .ok (.ifCond .ne 5, 3) := by decide +kernel
theorem dX11_playList_7 : decode cX11_playList 7 = .ok (.iconst (-1), 1) := by decide +kernel
theorem dX11_playList_8 : decode cX11_playList 8 = .ok (.ireturn, 1) := by decide +kernel
theorem dX11_playList_9 : decode cX11_playList 9 = .ok (.aload_n 0, 1) := by decide +kernel
theorem dX11_playList_10 : decode cX11_playList 10 = .ok (.iload_n 1, 1) := by decide +kernel
theorem dX11_playList_11 : decode cX11_playList 11 = .ok (.invokevirtual 142, 3) := by decide +kernel
theorem dX11_playList_14 : decode cX11_playList 14 = .ok (.istore_n 3, 1) := by decide +kernel
theorem dX11_playList_15 : decode cX11_playList 15 = .ok (.iload_n 3, 1) := by decide +kernel
theorem dX11_playList_16 : decode cX11_playList 16 = .ok (.ifCond .ne 11, 3) := by decide +kernel
theorem dX11_playList_19 : decode cX11_playList 19 = .ok (.aload_n 0, 1) := by decide +kernel
theorem dX11_playList_20 : decode cX11_playList 20 = .ok (.getfield 25, 3) := by decide +kernel
theorem dX11_playList_23 : decode cX11_playList 23 = .ok (.iload_n 2, 1) := by decide +kernel
theorem dX11_playList_24 : decode cX11_playList 24 = .ok (.invokevirtual 176, 3) := by decide +kernel
theorem dX11_playList_27 : decode cX11_playList 27 = .ok (.iload_n 3, 1) := by decide +kernel
theorem dX11_playList_28 : decode cX11_playList 28 = .ok (.ireturn, 1) := by decide +kernel
theorem dX11_endYears_0 : decode cX11_endYears 0 = .ok (.aload_n 0, 1) := by decide +kernel
theorem dX11_endYears_1 : decode cX11_endYears 1 = .ok (.getfield 10, 3) := by decide +kernel
theorem dX11_endYears_4 : decode cX11_endYears 4 = .ok (.aload_n 0, 1) := by decide +kernel
theorem dX11_endYears_5 : decode cX11_endYears 5 = .ok (.getfield 25, 3) := by decide +kernel
theorem dX11_endYears_8 : decode cX11_endYears 8 = .ok (.getfield 155, 3) := by decide +kernel
theorem dX11_endYears_11 : decode cX11_endYears 11 = .ok (.putfield 94, 3) := by decide +kernel
theorem dX11_endYears_14 : decode cX11_endYears 14 = .ok (.aload_n 0, 1) := by decide +kernel
theorem dX11_endYears_15 : decode cX11_endYears 15 = .ok (.getfield 10, 3) := by decide +kernel
theorem dX11_endYears_18 : decode cX11_endYears 18 = .ok (.aload_n 0, 1) := by decide +kernel
theorem dX11_endYears_19 : decode cX11_endYears 19 = .ok (.getfield 25, 3) := by decide +kernel
theorem dX11_endYears_22 : decode cX11_endYears 22 = .ok (.getfield 162, 3) := by decide +kernel
theorem dX11_endYears_25 : decode cX11_endYears 25 = .ok (.putfield 97, 3) := by decide +kernel
theorem dX11_endYears_28 : decode cX11_endYears 28 = .ok (.aload_n 0, 1) := by decide +kernel
theorem dX11_endYears_29 : decode cX11_endYears 29 = .ok (.getfield 10, 3) := by decide +kernel
theorem dX11_endYears_32 : decode cX11_endYears 32 = .ok (.dup, 1) := by decide +kernel
theorem dX11_endYears_33 : decode cX11_endYears 33 = .ok (.getfield 100, 3) := by decide +kernel
theorem dX11_endYears_36 : decode cX11_endYears 36 = .ok (.iload_n 1, 1) := by decide +kernel
theorem dX11_endYears_37 : decode cX11_endYears 37 = .ok (.iadd, 1) := by decide +kernel
theorem dX11_endYears_38 : decode cX11_endYears 38 = .ok (.putfield 100, 3) := by decide +kernel
theorem dX11_endYears_41 : decode cX11_endYears 41 = .ok (.return_, 1) := by decide +kernel
theorem dX11_areNails_0 : decode cX11_areNails 0 = .ok (.iload_n 0, 1) := by decide +kernel
theorem dX11_areNails_1 : decode cX11_areNails 1 = .ok (.ifCond .lt 14, 3) := by decide +kernel
theorem dX11_areNails_4 : decode cX11_areNails 4 = .ok (.iload_n 0, 1) := by decide +kernel
theorem dX11_areNails_5 : decode cX11_areNails 5 = .ok (.sipush 255, 3) := by decide +kernel
theorem dX11_areNails_8 : decode cX11_areNails 8 = .ok (.if_icmp .gt 7, 3) := by decide +kernel
theorem dX11_areNails_11 : decode cX11_areNails 11 = .ok (.iconst 1, 1) := by decide +kernel
theorem dX11_areNails_12 : decode cX11_areNails 12 = .ok (.goto 4, 3) := by decide +kernel
theorem dX11_areNails_15 : decode cX11_areNails 15 = .ok (.iconst 0, 1) := by decide +kernel
theorem dX11_areNails_16 : decode cX11_areNails 16 = .ok (.ireturn, 1) := by decide +kernel
theorem dX11_areMarks_0 : decode cX11_areMarks 0 = .ok (.iload_n 0, 1) := by decide +kernel
theorem dX11_areMarks_1 : decode cX11_areMarks 1 = .ok (.ifCond .lt 14, 3) := by decide +kernel
theorem dX11_areMarks_4 : decode cX11_areMarks 4 = .ok (.iload_n 0, 1) := by decide +kernel
theorem dX11_areMarks_5 : decode cX11_areMarks 5 = .ok (.sipush 1023, 3) := by decide +kernel
theorem dX11_areMarks_8 : decode cX11_areMarks 8 = .ok (.if_icmp .gt 7, 3) := by decide +kernel
theorem dX11_areMarks_11 : decode cX11_areMarks 11 = .ok (.iconst 1, 1) := by decide +kernel
theorem dX11_areMarks_12 : decode cX11_areMarks 12 = .ok (.goto 4, 3) := by decide +kernel
theorem dX11_areMarks_15 : decode cX11_areMarks 15 = .ok (.iconst 0, 1) := by decide +kernel
theorem dX11_areMarks_16 : decode cX11_areMarks 16 = .ok (.ireturn, 1) := by decide +kernel
theorem dX11_counted_0 : decode cX11_counted 0 = .ok (.aload_n 1, 1) := by decide +kernel
theorem dX11_counted_1 : decode cX11_counted 1 = .ok (.ifnonnull 5, 3) := by decide +kernel
theorem dX11_counted_4 : decode cX11_counted 4 = .ok (.iconst 0, 1) := by decide +kernel
theorem dX11_counted_5 : decode cX11_counted 5 = .ok (.ireturn, 1) := by decide +kernel
theorem dX11_counted_6 : decode cX11_counted 6 = .ok (.iload_n 2, 1) := by decide +kernel
theorem dX11_counted_7 : decode cX11_counted 7 = .ok (.tableswitch 80 2 4 #[25, 52, 65], 25) := by decide +kernel
theorem dX11_counted_32 : decode cX11_counted 32 = .ok (.aload_n 1, 1) := by decide +kernel
theorem dX11_counted_33 : decode cX11_counted 33 = .ok (.aload_n 0, 1) := by decide +kernel
theorem dX11_counted_34 : decode cX11_counted 34 = .ok (.getfield 10, 3) := by decide +kernel
theorem dX11_counted_37 : decode cX11_counted 37 = .ok (.getfield 94, 3) := by decide +kernel
theorem dX11_counted_40 : decode cX11_counted 40 = .ok (.aload_n 0, 1) := by decide +kernel
theorem dX11_counted_41 : decode cX11_counted 41 = .ok (.getfield 10, 3) := by decide +kernel
theorem dX11_counted_44 : decode cX11_counted 44 = .ok (.getfield 97, 3) := by decide +kernel
theorem dX11_counted_47 : decode cX11_counted 47 = .ok (.invokevirtual 122, 3) := by decide +kernel
theorem dX11_counted_50 : decode cX11_counted 50 = .ok (.ifCond .eq 7, 3) := by decide +kernel
theorem dX11_counted_53 : decode cX11_counted 53 = .ok (.iconst 1, 1) := by decide +kernel
theorem dX11_counted_54 : decode cX11_counted 54 = .ok (.goto 4, 3) := by decide +kernel
theorem dX11_counted_57 : decode cX11_counted 57 = .ok (.iconst 0, 1) := by decide +kernel
theorem dX11_counted_58 : decode cX11_counted 58 = .ok (.ireturn, 1) := by decide +kernel
theorem dX11_counted_59 : decode cX11_counted 59 = .ok (.aload_n 1, 1) := by decide +kernel
theorem dX11_counted_60 : decode cX11_counted 60 = .ok (.getfield 90, 3) := by decide +kernel
theorem dX11_counted_63 : decode cX11_counted 63 = .ok (.ifCond .eq 7, 3) := by decide +kernel
theorem dX11_counted_66 : decode cX11_counted 66 = .ok (.iconst 1, 1) := by decide +kernel
theorem dX11_counted_67 : decode cX11_counted 67 = .ok (.goto 4, 3) := by decide +kernel
theorem dX11_counted_70 : decode cX11_counted 70 = .ok (.iconst 0, 1) := by decide +kernel
theorem dX11_counted_71 : decode cX11_counted 71 = .ok (.ireturn, 1) := by decide +kernel
theorem dX11_counted_72 : decode cX11_counted 72 = .ok (.aload_n 1, 1) := by decide +kernel
theorem dX11_counted_73 : decode cX11_counted 73 = .ok (.getfield 66, 3) := by decide +kernel
theorem dX11_counted_76 : decode cX11_counted 76 = .ok (.bipush 6, 2) := by decide +kernel
theorem dX11_counted_78 : decode cX11_counted 78 = .ok (.if_icmp .ne 7, 3) := by decide +kernel
theorem dX11_counted_81 : decode cX11_counted 81 = .ok (.iconst 1, 1) := by decide +kernel
theorem dX11_counted_82 : decode cX11_counted 82 = .ok (.goto 4, 3) := by decide +kernel
theorem dX11_counted_85 : decode cX11_counted 85 = .ok (.iconst 0, 1) := by decide +kernel
theorem dX11_counted_86 : decode cX11_counted 86 = .ok (.ireturn, 1) := by decide +kernel
theorem dX11_counted_87 : decode cX11_counted 87 = .ok (.aload_n 1, 1) := by decide +kernel
theorem dX11_counted_88 : decode cX11_counted 88 = .ok (.getfield 78, 3) := by decide +kernel
theorem dX11_counted_91 : decode cX11_counted 91 = .ok (.ireturn, 1) := by decide +kernel
theorem dX11_freest_0 : decode cX11_freest 0 = .ok (.bipush (-4), 2) := by decide +kernel
theorem dX11_freest_2 : decode cX11_freest 2 = .ok (.istore 4, 2) := by decide +kernel
theorem dX11_freest_4 : decode cX11_freest 4 = .ok (.bipush (-4), 2) := by decide +kernel
theorem dX11_freest_6 : decode cX11_freest 6 = .ok (.istore 5, 2) := by decide +kernel
theorem dX11_freest_8 : decode cX11_freest 8 = .ok (.iconst 0, 1) := by decide +kernel
theorem dX11_freest_9 : decode cX11_freest 9 = .ok (.istore 6, 2) := by decide +kernel
theorem dX11_freest_11 : decode cX11_freest 11 = .ok (.iload 6, 2) := by decide +kernel
theorem dX11_freest_13 : decode cX11_freest 13 = .ok (.aload_n 0, 1) := by decide +kernel
theorem dX11_freest_14 : decode cX11_freest 14 = .ok (.getfield 35, 3) := by decide +kernel
theorem dX11_freest_17 : decode cX11_freest 17 = .ok (.arraylength, 1) := by decide +kernel
theorem dX11_freest_18 : decode cX11_freest 18 = .ok (.if_icmp .ge 18, 3) := by decide +kernel
theorem dX11_freest_21 : decode cX11_freest 21 = .ok (.aload_n 0, 1) := by decide +kernel
theorem dX11_freest_22 : decode cX11_freest 22 = .ok (.getfield 35, 3) := by decide +kernel
theorem dX11_freest_25 : decode cX11_freest 25 = .ok (.iload 6, 2) := by decide +kernel
theorem dX11_freest_27 : decode cX11_freest 27 = .ok (.iload 6, 2) := by decide +kernel
theorem dX11_freest_29 : decode cX11_freest 29 = .ok (.iastore, 1) := by decide +kernel
theorem dX11_freest_30 : decode cX11_freest 30 = .ok (.iinc 6 1, 3) := by decide +kernel
theorem dX11_freest_33 : decode cX11_freest 33 = .ok (.goto (-22), 3) := by decide +kernel
theorem dX11_freest_36 : decode cX11_freest 36 = .ok (.iconst 1, 1) := by decide +kernel
theorem dX11_freest_37 : decode cX11_freest 37 = .ok (.istore 6, 2) := by decide +kernel
theorem dX11_freest_39 : decode cX11_freest 39 = .ok (.iconst 0, 1) := by decide +kernel
theorem dX11_freest_40 : decode cX11_freest 40 = .ok (.istore 7, 2) := by decide +kernel
theorem dX11_freest_42 : decode cX11_freest 42 = .ok (.iload 7, 2) := by decide +kernel
theorem dX11_freest_44 : decode cX11_freest 44 = .ok (.bipush 120, 2) := by decide +kernel
theorem dX11_freest_46 : decode cX11_freest 46 = .ok (.if_icmp .ge 76, 3) := by decide +kernel
theorem dX11_freest_49 : decode cX11_freest 49 = .ok (.iload 6, 2) := by decide +kernel
theorem dX11_freest_51 : decode cX11_freest 51 = .ok (.ifCond .eq 71, 3) := by decide +kernel
theorem dX11_freest_54 : decode cX11_freest 54 = .ok (.aload_n 0, 1) := by decide +kernel
theorem dX11_freest_55 : decode cX11_freest 55 = .ok (.aload_n 1, 1) := by decide +kernel
theorem dX11_freest_56 : decode cX11_freest 56 = .ok (.invokevirtual 312, 3) := by decide +kernel
theorem dX11_freest_59 : decode cX11_freest 59 = .ok (.aload_n 0, 1) := by decide +kernel
theorem dX11_freest_60 : decode cX11_freest 60 = .ok (.getfield 25, 3) := by decide +kernel
theorem dX11_freest_63 : decode cX11_freest 63 = .ok (.iload_n 2, 1) := by decide +kernel
theorem dX11_freest_64 : decode cX11_freest 64 = .ok (.invokevirtual 173, 3) := by decide +kernel
theorem dX11_freest_67 : decode cX11_freest 67 = .ok (.istore 8, 2) := by decide +kernel
theorem dX11_freest_69 : decode cX11_freest 69 = .ok (.iload 8, 2) := by decide +kernel
theorem dX11_freest_71 : decode cX11_freest 71 = .ok (.ifCond .lt 35, 3) := by decide +kernel
theorem dX11_freest_74 : decode cX11_freest 74 = .ok (.iload 4, 2) := by decide +kernel
theorem dX11_freest_76 : decode cX11_freest 76 = .ok (.ifCond .lt 13, 3) := by decide +kernel
theorem dX11_freest_79 : decode cX11_freest 79 = .ok (.iload 8, 2) := by decide +kernel
theorem dX11_freest_81 : decode cX11_freest 81 = .ok (.invokestatic 137, 3) := by decide +kernel
theorem dX11_freest_84 : decode cX11_freest 84 = .ok (.iload 4, 2) := by decide +kernel
theorem dX11_freest_86 : decode cX11_freest 86 = .ok (.if_icmp .ge 20, 3) := by decide +kernel
theorem dX11_freest_89 : decode cX11_freest 89 = .ok (.iload 8, 2) := by decide +kernel
theorem dX11_freest_91 : decode cX11_freest 91 = .ok (.invokestatic 137, 3) := by decide +kernel
theorem dX11_freest_94 : decode cX11_freest 94 = .ok (.istore 4, 2) := by decide +kernel
theorem dX11_freest_96 : decode cX11_freest 96 = .ok (.aload_n 0, 1) := by decide +kernel
theorem dX11_freest_97 : decode cX11_freest 97 = .ok (.aload_n 1, 1) := by decide +kernel
theorem dX11_freest_98 : decode cX11_freest 98 = .ok (.getfield 182, 3) := by decide +kernel
theorem dX11_freest_101 : decode cX11_freest 101 = .ok (.invokevirtual 316, 3) := by decide +kernel
theorem dX11_freest_104 : decode cX11_freest 104 = .ok (.istore 5, 2) := by decide +kernel
theorem dX11_freest_106 : decode cX11_freest 106 = .ok (.aload_n 0, 1) := by decide +kernel
theorem dX11_freest_107 : decode cX11_freest 107 = .ok (.aload_n 1, 1) := by decide +kernel
theorem dX11_freest_108 : decode cX11_freest 108 = .ok (.getfield 182, 3) := by decide +kernel
theorem dX11_freest_111 : decode cX11_freest 111 = .ok (.invokevirtual 319, 3) := by decide +kernel
theorem dX11_freest_114 : decode cX11_freest 114 = .ok (.istore 6, 2) := by decide +kernel
theorem dX11_freest_116 : decode cX11_freest 116 = .ok (.iinc 7 1, 3) := by decide +kernel
theorem dX11_freest_119 : decode cX11_freest 119 = .ok (.goto (-77), 3) := by decide +kernel
theorem dX11_freest_122 : decode cX11_freest 122 = .ok (.iload_n 3, 1) := by decide +kernel
theorem dX11_freest_123 : decode cX11_freest 123 = .ok (.ifCond .ne 8, 3) := by decide +kernel
theorem dX11_freest_126 : decode cX11_freest 126 = .ok (.iload 5, 2) := by decide +kernel
theorem dX11_freest_128 : decode cX11_freest 128 = .ok (.goto 5, 3) := by decide +kernel
theorem dX11_freest_131 : decode cX11_freest 131 = .ok (.iload 4, 2) := by decide +kernel
theorem dX11_freest_133 : decode cX11_freest 133 = .ok (.ireturn, 1) := by decide +kernel
theorem dX11_takeOrder_0 : decode cX11_takeOrder 0 = .ok (.aload_n 0, 1) := by decide +kernel
theorem dX11_takeOrder_1 : decode cX11_takeOrder 1 = .ok (.getfield 25, 3) := by decide +kernel
theorem dX11_takeOrder_4 : decode cX11_takeOrder 4 = .ok (.aload_n 0, 1) := by decide +kernel
theorem dX11_takeOrder_5 : decode cX11_takeOrder 5 = .ok (.getfield 10, 3) := by decide +kernel
theorem dX11_takeOrder_8 : decode cX11_takeOrder 8 = .ok (.invokevirtual 306, 3) := by decide +kernel
theorem dX11_takeOrder_11 : decode cX11_takeOrder 11 = .ok (.iconst 0, 1) := by decide +kernel
theorem dX11_takeOrder_12 : decode cX11_takeOrder 12 = .ok (.istore_n 2, 1) := by decide +kernel
theorem dX11_takeOrder_13 : decode cX11_takeOrder 13 = .ok (.iload_n 2, 1) := by decide +kernel
theorem dX11_takeOrder_14 : decode cX11_takeOrder 14 = .ok (.aload_n 1, 1) := by decide +kernel
theorem dX11_takeOrder_15 : decode cX11_takeOrder 15 = .ok (.getfield 182, 3) := by decide +kernel
theorem dX11_takeOrder_18 : decode cX11_takeOrder 18 = .ok (.if_icmp .ge 35, 3) := by decide +kernel
theorem dX11_takeOrder_21 : decode cX11_takeOrder 21 = .ok (.aload_n 0, 1) := by decide +kernel
theorem dX11_takeOrder_22 : decode cX11_takeOrder 22 = .ok (.getfield 25, 3) := by decide +kernel
theorem dX11_takeOrder_25 : decode cX11_takeOrder 25 = .ok (.aload_n 0, 1) := by decide +kernel
theorem dX11_takeOrder_26 : decode cX11_takeOrder 26 = .ok (.getfield 10, 3) := by decide +kernel
theorem dX11_takeOrder_29 : decode cX11_takeOrder 29 = .ok (.aload_n 1, 1) := by decide +kernel
theorem dX11_takeOrder_30 : decode cX11_takeOrder 30 = .ok (.aload_n 0, 1) := by decide +kernel
theorem dX11_takeOrder_31 : decode cX11_takeOrder 31 = .ok (.getfield 35, 3) := by decide +kernel
theorem dX11_takeOrder_34 : decode cX11_takeOrder 34 = .ok (.iload_n 2, 1) := by decide +kernel
theorem dX11_takeOrder_35 : decode cX11_takeOrder 35 = .ok (.invokestatic 322, 3) := by decide +kernel
theorem dX11_takeOrder_38 : decode cX11_takeOrder 38 = .ok (.invokevirtual 269, 3) := by decide +kernel
theorem dX11_takeOrder_41 : decode cX11_takeOrder 41 = .ok (.invokevirtual 62, 3) := by decide +kernel
theorem dX11_takeOrder_44 : decode cX11_takeOrder 44 = .ok (.invokevirtual 309, 3) := by decide +kernel
theorem dX11_takeOrder_47 : decode cX11_takeOrder 47 = .ok (.iinc 2 1, 3) := by decide +kernel
theorem dX11_takeOrder_50 : decode cX11_takeOrder 50 = .ok (.goto (-37), 3) := by decide +kernel
theorem dX11_takeOrder_53 : decode cX11_takeOrder 53 = .ok (.return_, 1) := by decide +kernel
theorem dX11_orderDigits_0 : decode cX11_orderDigits 0 = .ok (.iconst 0, 1) := by decide +kernel
theorem dX11_orderDigits_1 : decode cX11_orderDigits 1 = .ok (.istore_n 2, 1) := by decide +kernel
theorem dX11_orderDigits_2 : decode cX11_orderDigits 2 = .ok (.iload_n 1, 1) := by decide +kernel
theorem dX11_orderDigits_3 : decode cX11_orderDigits 3 = .ok (.iconst 1, 1) := by decide +kernel
theorem dX11_orderDigits_4 : decode cX11_orderDigits 4 = .ok (.isub, 1) := by decide +kernel
theorem dX11_orderDigits_5 : decode cX11_orderDigits 5 = .ok (.istore_n 3, 1) := by decide +kernel
theorem dX11_orderDigits_6 : decode cX11_orderDigits 6 = .ok (.iload_n 3, 1) := by decide +kernel
theorem dX11_orderDigits_7 : decode cX11_orderDigits 7 = .ok (.ifCond .lt 23, 3) := by decide +kernel
theorem dX11_orderDigits_10 : decode cX11_orderDigits 10 = .ok (.bipush 10, 2) := by decide +kernel
theorem dX11_orderDigits_12 : decode cX11_orderDigits 12 = .ok (.iload_n 2, 1) := by decide +kernel
theorem dX11_orderDigits_13 : decode cX11_orderDigits 13 = .ok (.imul, 1) := by decide +kernel
theorem dX11_orderDigits_14 : decode cX11_orderDigits 14 = .ok (.aload_n 0, 1) := by decide +kernel
theorem dX11_orderDigits_15 : decode cX11_orderDigits 15 = .ok (.getfield 35, 3) := by decide +kernel
theorem dX11_orderDigits_18 : decode cX11_orderDigits 18 = .ok (.iload_n 3, 1) := by decide +kernel
theorem dX11_orderDigits_19 : decode cX11_orderDigits 19 = .ok (.invokestatic 322, 3) := by decide +kernel
theorem dX11_orderDigits_22 : decode cX11_orderDigits 22 = .ok (.iadd, 1) := by decide +kernel
theorem dX11_orderDigits_23 : decode cX11_orderDigits 23 = .ok (.istore_n 2, 1) := by decide +kernel
theorem dX11_orderDigits_24 : decode cX11_orderDigits 24 = .ok (.iinc 3 (-1), 3) := by decide +kernel
theorem dX11_orderDigits_27 : decode cX11_orderDigits 27 = .ok (.goto (-21), 3) := by decide +kernel
theorem dX11_orderDigits_30 : decode cX11_orderDigits 30 = .ok (.iload_n 2, 1) := by decide +kernel
theorem dX11_orderDigits_31 : decode cX11_orderDigits 31 = .ok (.ireturn, 1) := by decide +kernel
theorem dX11_nextOrder_0 : decode cX11_nextOrder 0 = .ok (.iload_n 1, 1) := by decide +kernel
theorem dX11_nextOrder_1 : decode cX11_nextOrder 1 = .ok (.iconst 2, 1) := by decide +kernel
theorem dX11_nextOrder_2 : decode cX11_nextOrder 2 = .ok (.isub, 1) := by decide +kernel
theorem dX11_nextOrder_3 : decode cX11_nextOrder 3 = .ok (.istore_n 2, 1) := by decide +kernel
theorem dX11_nextOrder_4 : decode cX11_nextOrder 4 = .ok (.iload_n 2, 1) := by decide +kernel
theorem dX11_nextOrder_5 : decode cX11_nextOrder 5 = .ok (.ifCond .lt 30, 3) := by decide +kernel
theorem dX11_nextOrder_8 : decode cX11_nextOrder 8 = .ok (.aload_n 0, 1) := by decide +kernel
theorem dX11_nextOrder_9 : decode cX11_nextOrder 9 = .ok (.getfield 35, 3) := by decide +kernel
theorem dX11_nextOrder_12 : decode cX11_nextOrder 12 = .ok (.iload_n 2, 1) := by decide +kernel
theorem dX11_nextOrder_13 : decode cX11_nextOrder 13 = .ok (.invokestatic 322, 3) := by decide +kernel
theorem dX11_nextOrder_16 : decode cX11_nextOrder 16 = .ok (.aload_n 0, 1) := by decide +kernel
theorem dX11_nextOrder_17 : decode cX11_nextOrder 17 = .ok (.getfield 35, 3) := by decide +kernel
theorem dX11_nextOrder_20 : decode cX11_nextOrder 20 = .ok (.iload_n 2, 1) := by decide +kernel
theorem dX11_nextOrder_21 : decode cX11_nextOrder 21 = .ok (.iconst 1, 1) := by decide +kernel
theorem dX11_nextOrder_22 : decode cX11_nextOrder 22 = .ok (.iadd, 1) := by decide +kernel
theorem dX11_nextOrder_23 : decode cX11_nextOrder 23 = .ok (.invokestatic 322, 3) := by decide +kernel
theorem dX11_nextOrder_26 : decode cX11_nextOrder 26 = .ok (.if_icmp .le 9, 3) := by decide +kernel
theorem dX11_nextOrder_29 : decode cX11_nextOrder 29 = .ok (.iinc 2 (-1), 3) := by decide +kernel
theorem dX11_nextOrder_32 : decode cX11_nextOrder 32 = .ok (.goto (-28), 3) := by decide +kernel
theorem dX11_nextOrder_35 : decode cX11_nextOrder 35 = .ok (.iload_n 2, 1) := by decide +kernel
theorem dX11_nextOrder_36 : decode cX11_nextOrder 36 = .ok (.ifCond .ge 5, 3) := by decide +kernel
theorem dX11_nextOrder_39 : decode cX11_nextOrder 39 = .ok (.iconst 0, 1) := by decide +kernel
theorem dX11_nextOrder_40 : decode cX11_nextOrder 40 = .ok (.ireturn, 1) := by decide +kernel
theorem dX11_nextOrder_41 : decode cX11_nextOrder 41 = .ok (.iload_n 1, 1) := by decide +kernel
theorem dX11_nextOrder_42 : decode cX11_nextOrder 42 = .ok (.iconst 1, 1) := by decide +kernel
theorem dX11_nextOrder_43 : decode cX11_nextOrder 43 = .ok (.isub, 1) := by decide +kernel
theorem dX11_nextOrder_44 : decode cX11_nextOrder 44 = .ok (.istore_n 3, 1) := by decide +kernel
theorem dX11_nextOrder_45 : decode cX11_nextOrder 45 = .ok (.iload_n 3, 1) := by decide +kernel
theorem dX11_nextOrder_46 : decode cX11_nextOrder 46 = .ok (.iload_n 2, 1) := by decide +kernel
theorem dX11_nextOrder_47 : decode cX11_nextOrder 47 = .ok (.iconst 1, 1) := by decide +kernel
theorem dX11_nextOrder_48 : decode cX11_nextOrder 48 = .ok (.iadd, 1) := by decide +kernel
theorem dX11_nextOrder_49 : decode cX11_nextOrder 49 = .ok (.if_icmp .le 28, 3) := by decide +kernel
theorem dX11_nextOrder_52 : decode cX11_nextOrder 52 = .ok (.aload_n 0, 1) := by decide +kernel
theorem dX11_nextOrder_53 : decode cX11_nextOrder 53 = .ok (.getfield 35, 3) := by decide +kernel
theorem dX11_nextOrder_56 : decode cX11_nextOrder 56 = .ok (.iload_n 3, 1) := by decide +kernel
theorem dX11_nextOrder_57 : decode cX11_nextOrder 57 = .ok (.invokestatic 322, 3) := by decide +kernel
theorem dX11_nextOrder_60 : decode cX11_nextOrder 60 = .ok (.aload_n 0, 1) := by decide +kernel
theorem dX11_nextOrder_61 : decode cX11_nextOrder 61 = .ok (.getfield 35, 3) := by decide +kernel
theorem dX11_nextOrder_64 : decode cX11_nextOrder 64 = .ok (.iload_n 2, 1) := by decide +kernel
theorem dX11_nextOrder_65 : decode cX11_nextOrder 65 = .ok (.invokestatic 322, 3) := by decide +kernel
theorem dX11_nextOrder_68 : decode cX11_nextOrder 68 = .ok (.if_icmp .ge 9, 3) := by decide +kernel
theorem dX11_nextOrder_71 : decode cX11_nextOrder 71 = .ok (.iinc 3 (-1), 3) := by decide +kernel
theorem dX11_nextOrder_74 : decode cX11_nextOrder 74 = .ok (.goto (-29), 3) := by decide +kernel
theorem dX11_nextOrder_77 : decode cX11_nextOrder 77 = .ok (.aload_n 0, 1) := by decide +kernel
theorem dX11_nextOrder_78 : decode cX11_nextOrder 78 = .ok (.iload_n 2, 1) := by decide +kernel
theorem dX11_nextOrder_79 : decode cX11_nextOrder 79 = .ok (.iload_n 3, 1) := by decide +kernel
theorem dX11_nextOrder_80 : decode cX11_nextOrder 80 = .ok (.invokevirtual 326, 3) := by decide +kernel
theorem dX11_nextOrder_83 : decode cX11_nextOrder 83 = .ok (.iload_n 2, 1) := by decide +kernel
theorem dX11_nextOrder_84 : decode cX11_nextOrder 84 = .ok (.iconst 1, 1) := by decide +kernel
theorem dX11_nextOrder_85 : decode cX11_nextOrder 85 = .ok (.iadd, 1) := by decide +kernel
theorem dX11_nextOrder_86 : decode cX11_nextOrder 86 = .ok (.istore 4, 2) := by decide +kernel
theorem dX11_nextOrder_88 : decode cX11_nextOrder 88 = .ok (.iload_n 1, 1) := by decide +kernel
theorem dX11_nextOrder_89 : decode cX11_nextOrder 89 = .ok (.iconst 1, 1) := by decide +kernel
theorem dX11_nextOrder_90 : decode cX11_nextOrder 90 = .ok (.isub, 1) := by decide +kernel
theorem dX11_nextOrder_91 : decode cX11_nextOrder 91 = .ok (.istore 5, 2) := by decide +kernel
theorem dX11_nextOrder_93 : decode cX11_nextOrder 93 = .ok (.iload 4, 2) := by decide +kernel
theorem dX11_nextOrder_95 : decode cX11_nextOrder 95 = .ok (.iload 5, 2) := by decide +kernel
theorem dX11_nextOrder_97 : decode cX11_nextOrder 97 = .ok (.if_icmp .ge 20, 3) := by decide +kernel
theorem dX11_nextOrder_100 : decode cX11_nextOrder 100 = .ok (.aload_n 0, 1) := by decide +kernel
theorem dX11_nextOrder_101 : decode cX11_nextOrder 101 = .ok (.iload 4, 2) := by decide +kernel
theorem dX11_nextOrder_103 : decode cX11_nextOrder 103 = .ok (.iload 5, 2) := by decide +kernel
theorem dX11_nextOrder_105 : decode cX11_nextOrder 105 = .ok (.invokevirtual 326, 3) := by decide +kernel
theorem dX11_nextOrder_108 : decode cX11_nextOrder 108 = .ok (.iinc 4 1, 3) := by decide +kernel
theorem dX11_nextOrder_111 : decode cX11_nextOrder 111 = .ok (.iinc 5 (-1), 3) := by decide +kernel
theorem dX11_nextOrder_114 : decode cX11_nextOrder 114 = .ok (.goto (-21), 3) := by decide +kernel
theorem dX11_nextOrder_117 : decode cX11_nextOrder 117 = .ok (.iconst 1, 1) := by decide +kernel
theorem dX11_nextOrder_118 : decode cX11_nextOrder 118 = .ok (.ireturn, 1) := by decide +kernel
theorem dX11_swapPlaces_0 : decode cX11_swapPlaces 0 = .ok (.aload_n 0, 1) := by decide +kernel
theorem dX11_swapPlaces_1 : decode cX11_swapPlaces 1 = .ok (.getfield 35, 3) := by decide +kernel
theorem dX11_swapPlaces_4 : decode cX11_swapPlaces 4 = .ok (.iload_n 1, 1) := by decide +kernel
theorem dX11_swapPlaces_5 : decode cX11_swapPlaces 5 = .ok (.invokestatic 322, 3) := by decide +kernel
theorem dX11_swapPlaces_8 : decode cX11_swapPlaces 8 = .ok (.istore_n 3, 1) := by decide +kernel
theorem dX11_swapPlaces_9 : decode cX11_swapPlaces 9 = .ok (.aload_n 0, 1) := by decide +kernel
theorem dX11_swapPlaces_10 : decode cX11_swapPlaces 10 = .ok (.getfield 35, 3) := by decide +kernel
theorem dX11_swapPlaces_13 : decode cX11_swapPlaces 13 = .ok (.iload_n 1, 1) := by decide +kernel
theorem dX11_swapPlaces_14 : decode cX11_swapPlaces 14 = .ok (.aload_n 0, 1) := by decide +kernel
theorem dX11_swapPlaces_15 : decode cX11_swapPlaces 15 = .ok (.getfield 35, 3) := by decide +kernel
theorem dX11_swapPlaces_18 : decode cX11_swapPlaces 18 = .ok (.iload_n 2, 1) := by decide +kernel
theorem dX11_swapPlaces_19 : decode cX11_swapPlaces 19 = .ok (.invokestatic 322, 3) := by decide +kernel
theorem dX11_swapPlaces_22 : decode cX11_swapPlaces 22 = .ok (.invokestatic 329, 3) := by decide +kernel
theorem dX11_swapPlaces_25 : decode cX11_swapPlaces 25 = .ok (.aload_n 0, 1) := by decide +kernel
theorem dX11_swapPlaces_26 : decode cX11_swapPlaces 26 = .ok (.getfield 35, 3) := by decide +kernel
theorem dX11_swapPlaces_29 : decode cX11_swapPlaces 29 = .ok (.iload_n 2, 1) := by decide +kernel
theorem dX11_swapPlaces_30 : decode cX11_swapPlaces 30 = .ok (.iload_n 3, 1) := by decide +kernel
theorem dX11_swapPlaces_31 : decode cX11_swapPlaces 31 = .ok (.invokestatic 329, 3) := by decide +kernel
theorem dX11_swapPlaces_34 : decode cX11_swapPlaces 34 = .ok (.return_, 1) := by decide +kernel
theorem dX11_areWorths_0 : decode cX11_areWorths 0 = .ok (.aload_n 0, 1) := by decide +kernel
theorem dX11_areWorths_1 : decode cX11_areWorths 1 = .ok (.getfield 182, 3) := by decide +kernel
theorem dX11_areWorths_4 : decode cX11_areWorths 4 = .ok (.bipush 10, 2) := by decide +kernel
theorem dX11_areWorths_6 : decode cX11_areWorths 6 = .ok (.if_icmp .eq 5, 3) := by decide +kernel
theorem dX11_areWorths_9 : decode cX11_areWorths 9 = .ok (.iconst 0, 1) := by decide +kernel
theorem dX11_areWorths_10 : decode cX11_areWorths 10 = .ok (.ireturn, 1) := by decide +kernel
theorem dX11_areWorths_11 : decode cX11_areWorths 11 = .ok (.iconst 0, 1) := by decide +kernel
theorem dX11_areWorths_12 : decode cX11_areWorths 12 = .ok (.istore_n 1, 1) := by decide +kernel
theorem dX11_areWorths_13 : decode cX11_areWorths 13 = .ok (.iload_n 1, 1) := by decide +kernel
theorem dX11_areWorths_14 : decode cX11_areWorths 14 = .ok (.bipush 10, 2) := by decide +kernel
theorem dX11_areWorths_16 : decode cX11_areWorths 16 = .ok (.if_icmp .ge 31, 3) := by decide +kernel
theorem dX11_areWorths_19 : decode cX11_areWorths 19 = .ok (.aload_n 0, 1) := by decide +kernel
theorem dX11_areWorths_20 : decode cX11_areWorths 20 = .ok (.iload_n 1, 1) := by decide +kernel
theorem dX11_areWorths_21 : decode cX11_areWorths 21 = .ok (.invokevirtual 269, 3) := by decide +kernel
theorem dX11_areWorths_24 : decode cX11_areWorths 24 = .ok (.istore_n 2, 1) := by decide +kernel
theorem dX11_areWorths_25 : decode cX11_areWorths 25 = .ok (.iload_n 2, 1) := by decide +kernel
theorem dX11_areWorths_26 : decode cX11_areWorths 26 = .ok (.sipush (-999), 3) := by decide +kernel
theorem dX11_areWorths_29 : decode cX11_areWorths 29 = .ok (.if_icmp .lt 10, 3) := by decide +kernel
theorem dX11_areWorths_32 : decode cX11_areWorths 32 = .ok (.iload_n 2, 1) := by decide +kernel
theorem dX11_areWorths_33 : decode cX11_areWorths 33 = .ok (.sipush 999, 3) := by decide +kernel
theorem dX11_areWorths_36 : decode cX11_areWorths 36 = .ok (.if_icmp .le 5, 3) := by decide +kernel
theorem dX11_areWorths_39 : decode cX11_areWorths 39 = .ok (.iconst 0, 1) := by decide +kernel
theorem dX11_areWorths_40 : decode cX11_areWorths 40 = .ok (.ireturn, 1) := by decide +kernel
theorem dX11_areWorths_41 : decode cX11_areWorths 41 = .ok (.iinc 1 1, 3) := by decide +kernel
theorem dX11_areWorths_44 : decode cX11_areWorths 44 = .ok (.goto (-31), 3) := by decide +kernel
theorem dX11_areWorths_47 : decode cX11_areWorths 47 = .ok (.iconst 1, 1) := by decide +kernel
theorem dX11_areWorths_48 : decode cX11_areWorths 48 = .ok (.ireturn, 1) := by decide +kernel
theorem dX11_listMoves_0 : decode cX11_listMoves 0 = .ok (.aload_n 0, 1) := by decide +kernel
theorem dX11_listMoves_1 : decode cX11_listMoves 1 = .ok (.iconst 0, 1) := by decide +kernel
theorem dX11_listMoves_2 : decode cX11_listMoves 2 = .ok (.putfield 333, 3) := by decide +kernel
theorem dX11_listMoves_5 : decode cX11_listMoves 5 = .ok (.aload_n 0, 1) := by decide +kernel
theorem dX11_listMoves_6 : decode cX11_listMoves 6 = .ok (.bipush 9, 2) := by decide +kernel
theorem dX11_listMoves_8 : decode cX11_listMoves 8 = .ok (.bipush 9, 2) := by decide +kernel
theorem dX11_listMoves_10 : decode cX11_listMoves 10 = .ok (.iconst 1, 1) := by decide +kernel
theorem dX11_listMoves_11 : decode cX11_listMoves 11 = .ok (.invokevirtual 336, 3) := by decide +kernel
theorem dX11_listMoves_14 : decode cX11_listMoves 14 = .ok (.iconst 0, 1) := by decide +kernel
theorem dX11_listMoves_15 : decode cX11_listMoves 15 = .ok (.istore_n 1, 1) := by decide +kernel
theorem dX11_listMoves_16 : decode cX11_listMoves 16 = .ok (.iload_n 1, 1) := by decide +kernel
theorem dX11_listMoves_17 : decode cX11_listMoves 17 = .ok (.aload_n 0, 1) := by decide +kernel
theorem dX11_listMoves_18 : decode cX11_listMoves 18 = .ok (.getfield 10, 3) := by decide +kernel
theorem dX11_listMoves_21 : decode cX11_listMoves 21 = .ok (.getfield 207, 3) := by decide +kernel
theorem dX11_listMoves_24 : decode cX11_listMoves 24 = .ok (.if_icmp .ge 17, 3) := by decide +kernel
theorem dX11_listMoves_27 : decode cX11_listMoves 27 = .ok (.aload_n 0, 1) := by decide +kernel
theorem dX11_listMoves_28 : decode cX11_listMoves 28 = .ok (.iload_n 1, 1) := by decide +kernel
theorem dX11_listMoves_29 : decode cX11_listMoves 29 = .ok (.bipush 9, 2) := by decide +kernel
theorem dX11_listMoves_31 : decode cX11_listMoves 31 = .ok (.iconst 2, 1) := by decide +kernel
theorem dX11_listMoves_32 : decode cX11_listMoves 32 = .ok (.invokevirtual 336, 3) := by decide +kernel
theorem dX11_listMoves_35 : decode cX11_listMoves 35 = .ok (.iinc 1 1, 3) := by decide +kernel
theorem dX11_listMoves_38 : decode cX11_listMoves 38 = .ok (.goto (-22), 3) := by decide +kernel
theorem dX11_listMoves_41 : decode cX11_listMoves 41 = .ok (.iconst 0, 1) := by decide +kernel
theorem dX11_listMoves_42 : decode cX11_listMoves 42 = .ok (.istore_n 1, 1) := by decide +kernel
theorem dX11_listMoves_43 : decode cX11_listMoves 43 = .ok (.iload_n 1, 1) := by decide +kernel
theorem dX11_listMoves_44 : decode cX11_listMoves 44 = .ok (.aload_n 0, 1) := by decide +kernel
theorem dX11_listMoves_45 : decode cX11_listMoves 45 = .ok (.getfield 10, 3) := by decide +kernel
theorem dX11_listMoves_48 : decode cX11_listMoves 48 = .ok (.getfield 207, 3) := by decide +kernel
theorem dX11_listMoves_51 : decode cX11_listMoves 51 = .ok (.if_icmp .ge 40, 3) := by decide +kernel
theorem dX11_listMoves_54 : decode cX11_listMoves 54 = .ok (.iconst 0, 1) := by decide +kernel
theorem dX11_listMoves_55 : decode cX11_listMoves 55 = .ok (.istore_n 2, 1) := by decide +kernel
theorem dX11_listMoves_56 : decode cX11_listMoves 56 = .ok (.iload_n 2, 1) := by decide +kernel
theorem dX11_listMoves_57 : decode cX11_listMoves 57 = .ok (.aload_n 0, 1) := by decide +kernel
theorem dX11_listMoves_58 : decode cX11_listMoves 58 = .ok (.getfield 10, 3) := by decide +kernel
theorem dX11_listMoves_61 : decode cX11_listMoves 61 = .ok (.getfield 207, 3) := by decide +kernel
theorem dX11_listMoves_64 : decode cX11_listMoves 64 = .ok (.if_icmp .ge 21, 3) := by decide +kernel
theorem dX11_listMoves_67 : decode cX11_listMoves 67 = .ok (.iload_n 2, 1) := by decide +kernel
theorem dX11_listMoves_68 : decode cX11_listMoves 68 = .ok (.iload_n 1, 1) := by decide +kernel
theorem dX11_listMoves_69 : decode cX11_listMoves 69 = .ok (.if_icmp .eq 10, 3) := by decide +kernel
theorem dX11_listMoves_72 : decode cX11_listMoves 72 = .ok (.aload_n 0, 1) := by decide +kernel
theorem dX11_listMoves_73 : decode cX11_listMoves 73 = .ok (.iload_n 1, 1) := by decide +kernel
theorem dX11_listMoves_74 : decode cX11_listMoves 74 = .ok (.iload_n 2, 1) := by decide +kernel
theorem dX11_listMoves_75 : decode cX11_listMoves 75 = .ok (.iconst 4, 1) := by decide +kernel
theorem dX11_listMoves_76 : decode cX11_listMoves 76 = .ok (.invokevirtual 336, 3) := by decide +kernel
theorem dX11_listMoves_79 : decode cX11_listMoves 79 = .ok (.iinc 2 1, 3) := by decide +kernel
theorem dX11_listMoves_82 : decode cX11_listMoves 82 = .ok (.goto (-26), 3) := by decide +kernel
theorem dX11_listMoves_85 : decode cX11_listMoves 85 = .ok (.iinc 1 1, 3) := by decide +kernel
theorem dX11_listMoves_88 : decode cX11_listMoves 88 = .ok (.goto (-45), 3) := by decide +kernel
theorem dX11_listMoves_91 : decode cX11_listMoves 91 = .ok (.return_, 1) := by decide +kernel
theorem dX11_addMoves_0 : decode cX11_addMoves 0 = .ok (.iconst 0, 1) := by decide +kernel
theorem dX11_addMoves_1 : decode cX11_addMoves 1 = .ok (.istore 4, 2) := by decide +kernel
theorem dX11_addMoves_3 : decode cX11_addMoves 3 = .ok (.iload 4, 2) := by decide +kernel
theorem dX11_addMoves_5 : decode cX11_addMoves 5 = .ok (.iload_n 3, 1) := by decide +kernel
theorem dX11_addMoves_6 : decode cX11_addMoves 6 = .ok (.if_icmp .ge 42, 3) := by decide +kernel
theorem dX11_addMoves_9 : decode cX11_addMoves 9 = .ok (.aload_n 0, 1) := by decide +kernel
theorem dX11_addMoves_10 : decode cX11_addMoves 10 = .ok (.getfield 39, 3) := by decide +kernel
theorem dX11_addMoves_13 : decode cX11_addMoves 13 = .ok (.aload_n 0, 1) := by decide +kernel
theorem dX11_addMoves_14 : decode cX11_addMoves 14 = .ok (.getfield 333, 3) := by decide +kernel
theorem dX11_addMoves_17 : decode cX11_addMoves 17 = .ok (.bipush 100, 2) := by decide +kernel
theorem dX11_addMoves_19 : decode cX11_addMoves 19 = .ok (.iload 4, 2) := by decide +kernel
theorem dX11_addMoves_21 : decode cX11_addMoves 21 = .ok (.imul, 1) := by decide +kernel
theorem dX11_addMoves_22 : decode cX11_addMoves 22 = .ok (.bipush 10, 2) := by decide +kernel
theorem dX11_addMoves_24 : decode cX11_addMoves 24 = .ok (.iload_n 1, 1) := by decide +kernel
theorem dX11_addMoves_25 : decode cX11_addMoves 25 = .ok (.imul, 1) := by decide +kernel
theorem dX11_addMoves_26 : decode cX11_addMoves 26 = .ok (.iadd, 1) := by decide +kernel
theorem dX11_addMoves_27 : decode cX11_addMoves 27 = .ok (.iload_n 2, 1) := by decide +kernel
theorem dX11_addMoves_28 : decode cX11_addMoves 28 = .ok (.iadd, 1) := by decide +kernel
theorem dX11_addMoves_29 : decode cX11_addMoves 29 = .ok (.invokestatic 329, 3) := by decide +kernel
theorem dX11_addMoves_32 : decode cX11_addMoves 32 = .ok (.aload_n 0, 1) := by decide +kernel
theorem dX11_addMoves_33 : decode cX11_addMoves 33 = .ok (.dup, 1) := by decide +kernel
theorem dX11_addMoves_34 : decode cX11_addMoves 34 = .ok (.getfield 333, 3) := by decide +kernel
theorem dX11_addMoves_37 : decode cX11_addMoves 37 = .ok (.iconst 1, 1) := by decide +kernel
theorem dX11_addMoves_38 : decode cX11_addMoves 38 = .ok (.iadd, 1) := by decide +kernel
theorem dX11_addMoves_39 : decode cX11_addMoves 39 = .ok (.putfield 333, 3) := by decide +kernel
theorem dX11_addMoves_42 : decode cX11_addMoves 42 = .ok (.iinc 4 1, 3) := by decide +kernel
theorem dX11_addMoves_45 : decode cX11_addMoves 45 = .ok (.goto (-42), 3) := by decide +kernel
theorem dX11_addMoves_48 : decode cX11_addMoves 48 = .ok (.return_, 1) := by decide +kernel
theorem dX11_bestMove_0 : decode cX11_bestMove 0 = .ok (.aload_n 0, 1) := by decide +kernel
theorem dX11_bestMove_1 : decode cX11_bestMove 1 = .ok (.getfield 39, 3) := by decide +kernel
theorem dX11_bestMove_4 : decode cX11_bestMove 4 = .ok (.iconst 0, 1) := by decide +kernel
theorem dX11_bestMove_5 : decode cX11_bestMove 5 = .ok (.invokestatic 322, 3) := by decide +kernel
theorem dX11_bestMove_8 : decode cX11_bestMove 8 = .ok (.istore_n 3, 1) := by decide +kernel
theorem dX11_bestMove_9 : decode cX11_bestMove 9 = .ok (.aload_n 0, 1) := by decide +kernel
theorem dX11_bestMove_10 : decode cX11_bestMove 10 = .ok (.iload_n 3, 1) := by decide +kernel
theorem dX11_bestMove_11 : decode cX11_bestMove 11 = .ok (.iload_n 1, 1) := by decide +kernel
theorem dX11_bestMove_12 : decode cX11_bestMove 12 = .ok (.aload_n 2, 1) := by decide +kernel
theorem dX11_bestMove_13 : decode cX11_bestMove 13 = .ok (.invokevirtual 203, 3) := by decide +kernel
theorem dX11_bestMove_16 : decode cX11_bestMove 16 = .ok (.istore 4, 2) := by decide +kernel
theorem dX11_bestMove_18 : decode cX11_bestMove 18 = .ok (.iconst 0, 1) := by decide +kernel
theorem dX11_bestMove_19 : decode cX11_bestMove 19 = .ok (.istore 5, 2) := by decide +kernel
theorem dX11_bestMove_21 : decode cX11_bestMove 21 = .ok (.iload 5, 2) := by decide +kernel
theorem dX11_bestMove_23 : decode cX11_bestMove 23 = .ok (.aload_n 0, 1) := by decide +kernel
theorem dX11_bestMove_24 : decode cX11_bestMove 24 = .ok (.getfield 333, 3) := by decide +kernel
theorem dX11_bestMove_27 : decode cX11_bestMove 27 = .ok (.if_icmp .ge 104, 3) := by decide +kernel
theorem dX11_bestMove_30 : decode cX11_bestMove 30 = .ok (.aload_n 0, 1) := by decide +kernel
theorem dX11_bestMove_31 : decode cX11_bestMove 31 = .ok (.getfield 39, 3) := by decide +kernel
theorem dX11_bestMove_34 : decode cX11_bestMove 34 = .ok (.iload 5, 2) := by decide +kernel
theorem dX11_bestMove_36 : decode cX11_bestMove 36 = .ok (.invokestatic 322, 3) := by decide +kernel
theorem dX11_bestMove_39 : decode cX11_bestMove 39 = .ok (.istore 6, 2) := by decide +kernel
theorem dX11_bestMove_41 : decode cX11_bestMove 41 = .ok (.aload_n 0, 1) := by decide +kernel
theorem dX11_bestMove_42 : decode cX11_bestMove 42 = .ok (.iload 6, 2) := by decide +kernel
theorem dX11_bestMove_44 : decode cX11_bestMove 44 = .ok (.aload_n 0, 1) := by decide +kernel
theorem dX11_bestMove_45 : decode cX11_bestMove 45 = .ok (.getfield 10, 3) := by decide +kernel
theorem dX11_bestMove_48 : decode cX11_bestMove 48 = .ok (.getfield 94, 3) := by decide +kernel
theorem dX11_bestMove_51 : decode cX11_bestMove 51 = .ok (.aload_n 0, 1) := by decide +kernel
theorem dX11_bestMove_52 : decode cX11_bestMove 52 = .ok (.getfield 10, 3) := by decide +kernel
theorem dX11_bestMove_55 : decode cX11_bestMove 55 = .ok (.getfield 97, 3) := by decide +kernel
theorem dX11_bestMove_58 : decode cX11_bestMove 58 = .ok (.invokevirtual 340, 3) := by decide +kernel
theorem dX11_bestMove_61 : decode cX11_bestMove 61 = .ok (.aload_n 0, 1) := by decide +kernel
theorem dX11_bestMove_62 : decode cX11_bestMove 62 = .ok (.getfield 42, 3) := by decide +kernel
theorem dX11_bestMove_65 : decode cX11_bestMove 65 = .ok (.iload 5, 2) := by decide +kernel
theorem dX11_bestMove_67 : decode cX11_bestMove 67 = .ok (.sipush 10000, 3) := by decide +kernel
theorem dX11_bestMove_70 : decode cX11_bestMove 70 = .ok (.aload_n 0, 1) := by decide +kernel
theorem dX11_bestMove_71 : decode cX11_bestMove 71 = .ok (.getfield 25, 3) := by decide +kernel
theorem dX11_bestMove_74 : decode cX11_bestMove 74 = .ok (.getfield 155, 3) := by decide +kernel
theorem dX11_bestMove_77 : decode cX11_bestMove 77 = .ok (.imul, 1) := by decide +kernel
theorem dX11_bestMove_78 : decode cX11_bestMove 78 = .ok (.aload_n 0, 1) := by decide +kernel
theorem dX11_bestMove_79 : decode cX11_bestMove 79 = .ok (.getfield 25, 3) := by decide +kernel
theorem dX11_bestMove_82 : decode cX11_bestMove 82 = .ok (.getfield 162, 3) := by decide +kernel
theorem dX11_bestMove_85 : decode cX11_bestMove 85 = .ok (.iadd, 1) := by decide +kernel
theorem dX11_bestMove_86 : decode cX11_bestMove 86 = .ok (.invokestatic 329, 3) := by decide +kernel
theorem dX11_bestMove_89 : decode cX11_bestMove 89 = .ok (.aload_n 0, 1) := by decide +kernel
theorem dX11_bestMove_90 : decode cX11_bestMove 90 = .ok (.iload 5, 2) := by decide +kernel
theorem dX11_bestMove_92 : decode cX11_bestMove 92 = .ok (.invokevirtual 343, 3) := by decide +kernel
theorem dX11_bestMove_95 : decode cX11_bestMove 95 = .ok (.ifCond .eq 6, 3) := by decide +kernel
theorem dX11_bestMove_98 : decode cX11_bestMove 98 = .ok (.goto 27, 3) := by decide +kernel
theorem dX11_bestMove_101 : decode cX11_bestMove 101 = .ok (.aload_n 0, 1) := by decide +kernel
theorem dX11_bestMove_102 : decode cX11_bestMove 102 = .ok (.iload 6, 2) := by decide +kernel
theorem dX11_bestMove_104 : decode cX11_bestMove 104 = .ok (.iload_n 1, 1) := by decide +kernel
theorem dX11_bestMove_105 : decode cX11_bestMove 105 = .ok (.aload_n 2, 1) := by decide +kernel
theorem dX11_bestMove_106 : decode cX11_bestMove 106 = .ok (.invokevirtual 203, 3) := by decide +kernel
theorem dX11_bestMove_109 : decode cX11_bestMove 109 = .ok (.istore 7, 2) := by decide +kernel
theorem dX11_bestMove_111 : decode cX11_bestMove 111 = .ok (.iload 7, 2) := by decide +kernel
theorem dX11_bestMove_113 : decode cX11_bestMove 113 = .ok (.iload 4, 2) := by decide +kernel
theorem dX11_bestMove_115 : decode cX11_bestMove 115 = .ok (.if_icmp .le 10, 3) := by decide +kernel
theorem dX11_bestMove_118 : decode cX11_bestMove 118 = .ok (.iload 6, 2) := by decide +kernel
theorem dX11_bestMove_120 : decode cX11_bestMove 120 = .ok (.istore_n 3, 1) := by decide +kernel
theorem dX11_bestMove_121 : decode cX11_bestMove 121 = .ok (.iload 7, 2) := by decide +kernel
theorem dX11_bestMove_123 : decode cX11_bestMove 123 = .ok (.istore 4, 2) := by decide +kernel
theorem dX11_bestMove_125 : decode cX11_bestMove 125 = .ok (.iinc 5 1, 3) := by decide +kernel
theorem dX11_bestMove_128 : decode cX11_bestMove 128 = .ok (.goto (-107), 3) := by decide +kernel
theorem dX11_bestMove_131 : decode cX11_bestMove 131 = .ok (.iload_n 3, 1) := by decide +kernel
theorem dX11_bestMove_132 : decode cX11_bestMove 132 = .ok (.ireturn, 1) := by decide +kernel
theorem dX11_endedSoBefore_0 : decode cX11_endedSoBefore 0 = .ok (.iconst 0, 1) := by decide +kernel
theorem dX11_endedSoBefore_1 : decode cX11_endedSoBefore 1 = .ok (.istore_n 2, 1) := by decide +kernel
theorem dX11_endedSoBefore_2 : decode cX11_endedSoBefore 2 = .ok (.iload_n 2, 1) := by decide +kernel
theorem dX11_endedSoBefore_3 : decode cX11_endedSoBefore 3 = .ok (.iload_n 1, 1) := by decide +kernel
theorem dX11_endedSoBefore_4 : decode cX11_endedSoBefore 4 = .ok (.if_icmp .ge 30, 3) := by decide +kernel
theorem dX11_endedSoBefore_7 : decode cX11_endedSoBefore 7 = .ok (.aload_n 0, 1) := by decide +kernel
theorem dX11_endedSoBefore_8 : decode cX11_endedSoBefore 8 = .ok (.getfield 42, 3) := by decide +kernel
theorem dX11_endedSoBefore_11 : decode cX11_endedSoBefore 11 = .ok (.iload_n 2, 1) := by decide +kernel
theorem dX11_endedSoBefore_12 : decode cX11_endedSoBefore 12 = .ok (.invokestatic 322, 3) := by decide +kernel
theorem dX11_endedSoBefore_15 : decode cX11_endedSoBefore 15 = .ok (.aload_n 0, 1) := by decide +kernel
theorem dX11_endedSoBefore_16 : decode cX11_endedSoBefore 16 = .ok (.getfield 42, 3) := by decide +kernel
theorem dX11_endedSoBefore_19 : decode cX11_endedSoBefore 19 = .ok (.iload_n 1, 1) := by decide +kernel
theorem dX11_endedSoBefore_20 : decode cX11_endedSoBefore 20 = .ok (.invokestatic 322, 3) := by decide +kernel
theorem dX11_endedSoBefore_23 : decode cX11_endedSoBefore 23 = .ok (.if_icmp .ne 5, 3) := by decide +kernel
theorem dX11_endedSoBefore_26 : decode cX11_endedSoBefore 26 = .ok (.iconst 1, 1) := by decide +kernel
theorem dX11_endedSoBefore_27 : decode cX11_endedSoBefore 27 = .ok (.ireturn, 1) := by decide +kernel
theorem dX11_endedSoBefore_28 : decode cX11_endedSoBefore 28 = .ok (.iinc 2 1, 3) := by decide +kernel
theorem dX11_endedSoBefore_31 : decode cX11_endedSoBefore 31 = .ok (.goto (-29), 3) := by decide +kernel
theorem dX11_endedSoBefore_34 : decode cX11_endedSoBefore 34 = .ok (.iconst 0, 1) := by decide +kernel
theorem dX11_endedSoBefore_35 : decode cX11_endedSoBefore 35 = .ok (.ireturn, 1) := by decide +kernel
theorem dX11_worthOfMove_0 : decode cX11_worthOfMove 0 = .ok (.aload_n 0, 1) := by decide +kernel
theorem dX11_worthOfMove_1 : decode cX11_worthOfMove 1 = .ok (.iload_n 1, 1) := by decide +kernel
theorem dX11_worthOfMove_2 : decode cX11_worthOfMove 2 = .ok (.aload_n 0, 1) := by decide +kernel
theorem dX11_worthOfMove_3 : decode cX11_worthOfMove 3 = .ok (.getfield 10, 3) := by decide +kernel
theorem dX11_worthOfMove_6 : decode cX11_worthOfMove 6 = .ok (.getfield 94, 3) := by decide +kernel
theorem dX11_worthOfMove_9 : decode cX11_worthOfMove 9 = .ok (.aload_n 0, 1) := by decide +kernel
theorem dX11_worthOfMove_10 : decode cX11_worthOfMove 10 = .ok (.getfield 10, 3) := by decide +kernel
theorem dX11_worthOfMove_13 : decode cX11_worthOfMove 13 = .ok (.getfield 97, 3) := by decide +kernel
theorem dX11_worthOfMove_16 : decode cX11_worthOfMove 16 = .ok (.invokevirtual 340, 3) := by decide +kernel
theorem dX11_worthOfMove_19 : decode cX11_worthOfMove 19 = .ok (.aload_n 0, 1) := by decide +kernel
theorem dX11_worthOfMove_20 : decode cX11_worthOfMove 20 = .ok (.getfield 25, 3) := by decide +kernel
theorem dX11_worthOfMove_23 : decode cX11_worthOfMove 23 = .ok (.getfield 155, 3) := by decide +kernel
theorem dX11_worthOfMove_26 : decode cX11_worthOfMove 26 = .ok (.aload_n 3, 1) := by decide +kernel
theorem dX11_worthOfMove_27 : decode cX11_worthOfMove 27 = .ok (.invokestatic 346, 3) := by decide +kernel
theorem dX11_worthOfMove_30 : decode cX11_worthOfMove 30 = .ok (.istore 4, 2) := by decide +kernel
theorem dX11_worthOfMove_32 : decode cX11_worthOfMove 32 = .ok (.iload_n 2, 1) := by decide +kernel
theorem dX11_worthOfMove_33 : decode cX11_worthOfMove 33 = .ok (.iconst 1, 1) := by decide +kernel
theorem dX11_worthOfMove_34 : decode cX11_worthOfMove 34 = .ok (.if_icmp .ne 6, 3) := by decide +kernel
theorem dX11_worthOfMove_37 : decode cX11_worthOfMove 37 = .ok (.iload 4, 2) := by decide +kernel
theorem dX11_worthOfMove_39 : decode cX11_worthOfMove 39 = .ok (.ireturn, 1) := by decide +kernel
theorem dX11_worthOfMove_40 : decode cX11_worthOfMove 40 = .ok (.aload_n 0, 1) := by decide +kernel
theorem dX11_worthOfMove_41 : decode cX11_worthOfMove 41 = .ok (.getfield 25, 3) := by decide +kernel
theorem dX11_worthOfMove_44 : decode cX11_worthOfMove 44 = .ok (.getfield 155, 3) := by decide +kernel
theorem dX11_worthOfMove_47 : decode cX11_worthOfMove 47 = .ok (.istore 5, 2) := by decide +kernel
theorem dX11_worthOfMove_49 : decode cX11_worthOfMove 49 = .ok (.aload_n 0, 1) := by decide +kernel
theorem dX11_worthOfMove_50 : decode cX11_worthOfMove 50 = .ok (.getfield 25, 3) := by decide +kernel
theorem dX11_worthOfMove_53 : decode cX11_worthOfMove 53 = .ok (.getfield 162, 3) := by decide +kernel
theorem dX11_worthOfMove_56 : decode cX11_worthOfMove 56 = .ok (.istore 6, 2) := by decide +kernel
theorem dX11_worthOfMove_58 : decode cX11_worthOfMove 58 = .ok (.iconst 1, 1) := by decide +kernel
theorem dX11_worthOfMove_59 : decode cX11_worthOfMove 59 = .ok (.istore 7, 2) := by decide +kernel
theorem dX11_worthOfMove_61 : decode cX11_worthOfMove 61 = .ok (.iload 7, 2) := by decide +kernel
theorem dX11_worthOfMove_63 : decode cX11_worthOfMove 63 = .ok (.aload_n 0, 1) := by decide +kernel
theorem dX11_worthOfMove_64 : decode cX11_worthOfMove 64 = .ok (.getfield 333, 3) := by decide +kernel
theorem dX11_worthOfMove_67 : decode cX11_worthOfMove 67 = .ok (.if_icmp .ge 44, 3) := by decide +kernel
theorem dX11_worthOfMove_70 : decode cX11_worthOfMove 70 = .ok (.aload_n 0, 1) := by decide +kernel
theorem dX11_worthOfMove_71 : decode cX11_worthOfMove 71 = .ok (.aload_n 0, 1) := by decide +kernel
theorem dX11_worthOfMove_72 : decode cX11_worthOfMove 72 = .ok (.getfield 39, 3) := by decide +kernel
theorem dX11_worthOfMove_75 : decode cX11_worthOfMove 75 = .ok (.iload 7, 2) := by decide +kernel
theorem dX11_worthOfMove_77 : decode cX11_worthOfMove 77 = .ok (.invokestatic 322, 3) := by decide +kernel
theorem dX11_worthOfMove_80 : decode cX11_worthOfMove 80 = .ok (.iload 5, 2) := by decide +kernel
theorem dX11_worthOfMove_82 : decode cX11_worthOfMove 82 = .ok (.iload 6, 2) := by decide +kernel
theorem dX11_worthOfMove_84 : decode cX11_worthOfMove 84 = .ok (.invokevirtual 340, 3) := by decide +kernel
theorem dX11_worthOfMove_87 : decode cX11_worthOfMove 87 = .ok (.iload 4, 2) := by decide +kernel
theorem dX11_worthOfMove_89 : decode cX11_worthOfMove 89 = .ok (.aload_n 0, 1) := by decide +kernel
theorem dX11_worthOfMove_90 : decode cX11_worthOfMove 90 = .ok (.getfield 25, 3) := by decide +kernel
theorem dX11_worthOfMove_93 : decode cX11_worthOfMove 93 = .ok (.getfield 155, 3) := by decide +kernel
theorem dX11_worthOfMove_96 : decode cX11_worthOfMove 96 = .ok (.aload_n 3, 1) := by decide +kernel
theorem dX11_worthOfMove_97 : decode cX11_worthOfMove 97 = .ok (.invokestatic 346, 3) := by decide +kernel
theorem dX11_worthOfMove_100 : decode cX11_worthOfMove 100 = .ok (.invokestatic 349, 3) := by decide +kernel
theorem dX11_worthOfMove_103 : decode cX11_worthOfMove 103 = .ok (.istore 4, 2) := by decide +kernel
theorem dX11_worthOfMove_105 : decode cX11_worthOfMove 105 = .ok (.iinc 7 1, 3) := by decide +kernel
theorem dX11_worthOfMove_108 : decode cX11_worthOfMove 108 = .ok (.goto (-47), 3) := by decide +kernel
theorem dX11_worthOfMove_111 : decode cX11_worthOfMove 111 = .ok (.iload 4, 2) := by decide +kernel
theorem dX11_worthOfMove_113 : decode cX11_worthOfMove 113 = .ok (.ireturn, 1) := by decide +kernel
theorem dX11_playMove_0 : decode cX11_playMove 0 = .ok (.aload_n 0, 1) := by decide +kernel
theorem dX11_playMove_1 : decode cX11_playMove 1 = .ok (.getfield 25, 3) := by decide +kernel
theorem dX11_playMove_4 : decode cX11_playMove 4 = .ok (.aload_n 0, 1) := by decide +kernel
theorem dX11_playMove_5 : decode cX11_playMove 5 = .ok (.getfield 10, 3) := by decide +kernel
theorem dX11_playMove_8 : decode cX11_playMove 8 = .ok (.invokevirtual 306, 3) := by decide +kernel
theorem dX11_playMove_11 : decode cX11_playMove 11 = .ok (.aload_n 0, 1) := by decide +kernel
theorem dX11_playMove_12 : decode cX11_playMove 12 = .ok (.getfield 25, 3) := by decide +kernel
theorem dX11_playMove_15 : decode cX11_playMove 15 = .ok (.aload_n 0, 1) := by decide +kernel
theorem dX11_playMove_16 : decode cX11_playMove 16 = .ok (.getfield 10, 3) := by decide +kernel
theorem dX11_playMove_19 : decode cX11_playMove 19 = .ok (.iload_n 1, 1) := by decide +kernel
theorem dX11_playMove_20 : decode cX11_playMove 20 = .ok (.bipush 10, 2) := by decide +kernel
theorem dX11_playMove_22 : decode cX11_playMove 22 = .ok (.idiv, 1) := by decide +kernel
theorem dX11_playMove_23 : decode cX11_playMove 23 = .ok (.bipush 10, 2) := by decide +kernel
theorem dX11_playMove_25 : decode cX11_playMove 25 = .ok (.irem, 1) := by decide +kernel
theorem dX11_playMove_26 : decode cX11_playMove 26 = .ok (.invokevirtual 62, 3) := by decide +kernel
theorem dX11_playMove_29 : decode cX11_playMove 29 = .ok (.invokevirtual 309, 3) := by decide +kernel
theorem dX11_playMove_32 : decode cX11_playMove 32 = .ok (.aload_n 0, 1) := by decide +kernel
theorem dX11_playMove_33 : decode cX11_playMove 33 = .ok (.getfield 25, 3) := by decide +kernel
theorem dX11_playMove_36 : decode cX11_playMove 36 = .ok (.aload_n 0, 1) := by decide +kernel
theorem dX11_playMove_37 : decode cX11_playMove 37 = .ok (.getfield 10, 3) := by decide +kernel
theorem dX11_playMove_40 : decode cX11_playMove 40 = .ok (.iload_n 1, 1) := by decide +kernel
theorem dX11_playMove_41 : decode cX11_playMove 41 = .ok (.bipush 10, 2) := by decide +kernel
theorem dX11_playMove_43 : decode cX11_playMove 43 = .ok (.irem, 1) := by decide +kernel
theorem dX11_playMove_44 : decode cX11_playMove 44 = .ok (.invokevirtual 62, 3) := by decide +kernel
theorem dX11_playMove_47 : decode cX11_playMove 47 = .ok (.invokevirtual 309, 3) := by decide +kernel
theorem dX11_playMove_50 : decode cX11_playMove 50 = .ok (.aload_n 0, 1) := by decide +kernel
theorem dX11_playMove_51 : decode cX11_playMove 51 = .ok (.getfield 25, 3) := by decide +kernel
theorem dX11_playMove_54 : decode cX11_playMove 54 = .ok (.iload_n 2, 1) := by decide +kernel
theorem dX11_playMove_55 : decode cX11_playMove 55 = .ok (.iload_n 3, 1) := by decide +kernel
theorem dX11_playMove_56 : decode cX11_playMove 56 = .ok (.invokevirtual 145, 3) := by decide +kernel
theorem dX11_playMove_59 : decode cX11_playMove 59 = .ok (.aload_n 0, 1) := by decide +kernel
theorem dX11_playMove_60 : decode cX11_playMove 60 = .ok (.getfield 25, 3) := by decide +kernel
theorem dX11_playMove_63 : decode cX11_playMove 63 = .ok (.iload_n 1, 1) := by decide +kernel
theorem dX11_playMove_64 : decode cX11_playMove 64 = .ok (.bipush 100, 2) := by decide +kernel
theorem dX11_playMove_66 : decode cX11_playMove 66 = .ok (.idiv, 1) := by decide +kernel
theorem dX11_playMove_67 : decode cX11_playMove 67 = .ok (.invokevirtual 149, 3) := by decide +kernel
theorem dX11_playMove_70 : decode cX11_playMove 70 = .ok (.aload_n 0, 1) := by decide +kernel
theorem dX11_playMove_71 : decode cX11_playMove 71 = .ok (.getfield 25, 3) := by decide +kernel
theorem dX11_playMove_74 : decode cX11_playMove 74 = .ok (.invokevirtual 354, 3) := by decide +kernel
theorem dX11_playMove_77 : decode cX11_playMove 77 = .ok (.return_, 1) := by decide +kernel
theorem dX11_worthOfMarks_0 : decode cX11_worthOfMarks 0 = .ok (.iconst 0, 1) := by decide +kernel
theorem dX11_worthOfMarks_1 : decode cX11_worthOfMarks 1 = .ok (.istore_n 2, 1) := by decide +kernel
theorem dX11_worthOfMarks_2 : decode cX11_worthOfMarks 2 = .ok (.iconst 0, 1) := by decide +kernel
theorem dX11_worthOfMarks_3 : decode cX11_worthOfMarks 3 = .ok (.istore_n 3, 1) := by decide +kernel
theorem dX11_worthOfMarks_4 : decode cX11_worthOfMarks 4 = .ok (.iload_n 3, 1) := by decide +kernel
theorem dX11_worthOfMarks_5 : decode cX11_worthOfMarks 5 = .ok (.bipush 10, 2) := by decide +kernel
theorem dX11_worthOfMarks_7 : decode cX11_worthOfMarks 7 = .ok (.if_icmp .ge 25, 3) := by decide +kernel
theorem dX11_worthOfMarks_10 : decode cX11_worthOfMarks 10 = .ok (.iload_n 0, 1) := by decide +kernel
theorem dX11_worthOfMarks_11 : decode cX11_worthOfMarks 11 = .ok (.iload_n 3, 1) := by decide +kernel
theorem dX11_worthOfMarks_12 : decode cX11_worthOfMarks 12 = .ok (.ishr, 1) := by decide +kernel
theorem dX11_worthOfMarks_13 : decode cX11_worthOfMarks 13 = .ok (.iconst 1, 1) := by decide +kernel
theorem dX11_worthOfMarks_14 : decode cX11_worthOfMarks 14 = .ok (.iand, 1) := by decide +kernel
theorem dX11_worthOfMarks_15 : decode cX11_worthOfMarks 15 = .ok (.ifCond .eq 11, 3) := by decide +kernel
theorem dX11_worthOfMarks_18 : decode cX11_worthOfMarks 18 = .ok (.iload_n 2, 1) := by decide +kernel
theorem dX11_worthOfMarks_19 : decode cX11_worthOfMarks 19 = .ok (.aload_n 1, 1) := by decide +kernel
theorem dX11_worthOfMarks_20 : decode cX11_worthOfMarks 20 = .ok (.iload_n 3, 1) := by decide +kernel
theorem dX11_worthOfMarks_21 : decode cX11_worthOfMarks 21 = .ok (.invokevirtual 269, 3) := by decide +kernel
theorem dX11_worthOfMarks_24 : decode cX11_worthOfMarks 24 = .ok (.iadd, 1) := by decide +kernel
theorem dX11_worthOfMarks_25 : decode cX11_worthOfMarks 25 = .ok (.istore_n 2, 1) := by decide +kernel
theorem dX11_worthOfMarks_26 : decode cX11_worthOfMarks 26 = .ok (.iinc 3 1, 3) := by decide +kernel
theorem dX11_worthOfMarks_29 : decode cX11_worthOfMarks 29 = .ok (.goto (-25), 3) := by decide +kernel
theorem dX11_worthOfMarks_32 : decode cX11_worthOfMarks 32 = .ok (.iload_n 2, 1) := by decide +kernel
theorem dX11_worthOfMarks_33 : decode cX11_worthOfMarks 33 = .ok (.ireturn, 1) := by decide +kernel
theorem dX11_playTwo_0 : decode cX11_playTwo 0 = .ok (.iconst 0, 1) := by decide +kernel
theorem dX11_playTwo_1 : decode cX11_playTwo 1 = .ok (.istore 5, 2) := by decide +kernel
theorem dX11_playTwo_3 : decode cX11_playTwo 3 = .ok (.iconst 0, 1) := by decide +kernel
theorem dX11_playTwo_4 : decode cX11_playTwo 4 = .ok (.istore 6, 2) := by decide +kernel
theorem dX11_playTwo_6 : decode cX11_playTwo 6 = .ok (.aload_n 0, 1) := by decide +kernel
theorem dX11_playTwo_7 : decode cX11_playTwo 7 = .ok (.getfield 25, 3) := by decide +kernel
theorem dX11_playTwo_10 : decode cX11_playTwo 10 = .ok (.aload_n 0, 1) := by decide +kernel
theorem dX11_playTwo_11 : decode cX11_playTwo 11 = .ok (.getfield 10, 3) := by decide +kernel
theorem dX11_playTwo_14 : decode cX11_playTwo 14 = .ok (.invokevirtual 306, 3) := by decide +kernel
theorem dX11_playTwo_17 : decode cX11_playTwo 17 = .ok (.iconst 0, 1) := by decide +kernel
theorem dX11_playTwo_18 : decode cX11_playTwo 18 = .ok (.istore 7, 2) := by decide +kernel
theorem dX11_playTwo_20 : decode cX11_playTwo 20 = .ok (.iload 7, 2) := by decide +kernel
theorem dX11_playTwo_22 : decode cX11_playTwo 22 = .ok (.bipush 8, 2) := by decide +kernel
theorem dX11_playTwo_24 : decode cX11_playTwo 24 = .ok (.if_icmp .ge 120, 3) := by decide +kernel
theorem dX11_playTwo_27 : decode cX11_playTwo 27 = .ok (.iload 7, 2) := by decide +kernel
theorem dX11_playTwo_29 : decode cX11_playTwo 29 = .ok (.aload_n 1, 1) := by decide +kernel
theorem dX11_playTwo_30 : decode cX11_playTwo 30 = .ok (.getfield 182, 3) := by decide +kernel
theorem dX11_playTwo_33 : decode cX11_playTwo 33 = .ok (.if_icmp .ge 56, 3) := by decide +kernel
theorem dX11_playTwo_36 : decode cX11_playTwo 36 = .ok (.iload 5, 2) := by decide +kernel
theorem dX11_playTwo_38 : decode cX11_playTwo 38 = .ok (.iconst 1, 1) := by decide +kernel
theorem dX11_playTwo_39 : decode cX11_playTwo 39 = .ok (.aload_n 0, 1) := by decide +kernel
theorem dX11_playTwo_40 : decode cX11_playTwo 40 = .ok (.getfield 25, 3) := by decide +kernel
theorem dX11_playTwo_43 : decode cX11_playTwo 43 = .ok (.getfield 156, 3) := by decide +kernel
theorem dX11_playTwo_46 : decode cX11_playTwo 46 = .ok (.ishl, 1) := by decide +kernel
theorem dX11_playTwo_47 : decode cX11_playTwo 47 = .ok (.ior, 1) := by decide +kernel
theorem dX11_playTwo_48 : decode cX11_playTwo 48 = .ok (.istore 5, 2) := by decide +kernel
theorem dX11_playTwo_50 : decode cX11_playTwo 50 = .ok (.iload 6, 2) := by decide +kernel
theorem dX11_playTwo_52 : decode cX11_playTwo 52 = .ok (.iload_n 3, 1) := by decide +kernel
theorem dX11_playTwo_53 : decode cX11_playTwo 53 = .ok (.iload 7, 2) := by decide +kernel
theorem dX11_playTwo_55 : decode cX11_playTwo 55 = .ok (.ishr, 1) := by decide +kernel
theorem dX11_playTwo_56 : decode cX11_playTwo 56 = .ok (.iconst 1, 1) := by decide +kernel
theorem dX11_playTwo_57 : decode cX11_playTwo 57 = .ok (.iand, 1) := by decide +kernel
theorem dX11_playTwo_58 : decode cX11_playTwo 58 = .ok (.aload_n 0, 1) := by decide +kernel
theorem dX11_playTwo_59 : decode cX11_playTwo 59 = .ok (.getfield 25, 3) := by decide +kernel
theorem dX11_playTwo_62 : decode cX11_playTwo 62 = .ok (.getfield 156, 3) := by decide +kernel
theorem dX11_playTwo_65 : decode cX11_playTwo 65 = .ok (.ishl, 1) := by decide +kernel
theorem dX11_playTwo_66 : decode cX11_playTwo 66 = .ok (.ior, 1) := by decide +kernel
theorem dX11_playTwo_67 : decode cX11_playTwo 67 = .ok (.istore 6, 2) := by decide +kernel
theorem dX11_playTwo_69 : decode cX11_playTwo 69 = .ok (.aload_n 0, 1) := by decide +kernel
theorem dX11_playTwo_70 : decode cX11_playTwo 70 = .ok (.getfield 25, 3) := by decide +kernel
theorem dX11_playTwo_73 : decode cX11_playTwo 73 = .ok (.aload_n 0, 1) := by decide +kernel
theorem dX11_playTwo_74 : decode cX11_playTwo 74 = .ok (.getfield 10, 3) := by decide +kernel
theorem dX11_playTwo_77 : decode cX11_playTwo 77 = .ok (.aload_n 1, 1) := by decide +kernel
theorem dX11_playTwo_78 : decode cX11_playTwo 78 = .ok (.iload 7, 2) := by decide +kernel
theorem dX11_playTwo_80 : decode cX11_playTwo 80 = .ok (.invokevirtual 269, 3) := by decide +kernel
theorem dX11_playTwo_83 : decode cX11_playTwo 83 = .ok (.invokevirtual 62, 3) := by decide +kernel
theorem dX11_playTwo_86 : decode cX11_playTwo 86 = .ok (.invokevirtual 309, 3) := by decide +kernel
theorem dX11_playTwo_89 : decode cX11_playTwo 89 = .ok (.iload 7, 2) := by decide +kernel
theorem dX11_playTwo_91 : decode cX11_playTwo 91 = .ok (.aload_n 2, 1) := by decide +kernel
theorem dX11_playTwo_92 : decode cX11_playTwo 92 = .ok (.getfield 182, 3) := by decide +kernel
theorem dX11_playTwo_95 : decode cX11_playTwo 95 = .ok (.if_icmp .ge 43, 3) := by decide +kernel
theorem dX11_playTwo_98 : decode cX11_playTwo 98 = .ok (.iload 6, 2) := by decide +kernel
theorem dX11_playTwo_100 : decode cX11_playTwo 100 = .ok (.iload 4, 2) := by decide +kernel
theorem dX11_playTwo_102 : decode cX11_playTwo 102 = .ok (.iload 7, 2) := by decide +kernel
theorem dX11_playTwo_104 : decode cX11_playTwo 104 = .ok (.ishr, 1) := by decide +kernel
theorem dX11_playTwo_105 : decode cX11_playTwo 105 = .ok (.iconst 1, 1) := by decide +kernel
theorem dX11_playTwo_106 : decode cX11_playTwo 106 = .ok (.iand, 1) := by decide +kernel
theorem dX11_playTwo_107 : decode cX11_playTwo 107 = .ok (.aload_n 0, 1) := by decide +kernel
theorem dX11_playTwo_108 : decode cX11_playTwo 108 = .ok (.getfield 25, 3) := by decide +kernel
theorem dX11_playTwo_111 : decode cX11_playTwo 111 = .ok (.getfield 156, 3) := by decide +kernel
theorem dX11_playTwo_114 : decode cX11_playTwo 114 = .ok (.ishl, 1) := by decide +kernel
theorem dX11_playTwo_115 : decode cX11_playTwo 115 = .ok (.ior, 1) := by decide +kernel
theorem dX11_playTwo_116 : decode cX11_playTwo 116 = .ok (.istore 6, 2) := by decide +kernel
theorem dX11_playTwo_118 : decode cX11_playTwo 118 = .ok (.aload_n 0, 1) := by decide +kernel
theorem dX11_playTwo_119 : decode cX11_playTwo 119 = .ok (.getfield 25, 3) := by decide +kernel
theorem dX11_playTwo_122 : decode cX11_playTwo 122 = .ok (.aload_n 0, 1) := by decide +kernel
theorem dX11_playTwo_123 : decode cX11_playTwo 123 = .ok (.getfield 10, 3) := by decide +kernel
theorem dX11_playTwo_126 : decode cX11_playTwo 126 = .ok (.aload_n 2, 1) := by decide +kernel
theorem dX11_playTwo_127 : decode cX11_playTwo 127 = .ok (.iload 7, 2) := by decide +kernel
theorem dX11_playTwo_129 : decode cX11_playTwo 129 = .ok (.invokevirtual 269, 3) := by decide +kernel
theorem dX11_playTwo_132 : decode cX11_playTwo 132 = .ok (.invokevirtual 62, 3) := by decide +kernel
theorem dX11_playTwo_135 : decode cX11_playTwo 135 = .ok (.invokevirtual 309, 3) := by decide +kernel
theorem dX11_playTwo_138 : decode cX11_playTwo 138 = .ok (.iinc 7 1, 3) := by decide +kernel
theorem dX11_playTwo_141 : decode cX11_playTwo 141 = .ok (.goto (-121), 3) := by decide +kernel
theorem dX11_playTwo_144 : decode cX11_playTwo 144 = .ok (.aload_n 0, 1) := by decide +kernel
theorem dX11_playTwo_145 : decode cX11_playTwo 145 = .ok (.getfield 25, 3) := by decide +kernel
theorem dX11_playTwo_148 : decode cX11_playTwo 148 = .ok (.iload 6, 2) := by decide +kernel
theorem dX11_playTwo_150 : decode cX11_playTwo 150 = .ok (.invokevirtual 176, 3) := by decide +kernel
theorem dX11_playTwo_153 : decode cX11_playTwo 153 = .ok (.iload 5, 2) := by decide +kernel
theorem dX11_playTwo_155 : decode cX11_playTwo 155 = .ok (.ireturn, 1) := by decide +kernel
theorem dX11_playSeeds_0 : decode cX11_playSeeds 0 = .ok (.iconst 0, 1) := by decide +kernel
theorem dX11_playSeeds_1 : decode cX11_playSeeds 1 = .ok (.istore_n 3, 1) := by decide +kernel
theorem dX11_playSeeds_2 : decode cX11_playSeeds 2 = .ok (.iload_n 2, 1) := by decide +kernel
theorem dX11_playSeeds_3 : decode cX11_playSeeds 3 = .ok (.istore 4, 2) := by decide +kernel
theorem dX11_playSeeds_5 : decode cX11_playSeeds 5 = .ok (.aload_n 0, 1) := by decide +kernel
theorem dX11_playSeeds_6 : decode cX11_playSeeds 6 = .ok (.getfield 25, 3) := by decide +kernel
theorem dX11_playSeeds_9 : decode cX11_playSeeds 9 = .ok (.aload_n 0, 1) := by decide +kernel
theorem dX11_playSeeds_10 : decode cX11_playSeeds 10 = .ok (.getfield 10, 3) := by decide +kernel
theorem dX11_playSeeds_13 : decode cX11_playSeeds 13 = .ok (.getfield 94, 3) := by decide +kernel
theorem dX11_playSeeds_16 : decode cX11_playSeeds 16 = .ok (.aload_n 0, 1) := by decide +kernel
theorem dX11_playSeeds_17 : decode cX11_playSeeds 17 = .ok (.getfield 10, 3) := by decide +kernel
theorem dX11_playSeeds_20 : decode cX11_playSeeds 20 = .ok (.getfield 97, 3) := by decide +kernel
theorem dX11_playSeeds_23 : decode cX11_playSeeds 23 = .ok (.invokevirtual 145, 3) := by decide +kernel
theorem dX11_playSeeds_26 : decode cX11_playSeeds 26 = .ok (.iconst 0, 1) := by decide +kernel
theorem dX11_playSeeds_27 : decode cX11_playSeeds 27 = .ok (.istore 5, 2) := by decide +kernel
theorem dX11_playSeeds_29 : decode cX11_playSeeds 29 = .ok (.iload 5, 2) := by decide +kernel
theorem dX11_playSeeds_31 : decode cX11_playSeeds 31 = .ok (.iload_n 1, 1) := by decide +kernel
theorem dX11_playSeeds_32 : decode cX11_playSeeds 32 = .ok (.if_icmp .ge 150, 3) := by decide +kernel
theorem dX11_playSeeds_35 : decode cX11_playSeeds 35 = .ok (.aload_n 0, 1) := by decide +kernel
theorem dX11_playSeeds_36 : decode cX11_playSeeds 36 = .ok (.getfield 25, 3) := by decide +kernel
theorem dX11_playSeeds_39 : decode cX11_playSeeds 39 = .ok (.aload_n 0, 1) := by decide +kernel
theorem dX11_playSeeds_40 : decode cX11_playSeeds 40 = .ok (.getfield 10, 3) := by decide +kernel
theorem dX11_playSeeds_43 : decode cX11_playSeeds 43 = .ok (.invokevirtual 306, 3) := by decide +kernel
theorem dX11_playSeeds_46 : decode cX11_playSeeds 46 = .ok (.iload 4, 2) := by decide +kernel
theorem dX11_playSeeds_48 : decode cX11_playSeeds 48 = .ok (.invokestatic 357, 3) := by decide +kernel
theorem dX11_playSeeds_51 : decode cX11_playSeeds 51 = .ok (.istore 4, 2) := by decide +kernel
theorem dX11_playSeeds_53 : decode cX11_playSeeds 53 = .ok (.iconst 1, 1) := by decide +kernel
theorem dX11_playSeeds_54 : decode cX11_playSeeds 54 = .ok (.iload 4, 2) := by decide +kernel
theorem dX11_playSeeds_56 : decode cX11_playSeeds 56 = .ok (.iconst 4, 1) := by decide +kernel
theorem dX11_playSeeds_57 : decode cX11_playSeeds 57 = .ok (.invokestatic 360, 3) := by decide +kernel
theorem dX11_playSeeds_60 : decode cX11_playSeeds 60 = .ok (.iadd, 1) := by decide +kernel
theorem dX11_playSeeds_61 : decode cX11_playSeeds 61 = .ok (.istore 6, 2) := by decide +kernel
theorem dX11_playSeeds_63 : decode cX11_playSeeds 63 = .ok (.iconst 0, 1) := by decide +kernel
theorem dX11_playSeeds_64 : decode cX11_playSeeds 64 = .ok (.istore 7, 2) := by decide +kernel
theorem dX11_playSeeds_66 : decode cX11_playSeeds 66 = .ok (.iload 7, 2) := by decide +kernel
theorem dX11_playSeeds_68 : decode cX11_playSeeds 68 = .ok (.iload 6, 2) := by decide +kernel
theorem dX11_playSeeds_70 : decode cX11_playSeeds 70 = .ok (.if_icmp .ge 42, 3) := by decide +kernel
theorem dX11_playSeeds_73 : decode cX11_playSeeds 73 = .ok (.iload 4, 2) := by decide +kernel
theorem dX11_playSeeds_75 : decode cX11_playSeeds 75 = .ok (.invokestatic 357, 3) := by decide +kernel
theorem dX11_playSeeds_78 : decode cX11_playSeeds 78 = .ok (.istore 4, 2) := by decide +kernel
theorem dX11_playSeeds_80 : decode cX11_playSeeds 80 = .ok (.aload_n 0, 1) := by decide +kernel
theorem dX11_playSeeds_81 : decode cX11_playSeeds 81 = .ok (.getfield 25, 3) := by decide +kernel
theorem dX11_playSeeds_84 : decode cX11_playSeeds 84 = .ok (.aload_n 0, 1) := by decide +kernel
theorem dX11_playSeeds_85 : decode cX11_playSeeds 85 = .ok (.getfield 10, 3) := by decide +kernel
theorem dX11_playSeeds_88 : decode cX11_playSeeds 88 = .ok (.iload 4, 2) := by decide +kernel
theorem dX11_playSeeds_90 : decode cX11_playSeeds 90 = .ok (.aload_n 0, 1) := by decide +kernel
theorem dX11_playSeeds_91 : decode cX11_playSeeds 91 = .ok (.getfield 10, 3) := by decide +kernel
theorem dX11_playSeeds_94 : decode cX11_playSeeds 94 = .ok (.getfield 207, 3) := by decide +kernel
theorem dX11_playSeeds_97 : decode cX11_playSeeds 97 = .ok (.invokestatic 360, 3) := by decide +kernel
theorem dX11_playSeeds_100 : decode cX11_playSeeds 100 = .ok (.invokevirtual 62, 3) := by decide +kernel
theorem dX11_playSeeds_103 : decode cX11_playSeeds 103 = .ok (.invokevirtual 309, 3) := by decide +kernel
theorem dX11_playSeeds_106 : decode cX11_playSeeds 106 = .ok (.iinc 7 1, 3) := by decide +kernel
theorem dX11_playSeeds_109 : decode cX11_playSeeds 109 = .ok (.goto (-43), 3) := by decide +kernel
theorem dX11_playSeeds_112 : decode cX11_playSeeds 112 = .ok (.iload 4, 2) := by decide +kernel
theorem dX11_playSeeds_114 : decode cX11_playSeeds 114 = .ok (.invokestatic 357, 3) := by decide +kernel
theorem dX11_playSeeds_117 : decode cX11_playSeeds 117 = .ok (.istore 4, 2) := by decide +kernel
theorem dX11_playSeeds_119 : decode cX11_playSeeds 119 = .ok (.aload_n 0, 1) := by decide +kernel
theorem dX11_playSeeds_120 : decode cX11_playSeeds 120 = .ok (.getfield 25, 3) := by decide +kernel
theorem dX11_playSeeds_123 : decode cX11_playSeeds 123 = .ok (.aload_n 0, 1) := by decide +kernel
theorem dX11_playSeeds_124 : decode cX11_playSeeds 124 = .ok (.getfield 25, 3) := by decide +kernel
theorem dX11_playSeeds_127 : decode cX11_playSeeds 127 = .ok (.getfield 155, 3) := by decide +kernel
theorem dX11_playSeeds_130 : decode cX11_playSeeds 130 = .ok (.aload_n 0, 1) := by decide +kernel
theorem dX11_playSeeds_131 : decode cX11_playSeeds 131 = .ok (.getfield 25, 3) := by decide +kernel
theorem dX11_playSeeds_134 : decode cX11_playSeeds 134 = .ok (.getfield 162, 3) := by decide +kernel
theorem dX11_playSeeds_137 : decode cX11_playSeeds 137 = .ok (.invokevirtual 145, 3) := by decide +kernel
theorem dX11_playSeeds_140 : decode cX11_playSeeds 140 = .ok (.aload_n 0, 1) := by decide +kernel
theorem dX11_playSeeds_141 : decode cX11_playSeeds 141 = .ok (.getfield 25, 3) := by decide +kernel
theorem dX11_playSeeds_144 : decode cX11_playSeeds 144 = .ok (.iload 4, 2) := by decide +kernel
theorem dX11_playSeeds_146 : decode cX11_playSeeds 146 = .ok (.iconst 1, 1) := by decide +kernel
theorem dX11_playSeeds_147 : decode cX11_playSeeds 147 = .ok (.iload 6, 2) := by decide +kernel
theorem dX11_playSeeds_149 : decode cX11_playSeeds 149 = .ok (.ishl, 1) := by decide +kernel
theorem dX11_playSeeds_150 : decode cX11_playSeeds 150 = .ok (.invokestatic 360, 3) := by decide +kernel
theorem dX11_playSeeds_153 : decode cX11_playSeeds 153 = .ok (.invokevirtual 149, 3) := by decide +kernel
theorem dX11_playSeeds_156 : decode cX11_playSeeds 156 = .ok (.aload_n 0, 1) := by decide +kernel
theorem dX11_playSeeds_157 : decode cX11_playSeeds 157 = .ok (.getfield 25, 3) := by decide +kernel
theorem dX11_playSeeds_160 : decode cX11_playSeeds 160 = .ok (.invokevirtual 354, 3) := by decide +kernel
theorem dX11_playSeeds_163 : decode cX11_playSeeds 163 = .ok (.iload_n 3, 1) := by decide +kernel
theorem dX11_playSeeds_164 : decode cX11_playSeeds 164 = .ok (.aload_n 0, 1) := by decide +kernel
theorem dX11_playSeeds_165 : decode cX11_playSeeds 165 = .ok (.getfield 25, 3) := by decide +kernel
theorem dX11_playSeeds_168 : decode cX11_playSeeds 168 = .ok (.getfield 163, 3) := by decide +kernel
theorem dX11_playSeeds_171 : decode cX11_playSeeds 171 = .ok (.invokestatic 137, 3) := by decide +kernel
theorem dX11_playSeeds_174 : decode cX11_playSeeds 174 = .ok (.iadd, 1) := by decide +kernel
theorem dX11_playSeeds_175 : decode cX11_playSeeds 175 = .ok (.istore_n 3, 1) := by decide +kernel
theorem dX11_playSeeds_176 : decode cX11_playSeeds 176 = .ok (.iinc 5 1, 3) := by decide +kernel
theorem dX11_playSeeds_179 : decode cX11_playSeeds 179 = .ok (.goto (-150), 3) := by decide +kernel
theorem dX11_playSeeds_182 : decode cX11_playSeeds 182 = .ok (.iload_n 3, 1) := by decide +kernel
theorem dX11_playSeeds_183 : decode cX11_playSeeds 183 = .ok (.ireturn, 1) := by decide +kernel
theorem dX11_nextSeed_0 : decode cX11_nextSeed 0 = .ok (.iload_n 0, 1) := by decide +kernel
theorem dX11_nextSeed_1 : decode cX11_nextSeed 1 = .ok (.ldc_w 363, 3) := by decide +kernel
theorem dX11_nextSeed_4 : decode cX11_nextSeed 4 = .ok (.imul, 1) := by decide +kernel
theorem dX11_nextSeed_5 : decode cX11_nextSeed 5 = .ok (.sipush 12345, 3) := by decide +kernel
theorem dX11_nextSeed_8 : decode cX11_nextSeed 8 = .ok (.iadd, 1) := by decide +kernel
theorem dX11_nextSeed_9 : decode cX11_nextSeed 9 = .ok (.ireturn, 1) := by decide +kernel
theorem dX11_drawn_0 : decode cX11_drawn 0 = .ok (.iload_n 1, 1) := by decide +kernel
theorem dX11_drawn_1 : decode cX11_drawn 1 = .ok (.ifCond .gt 7, 3) := by decide +kernel
theorem dX11_drawn_4 : decode cX11_drawn 4 = .ok (.iconst 0, 1) := by decide +kernel
theorem dX11_drawn_5 : decode cX11_drawn 5 = .ok (.goto 14, 3) := by decide +kernel
theorem dX11_drawn_8 : decode cX11_drawn 8 = .ok (.iload_n 0, 1) := by decide +kernel
theorem dX11_drawn_9 : decode cX11_drawn 9 = .ok (.ldc_w 364, 3) := by decide +kernel
theorem dX11_drawn_12 : decode cX11_drawn 12 = .ok (.iand, 1) := by decide +kernel
theorem dX11_drawn_13 : decode cX11_drawn 13 = .ok (.ldc_w 365, 3) := by decide +kernel
theorem dX11_drawn_16 : decode cX11_drawn 16 = .ok (.idiv, 1) := by decide +kernel
theorem dX11_drawn_17 : decode cX11_drawn 17 = .ok (.iload_n 1, 1) := by decide +kernel
theorem dX11_drawn_18 : decode cX11_drawn 18 = .ok (.irem, 1) := by decide +kernel
theorem dX11_drawn_19 : decode cX11_drawn 19 = .ok (.ireturn, 1) := by decide +kernel
theorem dX11_firstWrong_0 : decode cX11_firstWrong 0 = .ok (.aload_n 0, 1) := by decide +kernel
theorem dX11_firstWrong_1 : decode cX11_firstWrong 1 = .ok (.getfield 25, 3) := by decide +kernel
theorem dX11_firstWrong_4 : decode cX11_firstWrong 4 = .ok (.aload_n 0, 1) := by decide +kernel
theorem dX11_firstWrong_5 : decode cX11_firstWrong 5 = .ok (.getfield 10, 3) := by decide +kernel
theorem dX11_firstWrong_8 : decode cX11_firstWrong 8 = .ok (.getfield 94, 3) := by decide +kernel
theorem dX11_firstWrong_11 : decode cX11_firstWrong 11 = .ok (.aload_n 0, 1) := by decide +kernel
theorem dX11_firstWrong_12 : decode cX11_firstWrong 12 = .ok (.getfield 10, 3) := by decide +kernel
theorem dX11_firstWrong_15 : decode cX11_firstWrong 15 = .ok (.getfield 97, 3) := by decide +kernel
theorem dX11_firstWrong_18 : decode cX11_firstWrong 18 = .ok (.invokevirtual 145, 3) := by decide +kernel
theorem dX11_firstWrong_21 : decode cX11_firstWrong 21 = .ok (.iconst 0, 1) := by decide +kernel
theorem dX11_firstWrong_22 : decode cX11_firstWrong 22 = .ok (.istore_n 3, 1) := by decide +kernel
theorem dX11_firstWrong_23 : decode cX11_firstWrong 23 = .ok (.iload_n 3, 1) := by decide +kernel
theorem dX11_firstWrong_24 : decode cX11_firstWrong 24 = .ok (.aload_n 1, 1) := by decide +kernel
theorem dX11_firstWrong_25 : decode cX11_firstWrong 25 = .ok (.getfield 182, 3) := by decide +kernel
theorem dX11_firstWrong_28 : decode cX11_firstWrong 28 = .ok (.if_icmp .ge 102, 3) := by decide +kernel
theorem dX11_firstWrong_31 : decode cX11_firstWrong 31 = .ok (.iload_n 3, 1) := by decide +kernel
theorem dX11_firstWrong_32 : decode cX11_firstWrong 32 = .ok (.aload_n 0, 1) := by decide +kernel
theorem dX11_firstWrong_33 : decode cX11_firstWrong 33 = .ok (.getfield 25, 3) := by decide +kernel
theorem dX11_firstWrong_36 : decode cX11_firstWrong 36 = .ok (.getfield 156, 3) := by decide +kernel
theorem dX11_firstWrong_39 : decode cX11_firstWrong 39 = .ok (.if_icmp .ge 15, 3) := by decide +kernel
theorem dX11_firstWrong_42 : decode cX11_firstWrong 42 = .ok (.aload_n 0, 1) := by decide +kernel
theorem dX11_firstWrong_43 : decode cX11_firstWrong 43 = .ok (.getfield 25, 3) := by decide +kernel
theorem dX11_firstWrong_46 : decode cX11_firstWrong 46 = .ok (.iload_n 3, 1) := by decide +kernel
theorem dX11_firstWrong_47 : decode cX11_firstWrong 47 = .ok (.iload_n 2, 1) := by decide +kernel
theorem dX11_firstWrong_48 : decode cX11_firstWrong 48 = .ok (.invokevirtual 366, 3) := by decide +kernel
theorem dX11_firstWrong_51 : decode cX11_firstWrong 51 = .ok (.goto 21, 3) := by decide +kernel
theorem dX11_firstWrong_54 : decode cX11_firstWrong 54 = .ok (.iload_n 3, 1) := by decide +kernel
theorem dX11_firstWrong_55 : decode cX11_firstWrong 55 = .ok (.aload_n 0, 1) := by decide +kernel
theorem dX11_firstWrong_56 : decode cX11_firstWrong 56 = .ok (.getfield 25, 3) := by decide +kernel
theorem dX11_firstWrong_59 : decode cX11_firstWrong 59 = .ok (.getfield 156, 3) := by decide +kernel
theorem dX11_firstWrong_62 : decode cX11_firstWrong 62 = .ok (.if_icmp .ne 10, 3) := by decide +kernel
theorem dX11_firstWrong_65 : decode cX11_firstWrong 65 = .ok (.aload_n 0, 1) := by decide +kernel
theorem dX11_firstWrong_66 : decode cX11_firstWrong 66 = .ok (.getfield 25, 3) := by decide +kernel
theorem dX11_firstWrong_69 : decode cX11_firstWrong 69 = .ok (.invokevirtual 354, 3) := by decide +kernel
theorem dX11_firstWrong_72 : decode cX11_firstWrong 72 = .ok (.iload_n 3, 1) := by decide +kernel
theorem dX11_firstWrong_73 : decode cX11_firstWrong 73 = .ok (.aload_n 0, 1) := by decide +kernel
theorem dX11_firstWrong_74 : decode cX11_firstWrong 74 = .ok (.getfield 25, 3) := by decide +kernel
theorem dX11_firstWrong_77 : decode cX11_firstWrong 77 = .ok (.getfield 156, 3) := by decide +kernel
theorem dX11_firstWrong_80 : decode cX11_firstWrong 80 = .ok (.if_icmp .gt 22, 3) := by decide +kernel
theorem dX11_firstWrong_83 : decode cX11_firstWrong 83 = .ok (.aload_n 1, 1) := by decide +kernel
theorem dX11_firstWrong_84 : decode cX11_firstWrong 84 = .ok (.iload_n 3, 1) := by decide +kernel
theorem dX11_firstWrong_85 : decode cX11_firstWrong 85 = .ok (.invokevirtual 269, 3) := by decide +kernel
theorem dX11_firstWrong_88 : decode cX11_firstWrong 88 = .ok (.aload_n 0, 1) := by decide +kernel
theorem dX11_firstWrong_89 : decode cX11_firstWrong 89 = .ok (.getfield 25, 3) := by decide +kernel
theorem dX11_firstWrong_92 : decode cX11_firstWrong 92 = .ok (.getfield 155, 3) := by decide +kernel
theorem dX11_firstWrong_95 : decode cX11_firstWrong 95 = .ok (.if_icmp .ne 7, 3) := by decide +kernel
theorem dX11_firstWrong_98 : decode cX11_firstWrong 98 = .ok (.iconst 1, 1) := by decide +kernel
theorem dX11_firstWrong_99 : decode cX11_firstWrong 99 = .ok (.goto 4, 3) := by decide +kernel
theorem dX11_firstWrong_102 : decode cX11_firstWrong 102 = .ok (.iconst 0, 1) := by decide +kernel
theorem dX11_firstWrong_103 : decode cX11_firstWrong 103 = .ok (.istore 4, 2) := by decide +kernel
theorem dX11_firstWrong_105 : decode cX11_firstWrong 105 = .ok (.iload 4, 2) := by decide +kernel
theorem dX11_firstWrong_107 : decode cX11_firstWrong 107 = .ok (.ifCond .ne 17, 3) := by decide +kernel
theorem dX11_firstWrong_110 : decode cX11_firstWrong 110 = .ok (.aload_n 1, 1) := by decide +kernel
theorem dX11_firstWrong_111 : decode cX11_firstWrong 111 = .ok (.iload_n 3, 1) := by decide +kernel
theorem dX11_firstWrong_112 : decode cX11_firstWrong 112 = .ok (.invokevirtual 269, 3) := by decide +kernel
theorem dX11_firstWrong_115 : decode cX11_firstWrong 115 = .ok (.aload_n 1, 1) := by decide +kernel
theorem dX11_firstWrong_116 : decode cX11_firstWrong 116 = .ok (.invokevirtual 369, 3) := by decide +kernel
theorem dX11_firstWrong_119 : decode cX11_firstWrong 119 = .ok (.if_icmp .eq 5, 3) := by decide +kernel
theorem dX11_firstWrong_122 : decode cX11_firstWrong 122 = .ok (.iload_n 3, 1) := by decide +kernel
theorem dX11_firstWrong_123 : decode cX11_firstWrong 123 = .ok (.ireturn, 1) := by decide +kernel
theorem dX11_firstWrong_124 : decode cX11_firstWrong 124 = .ok (.iinc 3 1, 3) := by decide +kernel
theorem dX11_firstWrong_127 : decode cX11_firstWrong 127 = .ok (.goto (-104), 3) := by decide +kernel
theorem dX11_firstWrong_130 : decode cX11_firstWrong 130 = .ok (.bipush (-4), 2) := by decide +kernel
theorem dX11_firstWrong_132 : decode cX11_firstWrong 132 = .ok (.ireturn, 1) := by decide +kernel
theorem dX11_at_0 : decode cX11_at 0 = .ok (.iload_n 1, 1) := by decide +kernel
theorem dX11_at_1 : decode cX11_at 1 = .ok (.ifCond .lt 15, 3) := by decide +kernel
theorem dX11_at_4 : decode cX11_at 4 = .ok (.iload_n 1, 1) := by decide +kernel
theorem dX11_at_5 : decode cX11_at 5 = .ok (.aload_n 0, 1) := by decide +kernel
theorem dX11_at_6 : decode cX11_at 6 = .ok (.arraylength, 1) := by decide +kernel
theorem dX11_at_7 : decode cX11_at 7 = .ok (.if_icmp .ge 9, 3) := by decide +kernel
theorem dX11_at_10 : decode cX11_at 10 = .ok (.aload_n 0, 1) := by decide +kernel
theorem dX11_at_11 : decode cX11_at 11 = .ok (.iload_n 1, 1) := by decide +kernel
theorem dX11_at_12 : decode cX11_at 12 = .ok (.iaload, 1) := by decide +kernel
theorem dX11_at_13 : decode cX11_at 13 = .ok (.goto 4, 3) := by decide +kernel
theorem dX11_at_16 : decode cX11_at 16 = .ok (.iconst 0, 1) := by decide +kernel
theorem dX11_at_17 : decode cX11_at 17 = .ok (.ireturn, 1) := by decide +kernel
theorem dX11_store_0 : decode cX11_store 0 = .ok (.iload_n 1, 1) := by decide +kernel
theorem dX11_store_1 : decode cX11_store 1 = .ok (.ifCond .lt 13, 3) := by decide +kernel
theorem dX11_store_4 : decode cX11_store 4 = .ok (.iload_n 1, 1) := by decide +kernel
theorem dX11_store_5 : decode cX11_store 5 = .ok (.aload_n 0, 1) := by decide +kernel
theorem dX11_store_6 : decode cX11_store 6 = .ok (.arraylength, 1) := by decide +kernel
theorem dX11_store_7 : decode cX11_store 7 = .ok (.if_icmp .ge 7, 3) := by decide +kernel
theorem dX11_store_10 : decode cX11_store 10 = .ok (.aload_n 0, 1) := by decide +kernel
theorem dX11_store_11 : decode cX11_store 11 = .ok (.iload_n 1, 1) := by decide +kernel
theorem dX11_store_12 : decode cX11_store 12 = .ok (.iload_n 2, 1) := by decide +kernel
theorem dX11_store_13 : decode cX11_store 13 = .ok (.iastore, 1) := by decide +kernel
theorem dX11_store_14 : decode cX11_store 14 = .ok (.return_, 1) := by decide +kernel
