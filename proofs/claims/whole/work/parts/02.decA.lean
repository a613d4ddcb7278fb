theorem dX0_init_0 : decode cX0_init 0 = .ok (.aload_n 0, 1) := by decide +kernel
theorem dX0_init_1 : decode cX0_init 1 = .ok (.iload_n 1, 1) := by decide +kernel
theorem dX0_init_2 : decode cX0_init 2 = .ok (.iload_n 2, 1) := by decide +kernel
theorem dX0_init_3 : decode cX0_init 3 = .ok (.iload_n 3, 1) := by decide +kernel
theorem dX0_init_4 : decode cX0_init 4 = .ok (.iload 4, 2) := by decide +kernel
theorem dX0_init_6 : decode cX0_init 6 = .ok (.iload 5, 2) := by decide +kernel
theorem dX0_init_8 : decode cX0_init 8 = .ok (.invokespecial 3, 3) := by decide +kernel
theorem dX0_init_11 : decode cX0_init 11 = .ok (.aload_n 0, 1) := by decide +kernel
theorem dX0_init_12 : decode cX0_init 12 = .ok (.iconst 5, 1) := by decide +kernel
theorem dX0_init_13 : decode cX0_init 13 = .ok (.putfield 9, 3) := by decide +kernel
theorem dX0_init_16 : decode cX0_init 16 = .ok (.aload_n 0, 1) := by decide +kernel
theorem dX0_init_17 : decode cX0_init 17 = .ok (.dup, 1) := by decide +kernel
theorem dX0_init_18 : decode cX0_init 18 = .ok (.getfield 15, 3) := by decide +kernel
theorem dX0_init_21 : decode cX0_init 21 = .ok (.iconst 5, 1) := by decide +kernel
theorem dX0_init_22 : decode cX0_init 22 = .ok (.iadd, 1) := by decide +kernel
theorem dX0_init_23 : decode cX0_init 23 = .ok (.putfield 15, 3) := by decide +kernel
theorem dX0_init_26 : decode cX0_init 26 = .ok (.aload_n 0, 1) := by decide +kernel
theorem dX0_init_27 : decode cX0_init 27 = .ok (.aload_n 0, 1) := by decide +kernel
theorem dX0_init_28 : decode cX0_init 28 = .ok (.getfield 15, 3) := by decide +kernel
theorem dX0_init_31 : decode cX0_init 31 = .ok (.iconst 2, 1) := by decide +kernel
theorem dX0_init_32 : decode cX0_init 32 = .ok (.idiv, 1) := by decide +kernel
theorem dX0_init_33 : decode cX0_init 33 = .ok (.putfield 18, 3) := by decide +kernel
theorem dX0_init_36 : decode cX0_init 36 = .ok (.aload_n 0, 1) := by decide +kernel
theorem dX0_init_37 : decode cX0_init 37 = .ok (.iload 5, 2) := by decide +kernel
theorem dX0_init_39 : decode cX0_init 39 = .ok (.bipush 9, 2) := by decide +kernel
theorem dX0_init_41 : decode cX0_init 41 = .ok (.if_icmp .ne 7, 3) := by decide +kernel
theorem dX0_init_44 : decode cX0_init 44 = .ok (.iconst 1, 1) := by decide +kernel
theorem dX0_init_45 : decode cX0_init 45 = .ok (.goto 4, 3) := by decide +kernel
theorem dX0_init_48 : decode cX0_init 48 = .ok (.iconst 0, 1) := by decide +kernel
theorem dX0_init_49 : decode cX0_init 49 = .ok (.putfield 21, 3) := by decide +kernel
theorem dX0_init_52 : decode cX0_init 52 = .ok (.aload_n 0, 1) := by decide +kernel
theorem dX0_init_53 : decode cX0_init 53 = .ok (.dup, 1) := by decide +kernel
theorem dX0_init_54 : decode cX0_init 54 = .ok (.getfield 25, 3) := by decide +kernel
theorem dX0_init_57 : decode cX0_init 57 = .ok (.iconst 1, 1) := by decide +kernel
theorem dX0_init_58 : decode cX0_init 58 = .ok (.iadd, 1) := by decide +kernel
theorem dX0_init_59 : decode cX0_init 59 = .ok (.putfield 25, 3) := by decide +kernel
theorem dX0_init_62 : decode cX0_init 62 = .ok (.aload_n 0, 1) := by decide +kernel
theorem dX0_init_63 : decode cX0_init 63 = .ok (.dup, 1) := by decide +kernel
theorem dX0_init_64 : decode cX0_init 64 = .ok (.getfield 28, 3) := by decide +kernel
theorem dX0_init_67 : decode cX0_init 67 = .ok (.bipush 100, 2) := by decide +kernel
theorem dX0_init_69 : decode cX0_init 69 = .ok (.iadd, 1) := by decide +kernel
theorem dX0_init_70 : decode cX0_init 70 = .ok (.putfield 28, 3) := by decide +kernel
theorem dX0_init_73 : decode cX0_init 73 = .ok (.return_, 1) := by decide +kernel
theorem dX1_init_0 : decode cX1_init 0 = .ok (.aload_n 0, 1) := by decide +kernel
theorem dX1_init_1 : decode cX1_init 1 = .ok (.invokespecial 3, 3) := by decide +kernel
theorem dX1_init_4 : decode cX1_init 4 = .ok (.aload_n 0, 1) := by decide +kernel
theorem dX1_init_5 : decode cX1_init 5 = .ok (.iconst 0, 1) := by decide +kernel
theorem dX1_init_6 : decode cX1_init 6 = .ok (.putfield 9, 3) := by decide +kernel
theorem dX1_init_9 : decode cX1_init 9 = .ok (.aload_n 0, 1) := by decide +kernel
theorem dX1_init_10 : decode cX1_init 10 = .ok (.iconst 4, 1) := by decide +kernel
theorem dX1_init_11 : decode cX1_init 11 = .ok (.putfield 15, 3) := by decide +kernel
theorem dX1_init_14 : decode cX1_init 14 = .ok (.aload_n 0, 1) := by decide +kernel
theorem dX1_init_15 : decode cX1_init 15 = .ok (.iload_n 1, 1) := by decide +kernel
theorem dX1_init_16 : decode cX1_init 16 = .ok (.putfield 18, 3) := by decide +kernel
theorem dX1_init_19 : decode cX1_init 19 = .ok (.aload_n 0, 1) := by decide +kernel
theorem dX1_init_20 : decode cX1_init 20 = .ok (.iload_n 2, 1) := by decide +kernel
theorem dX1_init_21 : decode cX1_init 21 = .ok (.putfield 21, 3) := by decide +kernel
theorem dX1_init_24 : decode cX1_init 24 = .ok (.aload_n 0, 1) := by decide +kernel
theorem dX1_init_25 : decode cX1_init 25 = .ok (.iload_n 3, 1) := by decide +kernel
theorem dX1_init_26 : decode cX1_init 26 = .ok (.putfield 24, 3) := by decide +kernel
theorem dX1_init_29 : decode cX1_init 29 = .ok (.aload_n 0, 1) := by decide +kernel
theorem dX1_init_30 : decode cX1_init 30 = .ok (.iload 4, 2) := by decide +kernel
theorem dX1_init_32 : decode cX1_init 32 = .ok (.putfield 27, 3) := by decide +kernel
theorem dX1_init_35 : decode cX1_init 35 = .ok (.aload_n 0, 1) := by decide +kernel
theorem dX1_init_36 : decode cX1_init 36 = .ok (.iload 5, 2) := by decide +kernel
theorem dX1_init_38 : decode cX1_init 38 = .ok (.putfield 30, 3) := by decide +kernel
theorem dX1_init_41 : decode cX1_init 41 = .ok (.aload_n 0, 1) := by decide +kernel
theorem dX1_init_42 : decode cX1_init 42 = .ok (.iload 4, 2) := by decide +kernel
theorem dX1_init_44 : decode cX1_init 44 = .ok (.putfield 33, 3) := by decide +kernel
theorem dX1_init_47 : decode cX1_init 47 = .ok (.aload_n 0, 1) := by decide +kernel
theorem dX1_init_48 : decode cX1_init 48 = .ok (.iload 4, 2) := by decide +kernel
theorem dX1_init_50 : decode cX1_init 50 = .ok (.putfield 36, 3) := by decide +kernel
theorem dX1_init_53 : decode cX1_init 53 = .ok (.aload_n 0, 1) := by decide +kernel
theorem dX1_init_54 : decode cX1_init 54 = .ok (.iconst 1, 1) := by decide +kernel
theorem dX1_init_55 : decode cX1_init 55 = .ok (.iload_n 3, 1) := by decide +kernel
theorem dX1_init_56 : decode cX1_init 56 = .ok (.ishl, 1) := by decide +kernel
theorem dX1_init_57 : decode cX1_init 57 = .ok (.putfield 39, 3) := by decide +kernel
theorem dX1_init_60 : decode cX1_init 60 = .ok (.aload_n 0, 1) := by decide +kernel
theorem dX1_init_61 : decode cX1_init 61 = .ok (.iload_n 1, 1) := by decide +kernel
theorem dX1_init_62 : decode cX1_init 62 = .ok (.putfield 42, 3) := by decide +kernel
theorem dX1_init_65 : decode cX1_init 65 = .ok (.aload_n 0, 1) := by decide +kernel
theorem dX1_init_66 : decode cX1_init 66 = .ok (.iload 5, 2) := by decide +kernel
theorem dX1_init_68 : decode cX1_init 68 = .ok (.ifCond .eq 7, 3) := by decide +kernel
theorem dX1_init_71 : decode cX1_init 71 = .ok (.iconst 1, 1) := by decide +kernel
theorem dX1_init_72 : decode cX1_init 72 = .ok (.goto 4, 3) := by decide +kernel
theorem dX1_init_75 : decode cX1_init 75 = .ok (.iconst 0, 1) := by decide +kernel
theorem dX1_init_76 : decode cX1_init 76 = .ok (.putfield 45, 3) := by decide +kernel
theorem dX1_init_79 : decode cX1_init 79 = .ok (.return_, 1) := by decide +kernel
theorem dX1_hasGround_0 : decode cX1_hasGround 0 = .ok (.aload_n 0, 1) := by decide +kernel
theorem dX1_hasGround_1 : decode cX1_hasGround 1 = .ok (.getfield 21, 3) := by decide +kernel
theorem dX1_hasGround_4 : decode cX1_hasGround 4 = .ok (.iload_n 1, 1) := by decide +kernel
theorem dX1_hasGround_5 : decode cX1_hasGround 5 = .ok (.iconst (-1), 1) := by decide +kernel
theorem dX1_hasGround_6 : decode cX1_hasGround 6 = .ok (.ixor, 1) := by decide +kernel
theorem dX1_hasGround_7 : decode cX1_hasGround 7 = .ok (.iand, 1) := by decide +kernel
theorem dX1_hasGround_8 : decode cX1_hasGround 8 = .ok (.ifCond .ne 7, 3) := by decide +kernel
theorem dX1_hasGround_11 : decode cX1_hasGround 11 = .ok (.iconst 1, 1) := by decide +kernel
theorem dX1_hasGround_12 : decode cX1_hasGround 12 = .ok (.goto 4, 3) := by decide +kernel
theorem dX1_hasGround_15 : decode cX1_hasGround 15 = .ok (.iconst 0, 1) := by decide +kernel
theorem dX1_hasGround_16 : decode cX1_hasGround 16 = .ok (.ireturn, 1) := by decide +kernel
theorem dX1_mayBeDone_0 : decode cX1_mayBeDone 0 = .ok (.aload_n 0, 1) := by decide +kernel
theorem dX1_mayBeDone_1 : decode cX1_mayBeDone 1 = .ok (.iload_n 1, 1) := by decide +kernel
theorem dX1_mayBeDone_2 : decode cX1_mayBeDone 2 = .ok (.invokevirtual 49, 3) := by decide +kernel
theorem dX1_mayBeDone_5 : decode cX1_mayBeDone 5 = .ok (.ifCond .eq 15, 3) := by decide +kernel
theorem dX1_mayBeDone_8 : decode cX1_mayBeDone 8 = .ok (.iload_n 2, 1) := by decide +kernel
theorem dX1_mayBeDone_9 : decode cX1_mayBeDone 9 = .ok (.aload_n 0, 1) := by decide +kernel
theorem dX1_mayBeDone_10 : decode cX1_mayBeDone 10 = .ok (.getfield 33, 3) := by decide +kernel
theorem dX1_mayBeDone_13 : decode cX1_mayBeDone 13 = .ok (.if_icmp .lt 7, 3) := by decide +kernel
theorem dX1_mayBeDone_16 : decode cX1_mayBeDone 16 = .ok (.iconst 1, 1) := by decide +kernel
theorem dX1_mayBeDone_17 : decode cX1_mayBeDone 17 = .ok (.goto 4, 3) := by decide +kernel
theorem dX1_mayBeDone_20 : decode cX1_mayBeDone 20 = .ok (.iconst 0, 1) := by decide +kernel
theorem dX1_mayBeDone_21 : decode cX1_mayBeDone 21 = .ok (.ireturn, 1) := by decide +kernel
theorem dX1_marksBehind_0 : decode cX1_marksBehind 0 = .ok (.iload_n 1, 1) := by decide +kernel
theorem dX1_marksBehind_1 : decode cX1_marksBehind 1 = .ok (.aload_n 0, 1) := by decide +kernel
theorem dX1_marksBehind_2 : decode cX1_marksBehind 2 = .ok (.getfield 39, 3) := by decide +kernel
theorem dX1_marksBehind_5 : decode cX1_marksBehind 5 = .ok (.ior, 1) := by decide +kernel
theorem dX1_marksBehind_6 : decode cX1_marksBehind 6 = .ok (.aload_n 0, 1) := by decide +kernel
theorem dX1_marksBehind_7 : decode cX1_marksBehind 7 = .ok (.getfield 53, 3) := by decide +kernel
theorem dX1_marksBehind_10 : decode cX1_marksBehind 10 = .ok (.iconst (-1), 1) := by decide +kernel
theorem dX1_marksBehind_11 : decode cX1_marksBehind 11 = .ok (.ixor, 1) := by decide +kernel
theorem dX1_marksBehind_12 : decode cX1_marksBehind 12 = .ok (.iand, 1) := by decide +kernel
theorem dX1_marksBehind_13 : decode cX1_marksBehind 13 = .ok (.ireturn, 1) := by decide +kernel
theorem dX1_fail_0 : decode cX1_fail 0 = .ok (.aload_n 0, 1) := by decide +kernel
theorem dX1_fail_1 : decode cX1_fail 1 = .ok (.getfield 45, 3) := by decide +kernel
theorem dX1_fail_4 : decode cX1_fail 4 = .ok (.ifCond .eq 13, 3) := by decide +kernel
theorem dX1_fail_7 : decode cX1_fail 7 = .ok (.new 56, 3) := by decide +kernel
theorem dX1_fail_10 : decode cX1_fail 10 = .ok (.dup, 1) := by decide +kernel
theorem dX1_fail_11 : decode cX1_fail 11 = .ok (.ldc 58, 2) := by decide +kernel
theorem dX1_fail_13 : decode cX1_fail 13 = .ok (.invokespecial 60, 3) := by decide +kernel
theorem dX1_fail_16 : decode cX1_fail 16 = .ok (.athrow, 1) := by decide +kernel
theorem dX1_fail_17 : decode cX1_fail 17 = .ok (.return_, 1) := by decide +kernel
theorem dX2_init_0 : decode cX2_init 0 = .ok (.aload_n 0, 1) := by decide +kernel
theorem dX2_init_1 : decode cX2_init 1 = .ok (.iload_n 1, 1) := by decide +kernel
theorem dX2_init_2 : decode cX2_init 2 = .ok (.iload_n 2, 1) := by decide +kernel
theorem dX2_init_3 : decode cX2_init 3 = .ok (.iload_n 3, 1) := by decide +kernel
theorem dX2_init_4 : decode cX2_init 4 = .ok (.iload 4, 2) := by decide +kernel
theorem dX2_init_6 : decode cX2_init 6 = .ok (.iload 5, 2) := by decide +kernel
theorem dX2_init_8 : decode cX2_init 8 = .ok (.invokespecial 3, 3) := by decide +kernel
theorem dX2_init_11 : decode cX2_init 11 = .ok (.aload_n 0, 1) := by decide +kernel
theorem dX2_init_12 : decode cX2_init 12 = .ok (.iconst 3, 1) := by decide +kernel
theorem dX2_init_13 : decode cX2_init 13 = .ok (.putfield 9, 3) := by decide +kernel
theorem dX2_init_16 : decode cX2_init 16 = .ok (.aload_n 0, 1) := by decide +kernel
theorem dX2_init_17 : decode cX2_init 17 = .ok (.dup, 1) := by decide +kernel
theorem dX2_init_18 : decode cX2_init 18 = .ok (.getfield 15, 3) := by decide +kernel
theorem dX2_init_21 : decode cX2_init 21 = .ok (.iconst 2, 1) := by decide +kernel
theorem dX2_init_22 : decode cX2_init 22 = .ok (.idiv, 1) := by decide +kernel
theorem dX2_init_23 : decode cX2_init 23 = .ok (.putfield 15, 3) := by decide +kernel
theorem dX2_init_26 : decode cX2_init 26 = .ok (.aload_n 0, 1) := by decide +kernel
theorem dX2_init_27 : decode cX2_init 27 = .ok (.iload 5, 2) := by decide +kernel
theorem dX2_init_29 : decode cX2_init 29 = .ok (.putfield 18, 3) := by decide +kernel
theorem dX2_init_32 : decode cX2_init 32 = .ok (.aload_n 0, 1) := by decide +kernel
theorem dX2_init_33 : decode cX2_init 33 = .ok (.dup, 1) := by decide +kernel
theorem dX2_init_34 : decode cX2_init 34 = .ok (.getfield 21, 3) := by decide +kernel
theorem dX2_init_37 : decode cX2_init 37 = .ok (.iload 5, 2) := by decide +kernel
theorem dX2_init_39 : decode cX2_init 39 = .ok (.isub, 1) := by decide +kernel
theorem dX2_init_40 : decode cX2_init 40 = .ok (.putfield 21, 3) := by decide +kernel
theorem dX2_init_43 : decode cX2_init 43 = .ok (.aload_n 0, 1) := by decide +kernel
theorem dX2_init_44 : decode cX2_init 44 = .ok (.iconst 0, 1) := by decide +kernel
theorem dX2_init_45 : decode cX2_init 45 = .ok (.putfield 24, 3) := by decide +kernel
theorem dX2_init_48 : decode cX2_init 48 = .ok (.return_, 1) := by decide +kernel
theorem dX3_init_0 : decode cX3_init 0 = .ok (.aload_n 0, 1) := by decide +kernel
theorem dX3_init_1 : decode cX3_init 1 = .ok (.iload_n 1, 1) := by decide +kernel
theorem dX3_init_2 : decode cX3_init 2 = .ok (.iload_n 2, 1) := by decide +kernel
theorem dX3_init_3 : decode cX3_init 3 = .ok (.iload_n 3, 1) := by decide +kernel
theorem dX3_init_4 : decode cX3_init 4 = .ok (.iload 4, 2) := by decide +kernel
theorem dX3_init_6 : decode cX3_init 6 = .ok (.iload 5, 2) := by decide +kernel
theorem dX3_init_8 : decode cX3_init 8 = .ok (.invokespecial 3, 3) := by decide +kernel
theorem dX3_init_11 : decode cX3_init 11 = .ok (.aload_n 0, 1) := by decide +kernel
theorem dX3_init_12 : decode cX3_init 12 = .ok (.bipush 6, 2) := by decide +kernel
theorem dX3_init_14 : decode cX3_init 14 = .ok (.putfield 9, 3) := by decide +kernel
theorem dX3_init_17 : decode cX3_init 17 = .ok (.aload_n 0, 1) := by decide +kernel
theorem dX3_init_18 : decode cX3_init 18 = .ok (.aload_n 0, 1) := by decide +kernel
theorem dX3_init_19 : decode cX3_init 19 = .ok (.getfield 15, 3) := by decide +kernel
theorem dX3_init_22 : decode cX3_init 22 = .ok (.putfield 18, 3) := by decide +kernel
theorem dX3_init_25 : decode cX3_init 25 = .ok (.aload_n 0, 1) := by decide +kernel
theorem dX3_init_26 : decode cX3_init 26 = .ok (.iconst 0, 1) := by decide +kernel
theorem dX3_init_27 : decode cX3_init 27 = .ok (.putfield 15, 3) := by decide +kernel
theorem dX3_init_30 : decode cX3_init 30 = .ok (.aload_n 0, 1) := by decide +kernel
theorem dX3_init_31 : decode cX3_init 31 = .ok (.dup, 1) := by decide +kernel
theorem dX3_init_32 : decode cX3_init 32 = .ok (.getfield 21, 3) := by decide +kernel
theorem dX3_init_35 : decode cX3_init 35 = .ok (.iconst 2, 1) := by decide +kernel
theorem dX3_init_36 : decode cX3_init 36 = .ok (.imul, 1) := by decide +kernel
theorem dX3_init_37 : decode cX3_init 37 = .ok (.putfield 21, 3) := by decide +kernel
theorem dX3_init_40 : decode cX3_init 40 = .ok (.return_, 1) := by decide +kernel
theorem dX4_init_0 : decode cX4_init 0 = .ok (.aload_n 0, 1) := by decide +kernel
theorem dX4_init_1 : decode cX4_init 1 = .ok (.iload_n 1, 1) := by decide +kernel
theorem dX4_init_2 : decode cX4_init 2 = .ok (.iload_n 2, 1) := by decide +kernel
theorem dX4_init_3 : decode cX4_init 3 = .ok (.iload_n 3, 1) := by decide +kernel
theorem dX4_init_4 : decode cX4_init 4 = .ok (.iload 4, 2) := by decide +kernel
theorem dX4_init_6 : decode cX4_init 6 = .ok (.iload 5, 2) := by decide +kernel
theorem dX4_init_8 : decode cX4_init 8 = .ok (.invokespecial 3, 3) := by decide +kernel
theorem dX4_init_11 : decode cX4_init 11 = .ok (.aload_n 0, 1) := by decide +kernel
theorem dX4_init_12 : decode cX4_init 12 = .ok (.iconst 1, 1) := by decide +kernel
theorem dX4_init_13 : decode cX4_init 13 = .ok (.putfield 9, 3) := by decide +kernel
theorem dX4_init_16 : decode cX4_init 16 = .ok (.aload_n 0, 1) := by decide +kernel
theorem dX4_init_17 : decode cX4_init 17 = .ok (.dup, 1) := by decide +kernel
theorem dX4_init_18 : decode cX4_init 18 = .ok (.getfield 15, 3) := by decide +kernel
theorem dX4_init_21 : decode cX4_init 21 = .ok (.iload 5, 2) := by decide +kernel
theorem dX4_init_23 : decode cX4_init 23 = .ok (.iadd, 1) := by decide +kernel
theorem dX4_init_24 : decode cX4_init 24 = .ok (.putfield 15, 3) := by decide +kernel
theorem dX4_init_27 : decode cX4_init 27 = .ok (.aload_n 0, 1) := by decide +kernel
theorem dX4_init_28 : decode cX4_init 28 = .ok (.aload_n 0, 1) := by decide +kernel
theorem dX4_init_29 : decode cX4_init 29 = .ok (.getfield 15, 3) := by decide +kernel
theorem dX4_init_32 : decode cX4_init 32 = .ok (.iconst 2, 1) := by decide +kernel
theorem dX4_init_33 : decode cX4_init 33 = .ok (.idiv, 1) := by decide +kernel
theorem dX4_init_34 : decode cX4_init 34 = .ok (.putfield 18, 3) := by decide +kernel
theorem dX4_init_37 : decode cX4_init 37 = .ok (.aload_n 0, 1) := by decide +kernel
theorem dX4_init_38 : decode cX4_init 38 = .ok (.dup, 1) := by decide +kernel
theorem dX4_init_39 : decode cX4_init 39 = .ok (.getfield 21, 3) := by decide +kernel
theorem dX4_init_42 : decode cX4_init 42 = .ok (.iconst 3, 1) := by decide +kernel
theorem dX4_init_43 : decode cX4_init 43 = .ok (.imul, 1) := by decide +kernel
theorem dX4_init_44 : decode cX4_init 44 = .ok (.putfield 21, 3) := by decide +kernel
theorem dX4_init_47 : decode cX4_init 47 = .ok (.return_, 1) := by decide +kernel
theorem dX5_init_0 : decode cX5_init 0 = .ok (.aload_n 0, 1) := by decide +kernel
theorem dX5_init_1 : decode cX5_init 1 = .ok (.iload_n 1, 1) := by decide +kernel
theorem dX5_init_2 : decode cX5_init 2 = .ok (.iload_n 2, 1) := by decide +kernel
theorem dX5_init_3 : decode cX5_init 3 = .ok (.iload_n 3, 1) := by decide +kernel
theorem dX5_init_4 : decode cX5_init 4 = .ok (.iload 4, 2) := by decide +kernel
theorem dX5_init_6 : decode cX5_init 6 = .ok (.iload 5, 2) := by decide +kernel
theorem dX5_init_8 : decode cX5_init 8 = .ok (.invokespecial 3, 3) := by decide +kernel
theorem dX5_init_11 : decode cX5_init 11 = .ok (.aload_n 0, 1) := by decide +kernel
theorem dX5_init_12 : decode cX5_init 12 = .ok (.iconst 4, 1) := by decide +kernel
theorem dX5_init_13 : decode cX5_init 13 = .ok (.putfield 9, 3) := by decide +kernel
theorem dX5_init_16 : decode cX5_init 16 = .ok (.aload_n 0, 1) := by decide +kernel
theorem dX5_init_17 : decode cX5_init 17 = .ok (.iconst 0, 1) := by decide +kernel
theorem dX5_init_18 : decode cX5_init 18 = .ok (.putfield 15, 3) := by decide +kernel
theorem dX5_init_21 : decode cX5_init 21 = .ok (.aload_n 0, 1) := by decide +kernel
theorem dX5_init_22 : decode cX5_init 22 = .ok (.iconst 0, 1) := by decide +kernel
theorem dX5_init_23 : decode cX5_init 23 = .ok (.putfield 18, 3) := by decide +kernel
theorem dX5_init_26 : decode cX5_init 26 = .ok (.aload_n 0, 1) := by decide +kernel
theorem dX5_init_27 : decode cX5_init 27 = .ok (.iload 5, 2) := by decide +kernel
theorem dX5_init_29 : decode cX5_init 29 = .ok (.iconst 5, 1) := by decide +kernel
theorem dX5_init_30 : decode cX5_init 30 = .ok (.if_icmp .lt 7, 3) := by decide +kernel
theorem dX5_init_33 : decode cX5_init 33 = .ok (.iconst 1, 1) := by decide +kernel
theorem dX5_init_34 : decode cX5_init 34 = .ok (.goto 4, 3) := by decide +kernel
theorem dX5_init_37 : decode cX5_init 37 = .ok (.iconst 0, 1) := by decide +kernel
theorem dX5_init_38 : decode cX5_init 38 = .ok (.putfield 21, 3) := by decide +kernel
theorem dX5_init_41 : decode cX5_init 41 = .ok (.aload_n 0, 1) := by decide +kernel
theorem dX5_init_42 : decode cX5_init 42 = .ok (.dup, 1) := by decide +kernel
theorem dX5_init_43 : decode cX5_init 43 = .ok (.getfield 25, 3) := by decide +kernel
theorem dX5_init_46 : decode cX5_init 46 = .ok (.iconst 3, 1) := by decide +kernel
theorem dX5_init_47 : decode cX5_init 47 = .ok (.isub, 1) := by decide +kernel
theorem dX5_init_48 : decode cX5_init 48 = .ok (.putfield 25, 3) := by decide +kernel
theorem dX5_init_51 : decode cX5_init 51 = .ok (.return_, 1) := by decide +kernel
theorem dX6_init_0 : decode cX6_init 0 = .ok (.aload_n 0, 1) := by decide +kernel
theorem dX6_init_1 : decode cX6_init 1 = .ok (.invokespecial 5, 3) := by decide +kernel
theorem dX6_init_4 : decode cX6_init 4 = .ok (.aload_n 0, 1) := by decide +kernel
theorem dX6_init_5 : decode cX6_init 5 = .ok (.bipush 100, 2) := by decide +kernel
theorem dX6_init_7 : decode cX6_init 7 = .ok (.newarray .int, 2) := by decide +kernel
theorem dX6_init_9 : decode cX6_init 9 = .ok (.putfield 11, 3) := by decide +kernel
theorem dX6_init_12 : decode cX6_init 12 = .ok (.aload_n 0, 1) := by decide +kernel
theorem dX6_init_13 : decode cX6_init 13 = .ok (.iconst (-1), 1) := by decide +kernel
theorem dX6_init_14 : decode cX6_init 14 = .ok (.putfield 15, 3) := by decide +kernel
theorem dX6_init_17 : decode cX6_init 17 = .ok (.return_, 1) := by decide +kernel
theorem dX6_hold_0 : decode cX6_hold 0 = .ok (.aload_n 0, 1) := by decide +kernel
theorem dX6_hold_1 : decode cX6_hold 1 = .ok (.aload_n 1, 1) := by decide +kernel
theorem dX6_hold_2 : decode cX6_hold 2 = .ok (.putfield 19, 3) := by decide +kernel
theorem dX6_hold_5 : decode cX6_hold 5 = .ok (.aload_n 0, 1) := by decide +kernel
theorem dX6_hold_6 : decode cX6_hold 6 = .ok (.iconst (-1), 1) := by decide +kernel
theorem dX6_hold_7 : decode cX6_hold 7 = .ok (.putfield 15, 3) := by decide +kernel
theorem dX6_hold_10 : decode cX6_hold 10 = .ok (.aload_n 0, 1) := by decide +kernel
theorem dX6_hold_11 : decode cX6_hold 11 = .ok (.iconst 0, 1) := by decide +kernel
theorem dX6_hold_12 : decode cX6_hold 12 = .ok (.putfield 23, 3) := by decide +kernel
theorem dX6_hold_15 : decode cX6_hold 15 = .ok (.return_, 1) := by decide +kernel
theorem dX6_holdRow_0 : decode cX6_holdRow 0 = .ok (.aload_n 0, 1) := by decide +kernel
theorem dX6_holdRow_1 : decode cX6_holdRow 1 = .ok (.aconst_null, 1) := by decide +kernel
theorem dX6_holdRow_2 : decode cX6_holdRow 2 = .ok (.putfield 19, 3) := by decide +kernel
theorem dX6_holdRow_5 : decode cX6_holdRow 5 = .ok (.aload_n 0, 1) := by decide +kernel
theorem dX6_holdRow_6 : decode cX6_holdRow 6 = .ok (.iload_n 1, 1) := by decide +kernel
theorem dX6_holdRow_7 : decode cX6_holdRow 7 = .ok (.putfield 15, 3) := by decide +kernel
theorem dX6_holdRow_10 : decode cX6_holdRow 10 = .ok (.aload_n 0, 1) := by decide +kernel
theorem dX6_holdRow_11 : decode cX6_holdRow 11 = .ok (.iload_n 2, 1) := by decide +kernel
theorem dX6_holdRow_12 : decode cX6_holdRow 12 = .ok (.putfield 23, 3) := by decide +kernel
theorem dX6_holdRow_15 : decode cX6_holdRow 15 = .ok (.iconst 0, 1) := by decide +kernel
theorem dX6_holdRow_16 : decode cX6_holdRow 16 = .ok (.istore_n 3, 1) := by decide +kernel
theorem dX6_holdRow_17 : decode cX6_holdRow 17 = .ok (.iload_n 3, 1) := by decide +kernel
theorem dX6_holdRow_18 : decode cX6_holdRow 18 = .ok (.aload_n 0, 1) := by decide +kernel
theorem dX6_holdRow_19 : decode cX6_holdRow 19 = .ok (.getfield 11, 3) := by decide +kernel
theorem dX6_holdRow_22 : decode cX6_holdRow 22 = .ok (.arraylength, 1) := by decide +kernel
theorem dX6_holdRow_23 : decode cX6_holdRow 23 = .ok (.if_icmp .ge 16, 3) := by decide +kernel
theorem dX6_holdRow_26 : decode cX6_holdRow 26 = .ok (.aload_n 0, 1) := by decide +kernel
theorem dX6_holdRow_27 : decode cX6_holdRow 27 = .ok (.getfield 11, 3) := by decide +kernel
theorem dX6_holdRow_30 : decode cX6_holdRow 30 = .ok (.iload_n 3, 1) := by decide +kernel
theorem dX6_holdRow_31 : decode cX6_holdRow 31 = .ok (.iconst 0, 1) := by decide +kernel
theorem dX6_holdRow_32 : decode cX6_holdRow 32 = .ok (.iastore, 1) := by decide +kernel
theorem dX6_holdRow_33 : decode cX6_holdRow 33 = .ok (.iinc 3 1, 3) := by decide +kernel
theorem dX6_holdRow_36 : decode cX6_holdRow 36 = .ok (.goto (-19), 3) := by decide +kernel
theorem dX6_holdRow_39 : decode cX6_holdRow 39 = .ok (.return_, 1) := by decide +kernel
theorem dX6_isEmpty_0 : decode cX6_isEmpty 0 = .ok (.aload_n 0, 1) := by decide +kernel
theorem dX6_isEmpty_1 : decode cX6_isEmpty 1 = .ok (.getfield 19, 3) := by decide +kernel
theorem dX6_isEmpty_4 : decode cX6_isEmpty 4 = .ok (.ifnonnull 15, 3) := by decide +kernel
theorem dX6_isEmpty_7 : decode cX6_isEmpty 7 = .ok (.aload_n 0, 1) := by decide +kernel
theorem dX6_isEmpty_8 : decode cX6_isEmpty 8 = .ok (.getfield 15, 3) := by decide +kernel
theorem dX6_isEmpty_11 : decode cX6_isEmpty 11 = .ok (.iconst (-1), 1) := by decide +kernel
theorem dX6_isEmpty_12 : decode cX6_isEmpty 12 = .ok (.if_icmp .ne 7, 3) := by decide +kernel
theorem dX6_isEmpty_15 : decode cX6_isEmpty 15 = .ok (.iconst 1, 1) := by decide +kernel
theorem dX6_isEmpty_16 : decode cX6_isEmpty 16 = .ok (.goto 4, 3) := by decide +kernel
theorem dX6_isEmpty_19 : decode cX6_isEmpty 19 = .ok (.iconst 0, 1) := by decide +kernel
theorem dX6_isEmpty_20 : decode cX6_isEmpty 20 = .ok (.ireturn, 1) := by decide +kernel
theorem dX6_rowRefusal_0 : decode cX6_rowRefusal 0 = .ok (.aload_n 0, 1) := by decide +kernel
theorem dX6_rowRefusal_1 : decode cX6_rowRefusal 1 = .ok (.invokevirtual 26, 3) := by decide +kernel
theorem dX6_rowRefusal_4 : decode cX6_rowRefusal 4 = .ok (.ifCond .eq 8, 3) := by decide +kernel
theorem dX6_rowRefusal_7 : decode cX6_rowRefusal 7 = .ok (.bipush (-11), 2) := by decide +kernel
theorem dX6_rowRefusal_9 : decode cX6_rowRefusal 9 = .ok (.goto 17, 3) := by decide +kernel
theorem dX6_rowRefusal_12 : decode cX6_rowRefusal 12 = .ok (.aload_n 0, 1) := by decide +kernel
theorem dX6_rowRefusal_13 : decode cX6_rowRefusal 13 = .ok (.getfield 15, 3) := by decide +kernel
theorem dX6_rowRefusal_16 : decode cX6_rowRefusal 16 = .ok (.iconst (-1), 1) := by decide +kernel
theorem dX6_rowRefusal_17 : decode cX6_rowRefusal 17 = .ok (.if_icmp .ne 8, 3) := by decide +kernel
theorem dX6_rowRefusal_20 : decode cX6_rowRefusal 20 = .ok (.bipush (-12), 2) := by decide +kernel
theorem dX6_rowRefusal_22 : decode cX6_rowRefusal 22 = .ok (.goto 4, 3) := by decide +kernel
theorem dX6_rowRefusal_25 : decode cX6_rowRefusal 25 = .ok (.iconst 0, 1) := by decide +kernel
theorem dX6_rowRefusal_26 : decode cX6_rowRefusal 26 = .ok (.ireturn, 1) := by decide +kernel
theorem dX6_bytesRefusal_0 : decode cX6_bytesRefusal 0 = .ok (.aload_n 0, 1) := by decide +kernel
theorem dX6_bytesRefusal_1 : decode cX6_bytesRefusal 1 = .ok (.invokevirtual 26, 3) := by decide +kernel
theorem dX6_bytesRefusal_4 : decode cX6_bytesRefusal 4 = .ok (.ifCond .eq 8, 3) := by decide +kernel
theorem dX6_bytesRefusal_7 : decode cX6_bytesRefusal 7 = .ok (.bipush (-11), 2) := by decide +kernel
theorem dX6_bytesRefusal_9 : decode cX6_bytesRefusal 9 = .ok (.goto 16, 3) := by decide +kernel
theorem dX6_bytesRefusal_12 : decode cX6_bytesRefusal 12 = .ok (.aload_n 0, 1) := by decide +kernel
theorem dX6_bytesRefusal_13 : decode cX6_bytesRefusal 13 = .ok (.getfield 15, 3) := by decide +kernel
theorem dX6_bytesRefusal_16 : decode cX6_bytesRefusal 16 = .ok (.ifCond .eq 8, 3) := by decide +kernel
theorem dX6_bytesRefusal_19 : decode cX6_bytesRefusal 19 = .ok (.bipush (-12), 2) := by decide +kernel
theorem dX6_bytesRefusal_21 : decode cX6_bytesRefusal 21 = .ok (.goto 4, 3) := by decide +kernel
theorem dX6_bytesRefusal_24 : decode cX6_bytesRefusal 24 = .ok (.iconst 0, 1) := by decide +kernel
theorem dX6_bytesRefusal_25 : decode cX6_bytesRefusal 25 = .ok (.ireturn, 1) := by decide +kernel
theorem dX6_deedRefusal_0 : decode cX6_deedRefusal 0 = .ok (.aload_n 0, 1) := by decide +kernel
theorem dX6_deedRefusal_1 : decode cX6_deedRefusal 1 = .ok (.invokevirtual 26, 3) := by decide +kernel
theorem dX6_deedRefusal_4 : decode cX6_deedRefusal 4 = .ok (.ifCond .eq 8, 3) := by decide +kernel
theorem dX6_deedRefusal_7 : decode cX6_deedRefusal 7 = .ok (.bipush (-11), 2) := by decide +kernel
theorem dX6_deedRefusal_9 : decode cX6_deedRefusal 9 = .ok (.goto 16, 3) := by decide +kernel
theorem dX6_deedRefusal_12 : decode cX6_deedRefusal 12 = .ok (.aload_n 0, 1) := by decide +kernel
theorem dX6_deedRefusal_13 : decode cX6_deedRefusal 13 = .ok (.getfield 19, 3) := by decide +kernel
theorem dX6_deedRefusal_16 : decode cX6_deedRefusal 16 = .ok (.ifnonnull 8, 3) := by decide +kernel
theorem dX6_deedRefusal_19 : decode cX6_deedRefusal 19 = .ok (.bipush (-12), 2) := by decide +kernel
theorem dX6_deedRefusal_21 : decode cX6_deedRefusal 21 = .ok (.goto 4, 3) := by decide +kernel
theorem dX6_deedRefusal_24 : decode cX6_deedRefusal 24 = .ok (.iconst 0, 1) := by decide +kernel
theorem dX6_deedRefusal_25 : decode cX6_deedRefusal 25 = .ok (.ireturn, 1) := by decide +kernel
theorem dX6_hasPlace_0 : decode cX6_hasPlace 0 = .ok (.iload_n 1, 1) := by decide +kernel
theorem dX6_hasPlace_1 : decode cX6_hasPlace 1 = .ok (.ifCond .lt 15, 3) := by decide +kernel
theorem dX6_hasPlace_4 : decode cX6_hasPlace 4 = .ok (.iload_n 1, 1) := by decide +kernel
theorem dX6_hasPlace_5 : decode cX6_hasPlace 5 = .ok (.aload_n 0, 1) := by decide +kernel
theorem dX6_hasPlace_6 : decode cX6_hasPlace 6 = .ok (.getfield 23, 3) := by decide +kernel
theorem dX6_hasPlace_9 : decode cX6_hasPlace 9 = .ok (.if_icmp .ge 7, 3) := by decide +kernel
theorem dX6_hasPlace_12 : decode cX6_hasPlace 12 = .ok (.iconst 1, 1) := by decide +kernel
theorem dX6_hasPlace_13 : decode cX6_hasPlace 13 = .ok (.goto 4, 3) := by decide +kernel
theorem dX6_hasPlace_16 : decode cX6_hasPlace 16 = .ok (.iconst 0, 1) := by decide +kernel
theorem dX6_hasPlace_17 : decode cX6_hasPlace 17 = .ok (.ireturn, 1) := by decide +kernel
theorem dX6_hasPlaces_0 : decode cX6_hasPlaces 0 = .ok (.iload_n 1, 1) := by decide +kernel
theorem dX6_hasPlaces_1 : decode cX6_hasPlaces 1 = .ok (.ifCond .lt 29, 3) := by decide +kernel
theorem dX6_hasPlaces_4 : decode cX6_hasPlaces 4 = .ok (.iload_n 2, 1) := by decide +kernel
theorem dX6_hasPlaces_5 : decode cX6_hasPlaces 5 = .ok (.ifCond .lt 25, 3) := by decide +kernel
theorem dX6_hasPlaces_8 : decode cX6_hasPlaces 8 = .ok (.iload_n 1, 1) := by decide +kernel
theorem dX6_hasPlaces_9 : decode cX6_hasPlaces 9 = .ok (.aload_n 0, 1) := by decide +kernel
theorem dX6_hasPlaces_10 : decode cX6_hasPlaces 10 = .ok (.getfield 23, 3) := by decide +kernel
theorem dX6_hasPlaces_13 : decode cX6_hasPlaces 13 = .ok (.if_icmp .gt 17, 3) := by decide +kernel
theorem dX6_hasPlaces_16 : decode cX6_hasPlaces 16 = .ok (.iload_n 2, 1) := by decide +kernel
theorem dX6_hasPlaces_17 : decode cX6_hasPlaces 17 = .ok (.aload_n 0, 1) := by decide +kernel
theorem dX6_hasPlaces_18 : decode cX6_hasPlaces 18 = .ok (.getfield 23, 3) := by decide +kernel
theorem dX6_hasPlaces_21 : decode cX6_hasPlaces 21 = .ok (.iload_n 1, 1) := by decide +kernel
theorem dX6_hasPlaces_22 : decode cX6_hasPlaces 22 = .ok (.isub, 1) := by decide +kernel
theorem dX6_hasPlaces_23 : decode cX6_hasPlaces 23 = .ok (.if_icmp .gt 7, 3) := by decide +kernel
theorem dX6_hasPlaces_26 : decode cX6_hasPlaces 26 = .ok (.iconst 1, 1) := by decide +kernel
theorem dX6_hasPlaces_27 : decode cX6_hasPlaces 27 = .ok (.goto 4, 3) := by decide +kernel
theorem dX6_hasPlaces_30 : decode cX6_hasPlaces 30 = .ok (.iconst 0, 1) := by decide +kernel
theorem dX6_hasPlaces_31 : decode cX6_hasPlaces 31 = .ok (.ireturn, 1) := by decide +kernel
theorem dX6_read_0 : decode cX6_read 0 = .ok (.aload_n 0, 1) := by decide +kernel
theorem dX6_read_1 : decode cX6_read 1 = .ok (.iload_n 1, 1) := by decide +kernel
theorem dX6_read_2 : decode cX6_read 2 = .ok (.invokevirtual 30, 3) := by decide +kernel
theorem dX6_read_5 : decode cX6_read 5 = .ok (.ifCond .eq 14, 3) := by decide +kernel
theorem dX6_read_8 : decode cX6_read 8 = .ok (.aload_n 0, 1) := by decide +kernel
theorem dX6_read_9 : decode cX6_read 9 = .ok (.getfield 11, 3) := by decide +kernel
theorem dX6_read_12 : decode cX6_read 12 = .ok (.iload_n 1, 1) := by decide +kernel
theorem dX6_read_13 : decode cX6_read 13 = .ok (.invokestatic 34, 3) := by decide +kernel
theorem dX6_read_16 : decode cX6_read 16 = .ok (.goto 5, 3) := by decide +kernel
theorem dX6_read_19 : decode cX6_read 19 = .ok (.ldc 38, 2) := by decide +kernel
theorem dX6_read_21 : decode cX6_read 21 = .ok (.ireturn, 1) := by decide +kernel
theorem dX6_write_0 : decode cX6_write 0 = .ok (.aload_n 0, 1) := by decide +kernel
theorem dX6_write_1 : decode cX6_write 1 = .ok (.iload_n 1, 1) := by decide +kernel
theorem dX6_write_2 : decode cX6_write 2 = .ok (.invokevirtual 30, 3) := by decide +kernel
theorem dX6_write_5 : decode cX6_write 5 = .ok (.ifCond .ne 5, 3) := by decide +kernel
theorem dX6_write_8 : decode cX6_write 8 = .ok (.iconst 0, 1) := by decide +kernel
theorem dX6_write_9 : decode cX6_write 9 = .ok (.ireturn, 1) := by decide +kernel
theorem dX6_write_10 : decode cX6_write 10 = .ok (.aload_n 0, 1) := by decide +kernel
theorem dX6_write_11 : decode cX6_write 11 = .ok (.getfield 11, 3) := by decide +kernel
theorem dX6_write_14 : decode cX6_write 14 = .ok (.iload_n 1, 1) := by decide +kernel
theorem dX6_write_15 : decode cX6_write 15 = .ok (.aload_n 0, 1) := by decide +kernel
theorem dX6_write_16 : decode cX6_write 16 = .ok (.getfield 15, 3) := by decide +kernel
theorem dX6_write_19 : decode cX6_write 19 = .ok (.ifCond .ne 8, 3) := by decide +kernel
theorem dX6_write_22 : decode cX6_write 22 = .ok (.iload_n 2, 1) := by decide +kernel
theorem dX6_write_23 : decode cX6_write 23 = .ok (.i2b, 1) := by decide +kernel
theorem dX6_write_24 : decode cX6_write 24 = .ok (.goto 17, 3) := by decide +kernel
theorem dX6_write_27 : decode cX6_write 27 = .ok (.aload_n 0, 1) := by decide +kernel
theorem dX6_write_28 : decode cX6_write 28 = .ok (.getfield 15, 3) := by decide +kernel
theorem dX6_write_31 : decode cX6_write 31 = .ok (.iconst 1, 1) := by decide +kernel
theorem dX6_write_32 : decode cX6_write 32 = .ok (.if_icmp .ne 8, 3) := by decide +kernel
theorem dX6_write_35 : decode cX6_write 35 = .ok (.iload_n 2, 1) := by decide +kernel
theorem dX6_write_36 : decode cX6_write 36 = .ok (.i2s, 1) := by decide +kernel
theorem dX6_write_37 : decode cX6_write 37 = .ok (.goto 4, 3) := by decide +kernel
theorem dX6_write_40 : decode cX6_write 40 = .ok (.iload_n 2, 1) := by decide +kernel
theorem dX6_write_41 : decode cX6_write 41 = .ok (.invokestatic 39, 3) := by decide +kernel
theorem dX6_write_44 : decode cX6_write 44 = .ok (.iconst 1, 1) := by decide +kernel
theorem dX6_write_45 : decode cX6_write 45 = .ok (.ireturn, 1) := by decide +kernel
theorem dX6_leastNumber_0 : decode cX6_leastNumber 0 = .ok (.aload_n 0, 1) := by decide +kernel
theorem dX6_leastNumber_1 : decode cX6_leastNumber 1 = .ok (.getfield 15, 3) := by decide +kernel
theorem dX6_leastNumber_4 : decode cX6_leastNumber 4 = .ok (.ifCond .ne 8, 3) := by decide +kernel
theorem dX6_leastNumber_7 : decode cX6_leastNumber 7 = .ok (.bipush (-128), 2) := by decide +kernel
theorem dX6_leastNumber_9 : decode cX6_leastNumber 9 = .ok (.goto 19, 3) := by decide +kernel
theorem dX6_leastNumber_12 : decode cX6_leastNumber 12 = .ok (.aload_n 0, 1) := by decide +kernel
theorem dX6_leastNumber_13 : decode cX6_leastNumber 13 = .ok (.getfield 15, 3) := by decide +kernel
theorem dX6_leastNumber_16 : decode cX6_leastNumber 16 = .ok (.iconst 1, 1) := by decide +kernel
theorem dX6_leastNumber_17 : decode cX6_leastNumber 17 = .ok (.if_icmp .ne 9, 3) := by decide +kernel
theorem dX6_leastNumber_20 : decode cX6_leastNumber 20 = .ok (.sipush (-32768), 3) := by decide +kernel
theorem dX6_leastNumber_23 : decode cX6_leastNumber 23 = .ok (.goto 5, 3) := by decide +kernel
theorem dX6_leastNumber_26 : decode cX6_leastNumber 26 = .ok (.ldc 38, 2) := by decide +kernel
theorem dX6_leastNumber_28 : decode cX6_leastNumber 28 = .ok (.ireturn, 1) := by decide +kernel
theorem dX7_init_0 : decode cX7_init 0 = .ok (.aload_n 0, 1) := by decide +kernel
theorem dX7_init_1 : decode cX7_init 1 = .ok (.iload_n 1, 1) := by decide +kernel
theorem dX7_init_2 : decode cX7_init 2 = .ok (.iload_n 2, 1) := by decide +kernel
theorem dX7_init_3 : decode cX7_init 3 = .ok (.iload_n 3, 1) := by decide +kernel
theorem dX7_init_4 : decode cX7_init 4 = .ok (.iload 4, 2) := by decide +kernel
theorem dX7_init_6 : decode cX7_init 6 = .ok (.iload 5, 2) := by decide +kernel
theorem dX7_init_8 : decode cX7_init 8 = .ok (.invokespecial 3, 3) := by decide +kernel
theorem dX7_init_11 : decode cX7_init 11 = .ok (.aload_n 0, 1) := by decide +kernel
theorem dX7_init_12 : decode cX7_init 12 = .ok (.iconst 2, 1) := by decide +kernel
theorem dX7_init_13 : decode cX7_init 13 = .ok (.putfield 9, 3) := by decide +kernel
theorem dX7_init_16 : decode cX7_init 16 = .ok (.aload_n 0, 1) := by decide +kernel
theorem dX7_init_17 : decode cX7_init 17 = .ok (.iconst 0, 1) := by decide +kernel
theorem dX7_init_18 : decode cX7_init 18 = .ok (.putfield 15, 3) := by decide +kernel
theorem dX7_init_21 : decode cX7_init 21 = .ok (.aload_n 0, 1) := by decide +kernel
theorem dX7_init_22 : decode cX7_init 22 = .ok (.dup, 1) := by decide +kernel
theorem dX7_init_23 : decode cX7_init 23 = .ok (.getfield 18, 3) := by decide +kernel
theorem dX7_init_26 : decode cX7_init 26 = .ok (.iload 4, 2) := by decide +kernel
theorem dX7_init_28 : decode cX7_init 28 = .ok (.iadd, 1) := by decide +kernel
theorem dX7_init_29 : decode cX7_init 29 = .ok (.putfield 18, 3) := by decide +kernel
theorem dX7_init_32 : decode cX7_init 32 = .ok (.return_, 1) := by decide +kernel
theorem dX8_init_0 : decode cX8_init 0 = .ok (.aload_n 0, 1) := by decide +kernel
theorem dX8_init_1 : decode cX8_init 1 = .ok (.iload_n 1, 1) := by decide +kernel
theorem dX8_init_2 : decode cX8_init 2 = .ok (.iload_n 2, 1) := by decide +kernel
theorem dX8_init_3 : decode cX8_init 3 = .ok (.iload_n 3, 1) := by decide +kernel
theorem dX8_init_4 : decode cX8_init 4 = .ok (.iload 4, 2) := by decide +kernel
theorem dX8_init_6 : decode cX8_init 6 = .ok (.iload 5, 2) := by decide +kernel
theorem dX8_init_8 : decode cX8_init 8 = .ok (.invokespecial 3, 3) := by decide +kernel
theorem dX8_init_11 : decode cX8_init 11 = .ok (.aload_n 0, 1) := by decide +kernel
theorem dX8_init_12 : decode cX8_init 12 = .ok (.bipush 7, 2) := by decide +kernel
theorem dX8_init_14 : decode cX8_init 14 = .ok (.putfield 9, 3) := by decide +kernel
theorem dX8_init_17 : decode cX8_init 17 = .ok (.aload_n 0, 1) := by decide +kernel
theorem dX8_init_18 : decode cX8_init 18 = .ok (.dup, 1) := by decide +kernel
theorem dX8_init_19 : decode cX8_init 19 = .ok (.getfield 15, 3) := by decide +kernel
theorem dX8_init_22 : decode cX8_init 22 = .ok (.iconst 1, 1) := by decide +kernel
theorem dX8_init_23 : decode cX8_init 23 = .ok (.iload 5, 2) := by decide +kernel
theorem dX8_init_25 : decode cX8_init 25 = .ok (.ishl, 1) := by decide +kernel
theorem dX8_init_26 : decode cX8_init 26 = .ok (.ior, 1) := by decide +kernel
theorem dX8_init_27 : decode cX8_init 27 = .ok (.putfield 15, 3) := by decide +kernel
theorem dX8_init_30 : decode cX8_init 30 = .ok (.aload_n 0, 1) := by decide +kernel
theorem dX8_init_31 : decode cX8_init 31 = .ok (.dup, 1) := by decide +kernel
theorem dX8_init_32 : decode cX8_init 32 = .ok (.getfield 18, 3) := by decide +kernel
theorem dX8_init_35 : decode cX8_init 35 = .ok (.iload 5, 2) := by decide +kernel
theorem dX8_init_37 : decode cX8_init 37 = .ok (.imul, 1) := by decide +kernel
theorem dX8_init_38 : decode cX8_init 38 = .ok (.putfield 18, 3) := by decide +kernel
theorem dX8_init_41 : decode cX8_init 41 = .ok (.aload_n 0, 1) := by decide +kernel
theorem dX8_init_42 : decode cX8_init 42 = .ok (.sipush 200, 3) := by decide +kernel
theorem dX8_init_45 : decode cX8_init 45 = .ok (.aload_n 0, 1) := by decide +kernel
theorem dX8_init_46 : decode cX8_init 46 = .ok (.getfield 18, 3) := by decide +kernel
theorem dX8_init_49 : decode cX8_init 49 = .ok (.iadd, 1) := by decide +kernel
theorem dX8_init_50 : decode cX8_init 50 = .ok (.putfield 21, 3) := by decide +kernel
theorem dX8_init_53 : decode cX8_init 53 = .ok (.return_, 1) := by decide +kernel
theorem dX9_init_0 : decode cX9_init 0 = .ok (.aload_n 0, 1) := by decide +kernel
theorem dX9_init_1 : decode cX9_init 1 = .ok (.invokespecial 3, 3) := by decide +kernel
theorem dX9_init_4 : decode cX9_init 4 = .ok (.aload_n 0, 1) := by decide +kernel
theorem dX9_init_5 : decode cX9_init 5 = .ok (.bipush 8, 2) := by decide +kernel
theorem dX9_init_7 : decode cX9_init 7 = .ok (.anewarray 9, 3) := by decide +kernel
theorem dX9_init_10 : decode cX9_init 10 = .ok (.putfield 11, 3) := by decide +kernel
theorem dX9_init_13 : decode cX9_init 13 = .ok (.aload_n 0, 1) := by decide +kernel
theorem dX9_init_14 : decode cX9_init 14 = .ok (.bipush 100, 2) := by decide +kernel
theorem dX9_init_16 : decode cX9_init 16 = .ok (.putfield 17, 3) := by decide +kernel
theorem dX9_init_19 : decode cX9_init 19 = .ok (.aload_n 0, 1) := by decide +kernel
theorem dX9_init_20 : decode cX9_init 20 = .ok (.bipush 10, 2) := by decide +kernel
theorem dX9_init_22 : decode cX9_init 22 = .ok (.putfield 21, 3) := by decide +kernel
theorem dX9_init_25 : decode cX9_init 25 = .ok (.return_, 1) := by decide +kernel
theorem dX9_become_0 : decode cX9_become 0 = .ok (.iconst 0, 1) := by decide +kernel
theorem dX9_become_1 : decode cX9_become 1 = .ok (.istore_n 2, 1) := by decide +kernel
theorem dX9_become_2 : decode cX9_become 2 = .ok (.iload_n 2, 1) := by decide +kernel
theorem dX9_become_3 : decode cX9_become 3 = .ok (.aload_n 0, 1) := by decide +kernel
theorem dX9_become_4 : decode cX9_become 4 = .ok (.getfield 11, 3) := by decide +kernel
theorem dX9_become_7 : decode cX9_become 7 = .ok (.arraylength, 1) := by decide +kernel
theorem dX9_become_8 : decode cX9_become 8 = .ok (.if_icmp .ge 20, 3) := by decide +kernel
theorem dX9_become_11 : decode cX9_become 11 = .ok (.aload_n 0, 1) := by decide +kernel
theorem dX9_become_12 : decode cX9_become 12 = .ok (.getfield 11, 3) := by decide +kernel
theorem dX9_become_15 : decode cX9_become 15 = .ok (.iload_n 2, 1) := by decide +kernel
theorem dX9_become_16 : decode cX9_become 16 = .ok (.aload_n 1, 1) := by decide +kernel
theorem dX9_become_17 : decode cX9_become 17 = .ok (.iload_n 2, 1) := by decide +kernel
theorem dX9_become_18 : decode cX9_become 18 = .ok (.invokevirtual 24, 3) := by decide +kernel
theorem dX9_become_21 : decode cX9_become 21 = .ok (.aastore, 1) := by decide +kernel
theorem dX9_become_22 : decode cX9_become 22 = .ok (.iinc 2 1, 3) := by decide +kernel
theorem dX9_become_25 : decode cX9_become 25 = .ok (.goto (-23), 3) := by decide +kernel
theorem dX9_become_28 : decode cX9_become 28 = .ok (.aload_n 0, 1) := by decide +kernel
theorem dX9_become_29 : decode cX9_become 29 = .ok (.aload_n 1, 1) := by decide +kernel
theorem dX9_become_30 : decode cX9_become 30 = .ok (.getfield 28, 3) := by decide +kernel
theorem dX9_become_33 : decode cX9_become 33 = .ok (.putfield 28, 3) := by decide +kernel
theorem dX9_become_36 : decode cX9_become 36 = .ok (.aload_n 0, 1) := by decide +kernel
theorem dX9_become_37 : decode cX9_become 37 = .ok (.aload_n 1, 1) := by decide +kernel
theorem dX9_become_38 : decode cX9_become 38 = .ok (.getfield 31, 3) := by decide +kernel
theorem dX9_become_41 : decode cX9_become 41 = .ok (.putfield 31, 3) := by decide +kernel
theorem dX9_become_44 : decode cX9_become 44 = .ok (.aload_n 0, 1) := by decide +kernel
theorem dX9_become_45 : decode cX9_become 45 = .ok (.aload_n 1, 1) := by decide +kernel
theorem dX9_become_46 : decode cX9_become 46 = .ok (.getfield 17, 3) := by decide +kernel
theorem dX9_become_49 : decode cX9_become 49 = .ok (.putfield 17, 3) := by decide +kernel
theorem dX9_become_52 : decode cX9_become 52 = .ok (.aload_n 0, 1) := by decide +kernel
theorem dX9_become_53 : decode cX9_become 53 = .ok (.aload_n 1, 1) := by decide +kernel
theorem dX9_become_54 : decode cX9_become 54 = .ok (.getfield 34, 3) := by decide +kernel
theorem dX9_become_57 : decode cX9_become 57 = .ok (.putfield 34, 3) := by decide +kernel
theorem dX9_become_60 : decode cX9_become 60 = .ok (.aload_n 0, 1) := by decide +kernel
theorem dX9_become_61 : decode cX9_become 61 = .ok (.aload_n 1, 1) := by decide +kernel
theorem dX9_become_62 : decode cX9_become 62 = .ok (.getfield 21, 3) := by decide +kernel
theorem dX9_become_65 : decode cX9_become 65 = .ok (.putfield 21, 3) := by decide +kernel
theorem dX9_become_68 : decode cX9_become 68 = .ok (.aload_n 0, 1) := by decide +kernel
theorem dX9_become_69 : decode cX9_become 69 = .ok (.aload_n 1, 1) := by decide +kernel
theorem dX9_become_70 : decode cX9_become 70 = .ok (.getfield 37, 3) := by decide +kernel
theorem dX9_become_73 : decode cX9_become 73 = .ok (.putfield 37, 3) := by decide +kernel
theorem dX9_become_76 : decode cX9_become 76 = .ok (.aload_n 0, 1) := by decide +kernel
theorem dX9_become_77 : decode cX9_become 77 = .ok (.aload_n 1, 1) := by decide +kernel
theorem dX9_become_78 : decode cX9_become 78 = .ok (.getfield 40, 3) := by decide +kernel
theorem dX9_become_81 : decode cX9_become 81 = .ok (.putfield 40, 3) := by decide +kernel
theorem dX9_become_84 : decode cX9_become 84 = .ok (.return_, 1) := by decide +kernel
theorem dX9_deedAt_0 : decode cX9_deedAt 0 = .ok (.iload_n 1, 1) := by decide +kernel
theorem dX9_deedAt_1 : decode cX9_deedAt 1 = .ok (.ifCond .lt 29, 3) := by decide +kernel
theorem dX9_deedAt_4 : decode cX9_deedAt 4 = .ok (.iload_n 1, 1) := by decide +kernel
theorem dX9_deedAt_5 : decode cX9_deedAt 5 = .ok (.aload_n 0, 1) := by decide +kernel
theorem dX9_deedAt_6 : decode cX9_deedAt 6 = .ok (.getfield 28, 3) := by decide +kernel
theorem dX9_deedAt_9 : decode cX9_deedAt 9 = .ok (.if_icmp .ge 21, 3) := by decide +kernel
theorem dX9_deedAt_12 : decode cX9_deedAt 12 = .ok (.iload_n 1, 1) := by decide +kernel
theorem dX9_deedAt_13 : decode cX9_deedAt 13 = .ok (.aload_n 0, 1) := by decide +kernel
theorem dX9_deedAt_14 : decode cX9_deedAt 14 = .ok (.getfield 11, 3) := by decide +kernel
theorem dX9_deedAt_17 : decode cX9_deedAt 17 = .ok (.arraylength, 1) := by decide +kernel
theorem dX9_deedAt_18 : decode cX9_deedAt 18 = .ok (.if_icmp .ge 12, 3) := by decide +kernel
theorem dX9_deedAt_21 : decode cX9_deedAt 21 = .ok (.aload_n 0, 1) := by decide +kernel
theorem dX9_deedAt_22 : decode cX9_deedAt 22 = .ok (.getfield 11, 3) := by decide +kernel
theorem dX9_deedAt_25 : decode cX9_deedAt 25 = .ok (.iload_n 1, 1) := by decide +kernel
theorem dX9_deedAt_26 : decode cX9_deedAt 26 = .ok (.aaload, 1) := by decide +kernel
theorem dX9_deedAt_27 : decode cX9_deedAt 27 = .ok (.goto 4, 3) := by decide +kernel
theorem dX9_deedAt_30 : decode cX9_deedAt 30 = .ok (.aconst_null, 1) := by decide +kernel
theorem dX9_deedAt_31 : decode cX9_deedAt 31 = .ok (.areturn, 1) := by decide +kernel
theorem dX9_nailCost_0 : decode cX9_nailCost 0 = .ok (.aload_n 0, 1) := by decide +kernel
theorem dX9_nailCost_1 : decode cX9_nailCost 1 = .ok (.getfield 21, 3) := by decide +kernel
theorem dX9_nailCost_4 : decode cX9_nailCost 4 = .ok (.iload_n 1, 1) := by decide +kernel
theorem dX9_nailCost_5 : decode cX9_nailCost 5 = .ok (.aload_n 0, 1) := by decide +kernel
theorem dX9_nailCost_6 : decode cX9_nailCost 6 = .ok (.getfield 37, 3) := by decide +kernel
theorem dX9_nailCost_9 : decode cX9_nailCost 9 = .ok (.imul, 1) := by decide +kernel
theorem dX9_nailCost_10 : decode cX9_nailCost 10 = .ok (.iadd, 1) := by decide +kernel
theorem dX9_nailCost_11 : decode cX9_nailCost 11 = .ok (.istore_n 2, 1) := by decide +kernel
theorem dX9_nailCost_12 : decode cX9_nailCost 12 = .ok (.iload_n 2, 1) := by decide +kernel
theorem dX9_nailCost_13 : decode cX9_nailCost 13 = .ok (.ifCond .ge 7, 3) := by decide +kernel
theorem dX9_nailCost_16 : decode cX9_nailCost 16 = .ok (.iconst 0, 1) := by decide +kernel
theorem dX9_nailCost_17 : decode cX9_nailCost 17 = .ok (.goto 4, 3) := by decide +kernel
theorem dX9_nailCost_20 : decode cX9_nailCost 20 = .ok (.iload_n 2, 1) := by decide +kernel
theorem dX9_nailCost_21 : decode cX9_nailCost 21 = .ok (.ireturn, 1) := by decide +kernel
theorem dX9_changeLaw_0 : decode cX9_changeLaw 0 = .ok (.iload_n 1, 1) := by decide +kernel
theorem dX9_changeLaw_1 : decode cX9_changeLaw 1 = .ok (.ifCond .lt 8, 3) := by decide +kernel
theorem dX9_changeLaw_4 : decode cX9_changeLaw 4 = .ok (.iload_n 1, 1) := by decide +kernel
theorem dX9_changeLaw_5 : decode cX9_changeLaw 5 = .ok (.iconst 3, 1) := by decide +kernel
theorem dX9_changeLaw_6 : decode cX9_changeLaw 6 = .ok (.if_icmp .lt 5, 3) := by decide +kernel
theorem dX9_changeLaw_9 : decode cX9_changeLaw 9 = .ok (.iconst (-1), 1) := by decide +kernel
theorem dX9_changeLaw_10 : decode cX9_changeLaw 10 = .ok (.ireturn, 1) := by decide +kernel
theorem dX9_changeLaw_11 : decode cX9_changeLaw 11 = .ok (.aload_n 0, 1) := by decide +kernel
theorem dX9_changeLaw_12 : decode cX9_changeLaw 12 = .ok (.getfield 34, 3) := by decide +kernel
theorem dX9_changeLaw_15 : decode cX9_changeLaw 15 = .ok (.istore_n 2, 1) := by decide +kernel
theorem dX9_changeLaw_16 : decode cX9_changeLaw 16 = .ok (.aload_n 0, 1) := by decide +kernel
theorem dX9_changeLaw_17 : decode cX9_changeLaw 17 = .ok (.iload_n 1, 1) := by decide +kernel
theorem dX9_changeLaw_18 : decode cX9_changeLaw 18 = .ok (.putfield 34, 3) := by decide +kernel
theorem dX9_changeLaw_21 : decode cX9_changeLaw 21 = .ok (.iload_n 2, 1) := by decide +kernel
theorem dX9_changeLaw_22 : decode cX9_changeLaw 22 = .ok (.ireturn, 1) := by decide +kernel
theorem dX9_changeNail_0 : decode cX9_changeNail 0 = .ok (.iload_n 1, 1) := by decide +kernel
theorem dX9_changeNail_1 : decode cX9_changeNail 1 = .ok (.ifCond .lt 9, 3) := by decide +kernel
theorem dX9_changeNail_4 : decode cX9_changeNail 4 = .ok (.iload_n 1, 1) := by decide +kernel
theorem dX9_changeNail_5 : decode cX9_changeNail 5 = .ok (.bipush 99, 2) := by decide +kernel
theorem dX9_changeNail_7 : decode cX9_changeNail 7 = .ok (.if_icmp .le 5, 3) := by decide +kernel
theorem dX9_changeNail_10 : decode cX9_changeNail 10 = .ok (.iconst (-1), 1) := by decide +kernel
theorem dX9_changeNail_11 : decode cX9_changeNail 11 = .ok (.ireturn, 1) := by decide +kernel
theorem dX9_changeNail_12 : decode cX9_changeNail 12 = .ok (.aload_n 0, 1) := by decide +kernel
theorem dX9_changeNail_13 : decode cX9_changeNail 13 = .ok (.getfield 21, 3) := by decide +kernel
theorem dX9_changeNail_16 : decode cX9_changeNail 16 = .ok (.istore_n 2, 1) := by decide +kernel
theorem dX9_changeNail_17 : decode cX9_changeNail 17 = .ok (.aload_n 0, 1) := by decide +kernel
theorem dX9_changeNail_18 : decode cX9_changeNail 18 = .ok (.iload_n 1, 1) := by decide +kernel
theorem dX9_changeNail_19 : decode cX9_changeNail 19 = .ok (.putfield 21, 3) := by decide +kernel
theorem dX9_changeNail_22 : decode cX9_changeNail 22 = .ok (.iload_n 2, 1) := by decide +kernel
theorem dX9_changeNail_23 : decode cX9_changeNail 23 = .ok (.ireturn, 1) := by decide +kernel
theorem dX9_changeCoins_0 : decode cX9_changeCoins 0 = .ok (.iload_n 1, 1) := by decide +kernel
theorem dX9_changeCoins_1 : decode cX9_changeCoins 1 = .ok (.ifCond .lt 10, 3) := by decide +kernel
theorem dX9_changeCoins_4 : decode cX9_changeCoins 4 = .ok (.iload_n 1, 1) := by decide +kernel
theorem dX9_changeCoins_5 : decode cX9_changeCoins 5 = .ok (.sipush 9999, 3) := by decide +kernel
theorem dX9_changeCoins_8 : decode cX9_changeCoins 8 = .ok (.if_icmp .le 5, 3) := by decide +kernel
theorem dX9_changeCoins_11 : decode cX9_changeCoins 11 = .ok (.iconst (-1), 1) := by decide +kernel
theorem dX9_changeCoins_12 : decode cX9_changeCoins 12 = .ok (.ireturn, 1) := by decide +kernel
theorem dX9_changeCoins_13 : decode cX9_changeCoins 13 = .ok (.aload_n 0, 1) := by decide +kernel
theorem dX9_changeCoins_14 : decode cX9_changeCoins 14 = .ok (.getfield 17, 3) := by decide +kernel
theorem dX9_changeCoins_17 : decode cX9_changeCoins 17 = .ok (.istore_n 2, 1) := by decide +kernel
theorem dX9_changeCoins_18 : decode cX9_changeCoins 18 = .ok (.aload_n 0, 1) := by decide +kernel
theorem dX9_changeCoins_19 : decode cX9_changeCoins 19 = .ok (.iload_n 1, 1) := by decide +kernel
theorem dX9_changeCoins_20 : decode cX9_changeCoins 20 = .ok (.putfield 17, 3) := by decide +kernel
theorem dX9_changeCoins_23 : decode cX9_changeCoins 23 = .ok (.iload_n 2, 1) := by decide +kernel
theorem dX9_changeCoins_24 : decode cX9_changeCoins 24 = .ok (.ireturn, 1) := by decide +kernel
theorem dX9_read_0 : decode cX9_read 0 = .ok (.iconst 0, 1) := by decide +kernel
theorem dX9_read_1 : decode cX9_read 1 = .ok (.istore_n 2, 1) := by decide +kernel
theorem dX9_read_2 : decode cX9_read 2 = .ok (.iconst 0, 1) := by decide +kernel
theorem dX9_read_3 : decode cX9_read 3 = .ok (.istore_n 3, 1) := by decide +kernel
theorem dX9_read_4 : decode cX9_read 4 = .ok (.iload_n 2, 1) := by decide +kernel
theorem dX9_read_5 : decode cX9_read 5 = .ok (.ifCond .eq 19, 3) := by decide +kernel
theorem dX9_read_8 : decode cX9_read 8 = .ok (.iload_n 2, 1) := by decide +kernel
theorem dX9_read_9 : decode cX9_read 9 = .ok (.aload_n 1, 1) := by decide +kernel
theorem dX9_read_10 : decode cX9_read 10 = .ok (.getfield 43, 3) := by decide +kernel
theorem dX9_read_13 : decode cX9_read 13 = .ok (.if_icmp .ge 36, 3) := by decide +kernel
theorem dX9_read_16 : decode cX9_read 16 = .ok (.iload_n 3, 1) := by decide +kernel
theorem dX9_read_17 : decode cX9_read 17 = .ok (.aload_n 1, 1) := by decide +kernel
theorem dX9_read_18 : decode cX9_read 18 = .ok (.getfield 43, 3) := by decide +kernel
theorem dX9_read_21 : decode cX9_read 21 = .ok (.if_icmp .ge 28, 3) := by decide +kernel
theorem dX9_read_24 : decode cX9_read 24 = .ok (.aload_n 1, 1) := by decide +kernel
theorem dX9_read_25 : decode cX9_read 25 = .ok (.iload_n 3, 1) := by decide +kernel
theorem dX9_read_26 : decode cX9_read 26 = .ok (.invokestatic 48, 3) := by decide +kernel
theorem dX9_read_29 : decode cX9_read 29 = .ok (.istore_n 3, 1) := by decide +kernel
theorem dX9_read_30 : decode cX9_read 30 = .ok (.iload_n 3, 1) := by decide +kernel
theorem dX9_read_31 : decode cX9_read 31 = .ok (.ifCond .ge 12, 3) := by decide +kernel
theorem dX9_read_34 : decode cX9_read 34 = .ok (.sipush (-1000), 3) := by decide +kernel
theorem dX9_read_37 : decode cX9_read 37 = .ok (.iload_n 3, 1) := by decide +kernel
theorem dX9_read_38 : decode cX9_read 38 = .ok (.invokestatic 52, 3) := by decide +kernel
theorem dX9_read_41 : decode cX9_read 41 = .ok (.isub, 1) := by decide +kernel
theorem dX9_read_42 : decode cX9_read 42 = .ok (.ireturn, 1) := by decide +kernel
theorem dX9_read_43 : decode cX9_read 43 = .ok (.iinc 2 1, 3) := by decide +kernel
theorem dX9_read_46 : decode cX9_read 46 = .ok (.goto (-42), 3) := by decide +kernel
theorem dX9_read_49 : decode cX9_read 49 = .ok (.iconst 0, 1) := by decide +kernel
theorem dX9_read_50 : decode cX9_read 50 = .ok (.istore_n 3, 1) := by decide +kernel
theorem dX9_read_51 : decode cX9_read 51 = .ok (.iconst 0, 1) := by decide +kernel
theorem dX9_read_52 : decode cX9_read 52 = .ok (.istore 4, 2) := by decide +kernel
theorem dX9_read_54 : decode cX9_read 54 = .ok (.iload 4, 2) := by decide +kernel
theorem dX9_read_56 : decode cX9_read 56 = .ok (.iload_n 2, 1) := by decide +kernel
theorem dX9_read_57 : decode cX9_read 57 = .ok (.if_icmp .ge 30, 3) := by decide +kernel
theorem dX9_read_60 : decode cX9_read 60 = .ok (.aload_n 0, 1) := by decide +kernel
theorem dX9_read_61 : decode cX9_read 61 = .ok (.aload_n 1, 1) := by decide +kernel
theorem dX9_read_62 : decode cX9_read 62 = .ok (.iload_n 3, 1) := by decide +kernel
theorem dX9_read_63 : decode cX9_read 63 = .ok (.invokevirtual 56, 3) := by decide +kernel
theorem dX9_read_66 : decode cX9_read 66 = .ok (.ifCond .ne 9, 3) := by decide +kernel
theorem dX9_read_69 : decode cX9_read 69 = .ok (.sipush (-2000), 3) := by decide +kernel
theorem dX9_read_72 : decode cX9_read 72 = .ok (.iload_n 3, 1) := by decide +kernel
theorem dX9_read_73 : decode cX9_read 73 = .ok (.isub, 1) := by decide +kernel
theorem dX9_read_74 : decode cX9_read 74 = .ok (.ireturn, 1) := by decide +kernel
theorem dX9_read_75 : decode cX9_read 75 = .ok (.aload_n 1, 1) := by decide +kernel
theorem dX9_read_76 : decode cX9_read 76 = .ok (.iload_n 3, 1) := by decide +kernel
theorem dX9_read_77 : decode cX9_read 77 = .ok (.invokestatic 48, 3) := by decide +kernel
theorem dX9_read_80 : decode cX9_read 80 = .ok (.istore_n 3, 1) := by decide +kernel
theorem dX9_read_81 : decode cX9_read 81 = .ok (.iinc 4 1, 3) := by decide +kernel
theorem dX9_read_84 : decode cX9_read 84 = .ok (.goto (-30), 3) := by decide +kernel
theorem dX9_read_87 : decode cX9_read 87 = .ok (.iload_n 2, 1) := by decide +kernel
theorem dX9_read_88 : decode cX9_read 88 = .ok (.ireturn, 1) := by decide +kernel
theorem dX9_wrongAt_0 : decode cX9_wrongAt 0 = .ok (.iconst (-1), 1) := by decide +kernel
theorem dX9_wrongAt_1 : decode cX9_wrongAt 1 = .ok (.iload_n 0, 1) := by decide +kernel
theorem dX9_wrongAt_2 : decode cX9_wrongAt 2 = .ok (.isub, 1) := by decide +kernel
theorem dX9_wrongAt_3 : decode cX9_wrongAt 3 = .ok (.ireturn, 1) := by decide +kernel
theorem dX9_faultAt_0 : decode cX9_faultAt 0 = .ok (.iconst (-1), 1) := by decide +kernel
theorem dX9_faultAt_1 : decode cX9_faultAt 1 = .ok (.iload_n 0, 1) := by decide +kernel
theorem dX9_faultAt_2 : decode cX9_faultAt 2 = .ok (.isub, 1) := by decide +kernel
theorem dX9_faultAt_3 : decode cX9_faultAt 3 = .ok (.ireturn, 1) := by decide +kernel
theorem dX9_behindStatement_0 : decode cX9_behindStatement 0 = .ok (.aload_n 0, 1) := by decide +kernel
theorem dX9_behindStatement_1 : decode cX9_behindStatement 1 = .ok (.iload_n 1, 1) := by decide +kernel
theorem dX9_behindStatement_2 : decode cX9_behindStatement 2 = .ok (.invokevirtual 60, 3) := by decide +kernel
theorem dX9_behindStatement_5 : decode cX9_behindStatement 5 = .ok (.tableswitch 119 99 110 #[85, 63, 119, 119, 119, 119, 119, 119, 119, 108, 74, 97], 63) := by decide +kernel
theorem dX9_behindStatement_68 : decode cX9_behindStatement 68 = .ok (.aload_n 0, 1) := by decide +kernel
theorem dX9_behindStatement_69 : decode cX9_behindStatement 69 = .ok (.iload_n 1, 1) := by decide +kernel
theorem dX9_behindStatement_70 : decode cX9_behindStatement 70 = .ok (.iconst 1, 1) := by decide +kernel
theorem dX9_behindStatement_71 : decode cX9_behindStatement 71 = .ok (.iadd, 1) := by decide +kernel
theorem dX9_behindStatement_72 : decode cX9_behindStatement 72 = .ok (.invokestatic 63, 3) := by decide +kernel
theorem dX9_behindStatement_75 : decode cX9_behindStatement 75 = .ok (.istore_n 2, 1) := by decide +kernel
theorem dX9_behindStatement_76 : decode cX9_behindStatement 76 = .ok (.goto 53, 3) := by decide +kernel
theorem dX9_behindStatement_79 : decode cX9_behindStatement 79 = .ok (.aload_n 0, 1) := by decide +kernel
theorem dX9_behindStatement_80 : decode cX9_behindStatement 80 = .ok (.iload_n 1, 1) := by decide +kernel
theorem dX9_behindStatement_81 : decode cX9_behindStatement 81 = .ok (.iconst 1, 1) := by decide +kernel
theorem dX9_behindStatement_82 : decode cX9_behindStatement 82 = .ok (.iadd, 1) := by decide +kernel
theorem dX9_behindStatement_83 : decode cX9_behindStatement 83 = .ok (.invokestatic 66, 3) := by decide +kernel
theorem dX9_behindStatement_86 : decode cX9_behindStatement 86 = .ok (.istore_n 2, 1) := by decide +kernel
theorem dX9_behindStatement_87 : decode cX9_behindStatement 87 = .ok (.goto 42, 3) := by decide +kernel
theorem dX9_behindStatement_90 : decode cX9_behindStatement 90 = .ok (.aload_n 0, 1) := by decide +kernel
theorem dX9_behindStatement_91 : decode cX9_behindStatement 91 = .ok (.iload_n 1, 1) := by decide +kernel
theorem dX9_behindStatement_92 : decode cX9_behindStatement 92 = .ok (.iconst 1, 1) := by decide +kernel
theorem dX9_behindStatement_93 : decode cX9_behindStatement 93 = .ok (.iadd, 1) := by decide +kernel
theorem dX9_behindStatement_94 : decode cX9_behindStatement 94 = .ok (.iconst 4, 1) := by decide +kernel
theorem dX9_behindStatement_95 : decode cX9_behindStatement 95 = .ok (.invokestatic 69, 3) := by decide +kernel
theorem dX9_behindStatement_98 : decode cX9_behindStatement 98 = .ok (.istore_n 2, 1) := by decide +kernel
theorem dX9_behindStatement_99 : decode cX9_behindStatement 99 = .ok (.goto 30, 3) := by decide +kernel
theorem dX9_behindStatement_102 : decode cX9_behindStatement 102 = .ok (.aload_n 0, 1) := by decide +kernel
theorem dX9_behindStatement_103 : decode cX9_behindStatement 103 = .ok (.iload_n 1, 1) := by decide +kernel
theorem dX9_behindStatement_104 : decode cX9_behindStatement 104 = .ok (.iconst 1, 1) := by decide +kernel
theorem dX9_behindStatement_105 : decode cX9_behindStatement 105 = .ok (.iadd, 1) := by decide +kernel
theorem dX9_behindStatement_106 : decode cX9_behindStatement 106 = .ok (.invokestatic 73, 3) := by decide +kernel
theorem dX9_behindStatement_109 : decode cX9_behindStatement 109 = .ok (.istore_n 2, 1) := by decide +kernel
theorem dX9_behindStatement_110 : decode cX9_behindStatement 110 = .ok (.goto 19, 3) := by decide +kernel
theorem dX9_behindStatement_113 : decode cX9_behindStatement 113 = .ok (.aload_n 0, 1) := by decide +kernel
theorem dX9_behindStatement_114 : decode cX9_behindStatement 114 = .ok (.iload_n 1, 1) := by decide +kernel
theorem dX9_behindStatement_115 : decode cX9_behindStatement 115 = .ok (.iconst 1, 1) := by decide +kernel
theorem dX9_behindStatement_116 : decode cX9_behindStatement 116 = .ok (.iadd, 1) := by decide +kernel
theorem dX9_behindStatement_117 : decode cX9_behindStatement 117 = .ok (.invokestatic 76, 3) := by decide +kernel
theorem dX9_behindStatement_120 : decode cX9_behindStatement 120 = .ok (.istore_n 2, 1) := by decide +kernel
theorem dX9_behindStatement_121 : decode cX9_behindStatement 121 = .ok (.goto 8, 3) := by decide +kernel
theorem dX9_behindStatement_124 : decode cX9_behindStatement 124 = .ok (.iload_n 1, 1) := by decide +kernel
theorem dX9_behindStatement_125 : decode cX9_behindStatement 125 = .ok (.invokestatic 79, 3) := by decide +kernel
theorem dX9_behindStatement_128 : decode cX9_behindStatement 128 = .ok (.ireturn, 1) := by decide +kernel
theorem dX9_behindStatement_129 : decode cX9_behindStatement 129 = .ok (.aload_n 0, 1) := by decide +kernel
theorem dX9_behindStatement_130 : decode cX9_behindStatement 130 = .ok (.iload_n 2, 1) := by decide +kernel
theorem dX9_behindStatement_131 : decode cX9_behindStatement 131 = .ok (.bipush 59, 2) := by decide +kernel
theorem dX9_behindStatement_133 : decode cX9_behindStatement 133 = .ok (.invokestatic 82, 3) := by decide +kernel
theorem dX9_behindStatement_136 : decode cX9_behindStatement 136 = .ok (.ireturn, 1) := by decide +kernel
theorem dX9_behindDeed_0 : decode cX9_behindDeed 0 = .ok (.aload_n 0, 1) := by decide +kernel
theorem dX9_behindDeed_1 : decode cX9_behindDeed 1 = .ok (.aload_n 0, 1) := by decide +kernel
theorem dX9_behindDeed_2 : decode cX9_behindDeed 2 = .ok (.iload_n 1, 1) := by decide +kernel
theorem dX9_behindDeed_3 : decode cX9_behindDeed 3 = .ok (.invokestatic 76, 3) := by decide +kernel
theorem dX9_behindDeed_6 : decode cX9_behindDeed 6 = .ok (.invokestatic 85, 3) := by decide +kernel
theorem dX9_behindDeed_9 : decode cX9_behindDeed 9 = .ok (.istore_n 2, 1) := by decide +kernel
theorem dX9_behindDeed_10 : decode cX9_behindDeed 10 = .ok (.aload_n 0, 1) := by decide +kernel
theorem dX9_behindDeed_11 : decode cX9_behindDeed 11 = .ok (.aload_n 0, 1) := by decide +kernel
theorem dX9_behindDeed_12 : decode cX9_behindDeed 12 = .ok (.iload_n 2, 1) := by decide +kernel
theorem dX9_behindDeed_13 : decode cX9_behindDeed 13 = .ok (.bipush 32, 2) := by decide +kernel
theorem dX9_behindDeed_15 : decode cX9_behindDeed 15 = .ok (.invokestatic 82, 3) := by decide +kernel
theorem dX9_behindDeed_18 : decode cX9_behindDeed 18 = .ok (.invokestatic 66, 3) := by decide +kernel
theorem dX9_behindDeed_21 : decode cX9_behindDeed 21 = .ok (.istore_n 2, 1) := by decide +kernel
theorem dX9_behindDeed_22 : decode cX9_behindDeed 22 = .ok (.aload_n 0, 1) := by decide +kernel
theorem dX9_behindDeed_23 : decode cX9_behindDeed 23 = .ok (.aload_n 0, 1) := by decide +kernel
theorem dX9_behindDeed_24 : decode cX9_behindDeed 24 = .ok (.iload_n 2, 1) := by decide +kernel
theorem dX9_behindDeed_25 : decode cX9_behindDeed 25 = .ok (.iconst 2, 1) := by decide +kernel
theorem dX9_behindDeed_26 : decode cX9_behindDeed 26 = .ok (.invokestatic 69, 3) := by decide +kernel
theorem dX9_behindDeed_29 : decode cX9_behindDeed 29 = .ok (.bipush 32, 2) := by decide +kernel
theorem dX9_behindDeed_31 : decode cX9_behindDeed 31 = .ok (.invokestatic 82, 3) := by decide +kernel
theorem dX9_behindDeed_34 : decode cX9_behindDeed 34 = .ok (.istore_n 2, 1) := by decide +kernel
theorem dX9_behindDeed_35 : decode cX9_behindDeed 35 = .ok (.aload_n 0, 1) := by decide +kernel
theorem dX9_behindDeed_36 : decode cX9_behindDeed 36 = .ok (.iload_n 2, 1) := by decide +kernel
theorem dX9_behindDeed_37 : decode cX9_behindDeed 37 = .ok (.invokestatic 76, 3) := by decide +kernel
theorem dX9_behindDeed_40 : decode cX9_behindDeed 40 = .ok (.ireturn, 1) := by decide +kernel
theorem dX9_behindNail_0 : decode cX9_behindNail 0 = .ok (.aload_n 0, 1) := by decide +kernel
theorem dX9_behindNail_1 : decode cX9_behindNail 1 = .ok (.aload_n 0, 1) := by decide +kernel
theorem dX9_behindNail_2 : decode cX9_behindNail 2 = .ok (.iload_n 1, 1) := by decide +kernel
theorem dX9_behindNail_3 : decode cX9_behindNail 3 = .ok (.iconst 2, 1) := by decide +kernel
theorem dX9_behindNail_4 : decode cX9_behindNail 4 = .ok (.invokestatic 69, 3) := by decide +kernel
theorem dX9_behindNail_7 : decode cX9_behindNail 7 = .ok (.bipush 32, 2) := by decide +kernel
theorem dX9_behindNail_9 : decode cX9_behindNail 9 = .ok (.invokestatic 82, 3) := by decide +kernel
theorem dX9_behindNail_12 : decode cX9_behindNail 12 = .ok (.istore_n 2, 1) := by decide +kernel
theorem dX9_behindNail_13 : decode cX9_behindNail 13 = .ok (.iload_n 2, 1) := by decide +kernel
theorem dX9_behindNail_14 : decode cX9_behindNail 14 = .ok (.ifCond .lt 21, 3) := by decide +kernel
theorem dX9_behindNail_17 : decode cX9_behindNail 17 = .ok (.aload_n 0, 1) := by decide +kernel
theorem dX9_behindNail_18 : decode cX9_behindNail 18 = .ok (.iload_n 2, 1) := by decide +kernel
theorem dX9_behindNail_19 : decode cX9_behindNail 19 = .ok (.invokevirtual 60, 3) := by decide +kernel
theorem dX9_behindNail_22 : decode cX9_behindNail 22 = .ok (.bipush 45, 2) := by decide +kernel
theorem dX9_behindNail_24 : decode cX9_behindNail 24 = .ok (.if_icmp .ne 11, 3) := by decide +kernel
theorem dX9_behindNail_27 : decode cX9_behindNail 27 = .ok (.aload_n 0, 1) := by decide +kernel
theorem dX9_behindNail_28 : decode cX9_behindNail 28 = .ok (.iload_n 2, 1) := by decide +kernel
theorem dX9_behindNail_29 : decode cX9_behindNail 29 = .ok (.iconst 1, 1) := by decide +kernel
theorem dX9_behindNail_30 : decode cX9_behindNail 30 = .ok (.iadd, 1) := by decide +kernel
theorem dX9_behindNail_31 : decode cX9_behindNail 31 = .ok (.invokestatic 76, 3) := by decide +kernel
theorem dX9_behindNail_34 : decode cX9_behindNail 34 = .ok (.ireturn, 1) := by decide +kernel
theorem dX9_behindNail_35 : decode cX9_behindNail 35 = .ok (.aload_n 0, 1) := by decide +kernel
theorem dX9_behindNail_36 : decode cX9_behindNail 36 = .ok (.aload_n 0, 1) := by decide +kernel
theorem dX9_behindNail_37 : decode cX9_behindNail 37 = .ok (.iload_n 2, 1) := by decide +kernel
theorem dX9_behindNail_38 : decode cX9_behindNail 38 = .ok (.bipush 43, 2) := by decide +kernel
theorem dX9_behindNail_40 : decode cX9_behindNail 40 = .ok (.invokestatic 82, 3) := by decide +kernel
theorem dX9_behindNail_43 : decode cX9_behindNail 43 = .ok (.invokestatic 76, 3) := by decide +kernel
theorem dX9_behindNail_46 : decode cX9_behindNail 46 = .ok (.ireturn, 1) := by decide +kernel
theorem dX9_behindSign_0 : decode cX9_behindSign 0 = .ok (.iload_n 1, 1) := by decide +kernel
theorem dX9_behindSign_1 : decode cX9_behindSign 1 = .ok (.ifCond .ge 5, 3) := by decide +kernel
theorem dX9_behindSign_4 : decode cX9_behindSign 4 = .ok (.iload_n 1, 1) := by decide +kernel
theorem dX9_behindSign_5 : decode cX9_behindSign 5 = .ok (.ireturn, 1) := by decide +kernel
theorem dX9_behindSign_6 : decode cX9_behindSign 6 = .ok (.aload_n 0, 1) := by decide +kernel
theorem dX9_behindSign_7 : decode cX9_behindSign 7 = .ok (.iload_n 1, 1) := by decide +kernel
theorem dX9_behindSign_8 : decode cX9_behindSign 8 = .ok (.invokevirtual 60, 3) := by decide +kernel
theorem dX9_behindSign_11 : decode cX9_behindSign 11 = .ok (.iload_n 2, 1) := by decide +kernel
theorem dX9_behindSign_12 : decode cX9_behindSign 12 = .ok (.if_icmp .ne 9, 3) := by decide +kernel
theorem dX9_behindSign_15 : decode cX9_behindSign 15 = .ok (.iload_n 1, 1) := by decide +kernel
theorem dX9_behindSign_16 : decode cX9_behindSign 16 = .ok (.iconst 1, 1) := by decide +kernel
theorem dX9_behindSign_17 : decode cX9_behindSign 17 = .ok (.iadd, 1) := by decide +kernel
theorem dX9_behindSign_18 : decode cX9_behindSign 18 = .ok (.goto 7, 3) := by decide +kernel
theorem dX9_behindSign_21 : decode cX9_behindSign 21 = .ok (.iload_n 1, 1) := by decide +kernel
theorem dX9_behindSign_22 : decode cX9_behindSign 22 = .ok (.invokestatic 79, 3) := by decide +kernel
theorem dX9_behindSign_25 : decode cX9_behindSign 25 = .ok (.ireturn, 1) := by decide +kernel
theorem dX9_behindDigit_0 : decode cX9_behindDigit 0 = .ok (.iload_n 1, 1) := by decide +kernel
theorem dX9_behindDigit_1 : decode cX9_behindDigit 1 = .ok (.ifCond .ge 5, 3) := by decide +kernel
theorem dX9_behindDigit_4 : decode cX9_behindDigit 4 = .ok (.iload_n 1, 1) := by decide +kernel
theorem dX9_behindDigit_5 : decode cX9_behindDigit 5 = .ok (.ireturn, 1) := by decide +kernel
theorem dX9_behindDigit_6 : decode cX9_behindDigit 6 = .ok (.aload_n 0, 1) := by decide +kernel
theorem dX9_behindDigit_7 : decode cX9_behindDigit 7 = .ok (.iload_n 1, 1) := by decide +kernel
theorem dX9_behindDigit_8 : decode cX9_behindDigit 8 = .ok (.invokevirtual 60, 3) := by decide +kernel
theorem dX9_behindDigit_11 : decode cX9_behindDigit 11 = .ok (.invokestatic 88, 3) := by decide +kernel
theorem dX9_behindDigit_14 : decode cX9_behindDigit 14 = .ok (.ifCond .eq 9, 3) := by decide +kernel
theorem dX9_behindDigit_17 : decode cX9_behindDigit 17 = .ok (.iload_n 1, 1) := by decide +kernel
theorem dX9_behindDigit_18 : decode cX9_behindDigit 18 = .ok (.iconst 1, 1) := by decide +kernel
theorem dX9_behindDigit_19 : decode cX9_behindDigit 19 = .ok (.iadd, 1) := by decide +kernel
theorem dX9_behindDigit_20 : decode cX9_behindDigit 20 = .ok (.goto 7, 3) := by decide +kernel
theorem dX9_behindDigit_23 : decode cX9_behindDigit 23 = .ok (.iload_n 1, 1) := by decide +kernel
theorem dX9_behindDigit_24 : decode cX9_behindDigit 24 = .ok (.invokestatic 79, 3) := by decide +kernel
theorem dX9_behindDigit_27 : decode cX9_behindDigit 27 = .ok (.ireturn, 1) := by decide +kernel
theorem dX9_behindLetter_0 : decode cX9_behindLetter 0 = .ok (.iload_n 1, 1) := by decide +kernel
theorem dX9_behindLetter_1 : decode cX9_behindLetter 1 = .ok (.ifCond .ge 5, 3) := by decide +kernel
theorem dX9_behindLetter_4 : decode cX9_behindLetter 4 = .ok (.iload_n 1, 1) := by decide +kernel
theorem dX9_behindLetter_5 : decode cX9_behindLetter 5 = .ok (.ireturn, 1) := by decide +kernel
theorem dX9_behindLetter_6 : decode cX9_behindLetter 6 = .ok (.aload_n 0, 1) := by decide +kernel
theorem dX9_behindLetter_7 : decode cX9_behindLetter 7 = .ok (.iload_n 1, 1) := by decide +kernel
theorem dX9_behindLetter_8 : decode cX9_behindLetter 8 = .ok (.invokevirtual 60, 3) := by decide +kernel
theorem dX9_behindLetter_11 : decode cX9_behindLetter 11 = .ok (.invokestatic 92, 3) := by decide +kernel
theorem dX9_behindLetter_14 : decode cX9_behindLetter 14 = .ok (.ifCond .eq 9, 3) := by decide +kernel
theorem dX9_behindLetter_17 : decode cX9_behindLetter 17 = .ok (.iload_n 1, 1) := by decide +kernel
theorem dX9_behindLetter_18 : decode cX9_behindLetter 18 = .ok (.iconst 1, 1) := by decide +kernel
theorem dX9_behindLetter_19 : decode cX9_behindLetter 19 = .ok (.iadd, 1) := by decide +kernel
theorem dX9_behindLetter_20 : decode cX9_behindLetter 20 = .ok (.goto 7, 3) := by decide +kernel
theorem dX9_behindLetter_23 : decode cX9_behindLetter 23 = .ok (.iload_n 1, 1) := by decide +kernel
theorem dX9_behindLetter_24 : decode cX9_behindLetter 24 = .ok (.invokestatic 79, 3) := by decide +kernel
theorem dX9_behindLetter_27 : decode cX9_behindLetter 27 = .ok (.ireturn, 1) := by decide +kernel
theorem dX9_behindNeeds_0 : decode cX9_behindNeeds 0 = .ok (.iload_n 1, 1) := by decide +kernel
theorem dX9_behindNeeds_1 : decode cX9_behindNeeds 1 = .ok (.istore_n 2, 1) := by decide +kernel
theorem dX9_behindNeeds_2 : decode cX9_behindNeeds 2 = .ok (.iconst 0, 1) := by decide +kernel
theorem dX9_behindNeeds_3 : decode cX9_behindNeeds 3 = .ok (.istore_n 3, 1) := by decide +kernel
theorem dX9_behindNeeds_4 : decode cX9_behindNeeds 4 = .ok (.iconst 0, 1) := by decide +kernel
theorem dX9_behindNeeds_5 : decode cX9_behindNeeds 5 = .ok (.istore 4, 2) := by decide +kernel
theorem dX9_behindNeeds_7 : decode cX9_behindNeeds 7 = .ok (.iload 4, 2) := by decide +kernel
theorem dX9_behindNeeds_9 : decode cX9_behindNeeds 9 = .ok (.bipush 10, 2) := by decide +kernel
theorem dX9_behindNeeds_11 : decode cX9_behindNeeds 11 = .ok (.if_icmp .ge 38, 3) := by decide +kernel
theorem dX9_behindNeeds_14 : decode cX9_behindNeeds 14 = .ok (.aload_n 0, 1) := by decide +kernel
theorem dX9_behindNeeds_15 : decode cX9_behindNeeds 15 = .ok (.iload_n 2, 1) := by decide +kernel
theorem dX9_behindNeeds_16 : decode cX9_behindNeeds 16 = .ok (.invokevirtual 60, 3) := by decide +kernel
theorem dX9_behindNeeds_19 : decode cX9_behindNeeds 19 = .ok (.invokestatic 92, 3) := by decide +kernel
theorem dX9_behindNeeds_22 : decode cX9_behindNeeds 22 = .ok (.ifCond .eq 27, 3) := by decide +kernel
theorem dX9_behindNeeds_25 : decode cX9_behindNeeds 25 = .ok (.aload_n 0, 1) := by decide +kernel
theorem dX9_behindNeeds_26 : decode cX9_behindNeeds 26 = .ok (.iload_n 2, 1) := by decide +kernel
theorem dX9_behindNeeds_27 : decode cX9_behindNeeds 27 = .ok (.invokevirtual 60, 3) := by decide +kernel
theorem dX9_behindNeeds_30 : decode cX9_behindNeeds 30 = .ok (.iload_n 3, 1) := by decide +kernel
theorem dX9_behindNeeds_31 : decode cX9_behindNeeds 31 = .ok (.if_icmp .le 18, 3) := by decide +kernel
theorem dX9_behindNeeds_34 : decode cX9_behindNeeds 34 = .ok (.aload_n 0, 1) := by decide +kernel
theorem dX9_behindNeeds_35 : decode cX9_behindNeeds 35 = .ok (.iload_n 2, 1) := by decide +kernel
theorem dX9_behindNeeds_36 : decode cX9_behindNeeds 36 = .ok (.invokevirtual 60, 3) := by decide +kernel
theorem dX9_behindNeeds_39 : decode cX9_behindNeeds 39 = .ok (.istore_n 3, 1) := by decide +kernel
theorem dX9_behindNeeds_40 : decode cX9_behindNeeds 40 = .ok (.iinc 2 1, 3) := by decide +kernel
theorem dX9_behindNeeds_43 : decode cX9_behindNeeds 43 = .ok (.iinc 4 1, 3) := by decide +kernel
theorem dX9_behindNeeds_46 : decode cX9_behindNeeds 46 = .ok (.goto (-39), 3) := by decide +kernel
theorem dX9_behindNeeds_49 : decode cX9_behindNeeds 49 = .ok (.iload_n 2, 1) := by decide +kernel
theorem dX9_behindNeeds_50 : decode cX9_behindNeeds 50 = .ok (.ireturn, 1) := by decide +kernel
theorem dX9_behindNumber_0 : decode cX9_behindNumber 0 = .ok (.aload_n 0, 1) := by decide +kernel
theorem dX9_behindNumber_1 : decode cX9_behindNumber 1 = .ok (.iload_n 1, 1) := by decide +kernel
theorem dX9_behindNumber_2 : decode cX9_behindNumber 2 = .ok (.invokestatic 76, 3) := by decide +kernel
theorem dX9_behindNumber_5 : decode cX9_behindNumber 5 = .ok (.istore_n 3, 1) := by decide +kernel
theorem dX9_behindNumber_6 : decode cX9_behindNumber 6 = .ok (.iload_n 3, 1) := by decide +kernel
theorem dX9_behindNumber_7 : decode cX9_behindNumber 7 = .ok (.ifCond .lt 13, 3) := by decide +kernel
theorem dX9_behindNumber_10 : decode cX9_behindNumber 10 = .ok (.aload_n 0, 1) := by decide +kernel
theorem dX9_behindNumber_11 : decode cX9_behindNumber 11 = .ok (.iload_n 1, 1) := by decide +kernel
theorem dX9_behindNumber_12 : decode cX9_behindNumber 12 = .ok (.invokevirtual 60, 3) := by decide +kernel
theorem dX9_behindNumber_15 : decode cX9_behindNumber 15 = .ok (.bipush 48, 2) := by decide +kernel
theorem dX9_behindNumber_17 : decode cX9_behindNumber 17 = .ok (.if_icmp .ne 5, 3) := by decide +kernel
theorem dX9_behindNumber_20 : decode cX9_behindNumber 20 = .ok (.iload_n 3, 1) := by decide +kernel
theorem dX9_behindNumber_21 : decode cX9_behindNumber 21 = .ok (.ireturn, 1) := by decide +kernel
theorem dX9_behindNumber_22 : decode cX9_behindNumber 22 = .ok (.iconst 1, 1) := by decide +kernel
theorem dX9_behindNumber_23 : decode cX9_behindNumber 23 = .ok (.istore 4, 2) := by decide +kernel
theorem dX9_behindNumber_25 : decode cX9_behindNumber 25 = .ok (.iload 4, 2) := by decide +kernel
theorem dX9_behindNumber_27 : decode cX9_behindNumber 27 = .ok (.iload_n 2, 1) := by decide +kernel
theorem dX9_behindNumber_28 : decode cX9_behindNumber 28 = .ok (.if_icmp .ge 23, 3) := by decide +kernel
theorem dX9_behindNumber_31 : decode cX9_behindNumber 31 = .ok (.aload_n 0, 1) := by decide +kernel
theorem dX9_behindNumber_32 : decode cX9_behindNumber 32 = .ok (.iload_n 3, 1) := by decide +kernel
theorem dX9_behindNumber_33 : decode cX9_behindNumber 33 = .ok (.invokevirtual 60, 3) := by decide +kernel
theorem dX9_behindNumber_36 : decode cX9_behindNumber 36 = .ok (.invokestatic 88, 3) := by decide +kernel
theorem dX9_behindNumber_39 : decode cX9_behindNumber 39 = .ok (.ifCond .eq 12, 3) := by decide +kernel
theorem dX9_behindNumber_42 : decode cX9_behindNumber 42 = .ok (.iinc 3 1, 3) := by decide +kernel
theorem dX9_behindNumber_45 : decode cX9_behindNumber 45 = .ok (.iinc 4 1, 3) := by decide +kernel
theorem dX9_behindNumber_48 : decode cX9_behindNumber 48 = .ok (.goto (-23), 3) := by decide +kernel
theorem dX9_behindNumber_51 : decode cX9_behindNumber 51 = .ok (.iload_n 3, 1) := by decide +kernel
theorem dX9_behindNumber_52 : decode cX9_behindNumber 52 = .ok (.ireturn, 1) := by decide +kernel
theorem dX9_isDigit_0 : decode cX9_isDigit 0 = .ok (.iload_n 0, 1) := by decide +kernel
theorem dX9_isDigit_1 : decode cX9_isDigit 1 = .ok (.bipush 48, 2) := by decide +kernel
theorem dX9_isDigit_3 : decode cX9_isDigit 3 = .ok (.if_icmp .lt 13, 3) := by decide +kernel
theorem dX9_isDigit_6 : decode cX9_isDigit 6 = .ok (.iload_n 0, 1) := by decide +kernel
theorem dX9_isDigit_7 : decode cX9_isDigit 7 = .ok (.bipush 57, 2) := by decide +kernel
theorem dX9_isDigit_9 : decode cX9_isDigit 9 = .ok (.if_icmp .gt 7, 3) := by decide +kernel
theorem dX9_isDigit_12 : decode cX9_isDigit 12 = .ok (.iconst 1, 1) := by decide +kernel
theorem dX9_isDigit_13 : decode cX9_isDigit 13 = .ok (.goto 4, 3) := by decide +kernel
theorem dX9_isDigit_16 : decode cX9_isDigit 16 = .ok (.iconst 0, 1) := by decide +kernel
theorem dX9_isDigit_17 : decode cX9_isDigit 17 = .ok (.ireturn, 1) := by decide +kernel
theorem dX9_isLetter_0 : decode cX9_isLetter 0 = .ok (.iload_n 0, 1) := by decide +kernel
theorem dX9_isLetter_1 : decode cX9_isLetter 1 = .ok (.bipush 97, 2) := by decide +kernel
theorem dX9_isLetter_3 : decode cX9_isLetter 3 = .ok (.if_icmp .lt 13, 3) := by decide +kernel
theorem dX9_isLetter_6 : decode cX9_isLetter 6 = .ok (.iload_n 0, 1) := by decide +kernel
theorem dX9_isLetter_7 : decode cX9_isLetter 7 = .ok (.bipush 106, 2) := by decide +kernel
theorem dX9_isLetter_9 : decode cX9_isLetter 9 = .ok (.if_icmp .gt 7, 3) := by decide +kernel
theorem dX9_isLetter_12 : decode cX9_isLetter 12 = .ok (.iconst 1, 1) := by decide +kernel
theorem dX9_isLetter_13 : decode cX9_isLetter 13 = .ok (.goto 4, 3) := by decide +kernel
theorem dX9_isLetter_16 : decode cX9_isLetter 16 = .ok (.iconst 0, 1) := by decide +kernel
theorem dX9_isLetter_17 : decode cX9_isLetter 17 = .ok (.ireturn, 1) := by decide +kernel
theorem dX9_take_0 : decode cX9_take 0 = .ok (.aload_n 1, 1) := by decide +kernel
theorem dX9_take_1 : decode cX9_take 1 = .ok (.iload_n 2, 1) := by decide +kernel
theorem dX9_take_2 : decode cX9_take 2 = .ok (.invokevirtual 60, 3) := by decide +kernel
theorem dX9_take_5 : decode cX9_take 5 = .ok (.lookupswitch 100 #[(99, 71), (100, 43), (109, 56), (110, 91)], 43) := by decide +kernel
theorem dX9_take_48 : decode cX9_take 48 = .ok (.aload_n 0, 1) := by decide +kernel
theorem dX9_take_49 : decode cX9_take 49 = .ok (.aload_n 0, 1) := by decide +kernel
theorem dX9_take_50 : decode cX9_take 50 = .ok (.aload_n 1, 1) := by decide +kernel
theorem dX9_take_51 : decode cX9_take 51 = .ok (.iload_n 2, 1) := by decide +kernel
theorem dX9_take_52 : decode cX9_take 52 = .ok (.iconst 1, 1) := by decide +kernel
theorem dX9_take_53 : decode cX9_take 53 = .ok (.iadd, 1) := by decide +kernel
theorem dX9_take_54 : decode cX9_take 54 = .ok (.invokevirtual 95, 3) := by decide +kernel
theorem dX9_take_57 : decode cX9_take 57 = .ok (.invokevirtual 99, 3) := by decide +kernel
theorem dX9_take_60 : decode cX9_take 60 = .ok (.ireturn, 1) := by decide +kernel
theorem dX9_take_61 : decode cX9_take 61 = .ok (.aload_n 0, 1) := by decide +kernel
theorem dX9_take_62 : decode cX9_take 62 = .ok (.aload_n 1, 1) := by decide +kernel
theorem dX9_take_63 : decode cX9_take 63 = .ok (.iload_n 2, 1) := by decide +kernel
theorem dX9_take_64 : decode cX9_take 64 = .ok (.iconst 1, 1) := by decide +kernel
theorem dX9_take_65 : decode cX9_take 65 = .ok (.iadd, 1) := by decide +kernel
theorem dX9_take_66 : decode cX9_take 66 = .ok (.invokevirtual 60, 3) := by decide +kernel
theorem dX9_take_69 : decode cX9_take 69 = .ok (.bipush 97, 2) := by decide +kernel
theorem dX9_take_71 : decode cX9_take 71 = .ok (.isub, 1) := by decide +kernel
theorem dX9_take_72 : decode cX9_take 72 = .ok (.invokevirtual 103, 3) := by decide +kernel
theorem dX9_take_75 : decode cX9_take 75 = .ok (.ireturn, 1) := by decide +kernel
theorem dX9_take_76 : decode cX9_take 76 = .ok (.aload_n 0, 1) := by decide +kernel
theorem dX9_take_77 : decode cX9_take 77 = .ok (.aload_n 1, 1) := by decide +kernel
theorem dX9_take_78 : decode cX9_take 78 = .ok (.iload_n 2, 1) := by decide +kernel
theorem dX9_take_79 : decode cX9_take 79 = .ok (.iconst 1, 1) := by decide +kernel
theorem dX9_take_80 : decode cX9_take 80 = .ok (.iadd, 1) := by decide +kernel
theorem dX9_take_81 : decode cX9_take 81 = .ok (.invokestatic 106, 3) := by decide +kernel
theorem dX9_take_84 : decode cX9_take 84 = .ok (.invokevirtual 109, 3) := by decide +kernel
theorem dX9_take_87 : decode cX9_take 87 = .ok (.ifCond .lt 7, 3) := by decide +kernel
theorem dX9_take_90 : decode cX9_take 90 = .ok (.iconst 1, 1) := by decide +kernel
theorem dX9_take_91 : decode cX9_take 91 = .ok (.goto 4, 3) := by decide +kernel
theorem dX9_take_94 : decode cX9_take 94 = .ok (.iconst 0, 1) := by decide +kernel
theorem dX9_take_95 : decode cX9_take 95 = .ok (.ireturn, 1) := by decide +kernel
theorem dX9_take_96 : decode cX9_take 96 = .ok (.aload_n 0, 1) := by decide +kernel
theorem dX9_take_97 : decode cX9_take 97 = .ok (.aload_n 1, 1) := by decide +kernel
theorem dX9_take_98 : decode cX9_take 98 = .ok (.iload_n 2, 1) := by decide +kernel
theorem dX9_take_99 : decode cX9_take 99 = .ok (.iconst 1, 1) := by decide +kernel
theorem dX9_take_100 : decode cX9_take 100 = .ok (.iadd, 1) := by decide +kernel
theorem dX9_take_101 : decode cX9_take 101 = .ok (.invokevirtual 112, 3) := by decide +kernel
theorem dX9_take_104 : decode cX9_take 104 = .ok (.ireturn, 1) := by decide +kernel
theorem dX9_take_105 : decode cX9_take 105 = .ok (.aload_n 0, 1) := by decide +kernel
theorem dX9_take_106 : decode cX9_take 106 = .ok (.aload_n 1, 1) := by decide +kernel
theorem dX9_take_107 : decode cX9_take 107 = .ok (.iload_n 2, 1) := by decide +kernel
theorem dX9_take_108 : decode cX9_take 108 = .ok (.iconst 1, 1) := by decide +kernel
theorem dX9_take_109 : decode cX9_take 109 = .ok (.iadd, 1) := by decide +kernel
theorem dX9_take_110 : decode cX9_take 110 = .ok (.invokestatic 106, 3) := by decide +kernel
theorem dX9_take_113 : decode cX9_take 113 = .ok (.invokevirtual 115, 3) := by decide +kernel
theorem dX9_take_116 : decode cX9_take 116 = .ok (.ifCond .lt 7, 3) := by decide +kernel
theorem dX9_take_119 : decode cX9_take 119 = .ok (.iconst 1, 1) := by decide +kernel
theorem dX9_take_120 : decode cX9_take 120 = .ok (.goto 4, 3) := by decide +kernel
theorem dX9_take_123 : decode cX9_take 123 = .ok (.iconst 0, 1) := by decide +kernel
theorem dX9_take_124 : decode cX9_take 124 = .ok (.ireturn, 1) := by decide +kernel
theorem dX9_takeMark_0 : decode cX9_takeMark 0 = .ok (.aload_n 0, 1) := by decide +kernel
theorem dX9_takeMark_1 : decode cX9_takeMark 1 = .ok (.getfield 31, 3) := by decide +kernel
theorem dX9_takeMark_4 : decode cX9_takeMark 4 = .ok (.iload_n 1, 1) := by decide +kernel
theorem dX9_takeMark_5 : decode cX9_takeMark 5 = .ok (.ishr, 1) := by decide +kernel
theorem dX9_takeMark_6 : decode cX9_takeMark 6 = .ok (.iconst 1, 1) := by decide +kernel
theorem dX9_takeMark_7 : decode cX9_takeMark 7 = .ok (.iand, 1) := by decide +kernel
theorem dX9_takeMark_8 : decode cX9_takeMark 8 = .ok (.ifCond .eq 5, 3) := by decide +kernel
theorem dX9_takeMark_11 : decode cX9_takeMark 11 = .ok (.iconst 0, 1) := by decide +kernel
theorem dX9_takeMark_12 : decode cX9_takeMark 12 = .ok (.ireturn, 1) := by decide +kernel
theorem dX9_takeMark_13 : decode cX9_takeMark 13 = .ok (.aload_n 0, 1) := by decide +kernel
theorem dX9_takeMark_14 : decode cX9_takeMark 14 = .ok (.dup, 1) := by decide +kernel
theorem dX9_takeMark_15 : decode cX9_takeMark 15 = .ok (.getfield 31, 3) := by decide +kernel
theorem dX9_takeMark_18 : decode cX9_takeMark 18 = .ok (.iconst 1, 1) := by decide +kernel
theorem dX9_takeMark_19 : decode cX9_takeMark 19 = .ok (.iload_n 1, 1) := by decide +kernel
theorem dX9_takeMark_20 : decode cX9_takeMark 20 = .ok (.ishl, 1) := by decide +kernel
theorem dX9_takeMark_21 : decode cX9_takeMark 21 = .ok (.ior, 1) := by decide +kernel
theorem dX9_takeMark_22 : decode cX9_takeMark 22 = .ok (.putfield 31, 3) := by decide +kernel
theorem dX9_takeMark_25 : decode cX9_takeMark 25 = .ok (.iconst 1, 1) := by decide +kernel
theorem dX9_takeMark_26 : decode cX9_takeMark 26 = .ok (.ireturn, 1) := by decide +kernel
theorem dX9_takeNail_0 : decode cX9_takeNail 0 = .ok (.aload_n 1, 1) := by decide +kernel
theorem dX9_takeNail_1 : decode cX9_takeNail 1 = .ok (.iload_n 2, 1) := by decide +kernel
theorem dX9_takeNail_2 : decode cX9_takeNail 2 = .ok (.iconst 2, 1) := by decide +kernel
theorem dX9_takeNail_3 : decode cX9_takeNail 3 = .ok (.invokestatic 69, 3) := by decide +kernel
theorem dX9_takeNail_6 : decode cX9_takeNail 6 = .ok (.iconst 1, 1) := by decide +kernel
theorem dX9_takeNail_7 : decode cX9_takeNail 7 = .ok (.iadd, 1) := by decide +kernel
theorem dX9_takeNail_8 : decode cX9_takeNail 8 = .ok (.istore_n 3, 1) := by decide +kernel
theorem dX9_takeNail_9 : decode cX9_takeNail 9 = .ok (.aload_n 1, 1) := by decide +kernel
theorem dX9_takeNail_10 : decode cX9_takeNail 10 = .ok (.iload_n 3, 1) := by decide +kernel
theorem dX9_takeNail_11 : decode cX9_takeNail 11 = .ok (.iconst 1, 1) := by decide +kernel
theorem dX9_takeNail_12 : decode cX9_takeNail 12 = .ok (.iadd, 1) := by decide +kernel
theorem dX9_takeNail_13 : decode cX9_takeNail 13 = .ok (.invokestatic 106, 3) := by decide +kernel
theorem dX9_takeNail_16 : decode cX9_takeNail 16 = .ok (.istore 4, 2) := by decide +kernel
theorem dX9_takeNail_18 : decode cX9_takeNail 18 = .ok (.aload_n 0, 1) := by decide +kernel
theorem dX9_takeNail_19 : decode cX9_takeNail 19 = .ok (.aload_n 1, 1) := by decide +kernel
theorem dX9_takeNail_20 : decode cX9_takeNail 20 = .ok (.iload_n 3, 1) := by decide +kernel
theorem dX9_takeNail_21 : decode cX9_takeNail 21 = .ok (.invokevirtual 60, 3) := by decide +kernel
theorem dX9_takeNail_24 : decode cX9_takeNail 24 = .ok (.bipush 45, 2) := by decide +kernel
theorem dX9_takeNail_26 : decode cX9_takeNail 26 = .ok (.if_icmp .ne 9, 3) := by decide +kernel
theorem dX9_takeNail_29 : decode cX9_takeNail 29 = .ok (.iload 4, 2) := by decide +kernel
theorem dX9_takeNail_31 : decode cX9_takeNail 31 = .ok (.ineg, 1) := by decide +kernel
theorem dX9_takeNail_32 : decode cX9_takeNail 32 = .ok (.goto 5, 3) := by decide +kernel
theorem dX9_takeNail_35 : decode cX9_takeNail 35 = .ok (.iload 4, 2) := by decide +kernel
theorem dX9_takeNail_37 : decode cX9_takeNail 37 = .ok (.putfield 37, 3) := by decide +kernel
theorem dX9_takeNail_40 : decode cX9_takeNail 40 = .ok (.aload_n 0, 1) := by decide +kernel
theorem dX9_takeNail_41 : decode cX9_takeNail 41 = .ok (.aload_n 1, 1) := by decide +kernel
theorem dX9_takeNail_42 : decode cX9_takeNail 42 = .ok (.iload_n 2, 1) := by decide +kernel
theorem dX9_takeNail_43 : decode cX9_takeNail 43 = .ok (.invokestatic 106, 3) := by decide +kernel
theorem dX9_takeNail_46 : decode cX9_takeNail 46 = .ok (.invokevirtual 118, 3) := by decide +kernel
theorem dX9_takeNail_49 : decode cX9_takeNail 49 = .ok (.ifCond .lt 7, 3) := by decide +kernel
theorem dX9_takeNail_52 : decode cX9_takeNail 52 = .ok (.iconst 1, 1) := by decide +kernel
theorem dX9_takeNail_53 : decode cX9_takeNail 53 = .ok (.goto 4, 3) := by decide +kernel
theorem dX9_takeNail_56 : decode cX9_takeNail 56 = .ok (.iconst 0, 1) := by decide +kernel
theorem dX9_takeNail_57 : decode cX9_takeNail 57 = .ok (.ireturn, 1) := by decide +kernel
theorem dX9_takeDeed_0 : decode cX9_takeDeed 0 = .ok (.aload_n 1, 1) := by decide +kernel
theorem dX9_takeDeed_1 : decode cX9_takeDeed 1 = .ok (.ifnull 15, 3) := by decide +kernel
theorem dX9_takeDeed_4 : decode cX9_takeDeed 4 = .ok (.aload_n 0, 1) := by decide +kernel
theorem dX9_takeDeed_5 : decode cX9_takeDeed 5 = .ok (.getfield 28, 3) := by decide +kernel
theorem dX9_takeDeed_8 : decode cX9_takeDeed 8 = .ok (.aload_n 0, 1) := by decide +kernel
theorem dX9_takeDeed_9 : decode cX9_takeDeed 9 = .ok (.getfield 11, 3) := by decide +kernel
theorem dX9_takeDeed_12 : decode cX9_takeDeed 12 = .ok (.arraylength, 1) := by decide +kernel
theorem dX9_takeDeed_13 : decode cX9_takeDeed 13 = .ok (.if_icmp .lt 5, 3) := by decide +kernel
theorem dX9_takeDeed_16 : decode cX9_takeDeed 16 = .ok (.iconst 0, 1) := by decide +kernel
theorem dX9_takeDeed_17 : decode cX9_takeDeed 17 = .ok (.ireturn, 1) := by decide +kernel
theorem dX9_takeDeed_18 : decode cX9_takeDeed 18 = .ok (.aload_n 0, 1) := by decide +kernel
theorem dX9_takeDeed_19 : decode cX9_takeDeed 19 = .ok (.getfield 11, 3) := by decide +kernel
theorem dX9_takeDeed_22 : decode cX9_takeDeed 22 = .ok (.aload_n 0, 1) := by decide +kernel
theorem dX9_takeDeed_23 : decode cX9_takeDeed 23 = .ok (.getfield 28, 3) := by decide +kernel
theorem dX9_takeDeed_26 : decode cX9_takeDeed 26 = .ok (.aload_n 1, 1) := by decide +kernel
theorem dX9_takeDeed_27 : decode cX9_takeDeed 27 = .ok (.aastore, 1) := by decide +kernel
theorem dX9_takeDeed_28 : decode cX9_takeDeed 28 = .ok (.aload_n 0, 1) := by decide +kernel
theorem dX9_takeDeed_29 : decode cX9_takeDeed 29 = .ok (.dup, 1) := by decide +kernel
theorem dX9_takeDeed_30 : decode cX9_takeDeed 30 = .ok (.getfield 28, 3) := by decide +kernel
theorem dX9_takeDeed_33 : decode cX9_takeDeed 33 = .ok (.iconst 1, 1) := by decide +kernel
theorem dX9_takeDeed_34 : decode cX9_takeDeed 34 = .ok (.iadd, 1) := by decide +kernel
theorem dX9_takeDeed_35 : decode cX9_takeDeed 35 = .ok (.putfield 28, 3) := by decide +kernel
theorem dX9_takeDeed_38 : decode cX9_takeDeed 38 = .ok (.iconst 1, 1) := by decide +kernel
theorem dX9_takeDeed_39 : decode cX9_takeDeed 39 = .ok (.ireturn, 1) := by decide +kernel
theorem dX9_newDeed_0 : decode cX9_newDeed 0 = .ok (.aload_n 1, 1) := by decide +kernel
theorem dX9_newDeed_1 : decode cX9_newDeed 1 = .ok (.iload_n 2, 1) := by decide +kernel
theorem dX9_newDeed_2 : decode cX9_newDeed 2 = .ok (.iconst 1, 1) := by decide +kernel
theorem dX9_newDeed_3 : decode cX9_newDeed 3 = .ok (.iadd, 1) := by decide +kernel
theorem dX9_newDeed_4 : decode cX9_newDeed 4 = .ok (.invokestatic 85, 3) := by decide +kernel
theorem dX9_newDeed_7 : decode cX9_newDeed 7 = .ok (.istore_n 3, 1) := by decide +kernel
theorem dX9_newDeed_8 : decode cX9_newDeed 8 = .ok (.iconst 0, 1) := by decide +kernel
theorem dX9_newDeed_9 : decode cX9_newDeed 9 = .ok (.istore 4, 2) := by decide +kernel
theorem dX9_newDeed_11 : decode cX9_newDeed 11 = .ok (.iload_n 2, 1) := by decide +kernel
theorem dX9_newDeed_12 : decode cX9_newDeed 12 = .ok (.iconst 1, 1) := by decide +kernel
theorem dX9_newDeed_13 : decode cX9_newDeed 13 = .ok (.iadd, 1) := by decide +kernel
theorem dX9_newDeed_14 : decode cX9_newDeed 14 = .ok (.istore 5, 2) := by decide +kernel
theorem dX9_newDeed_16 : decode cX9_newDeed 16 = .ok (.iload 5, 2) := by decide +kernel
theorem dX9_newDeed_18 : decode cX9_newDeed 18 = .ok (.iload_n 3, 1) := by decide +kernel
theorem dX9_newDeed_19 : decode cX9_newDeed 19 = .ok (.if_icmp .ge 25, 3) := by decide +kernel
theorem dX9_newDeed_22 : decode cX9_newDeed 22 = .ok (.iload 4, 2) := by decide +kernel
theorem dX9_newDeed_24 : decode cX9_newDeed 24 = .ok (.iconst 1, 1) := by decide +kernel
theorem dX9_newDeed_25 : decode cX9_newDeed 25 = .ok (.aload_n 1, 1) := by decide +kernel
theorem dX9_newDeed_26 : decode cX9_newDeed 26 = .ok (.iload 5, 2) := by decide +kernel
theorem dX9_newDeed_28 : decode cX9_newDeed 28 = .ok (.invokevirtual 60, 3) := by decide +kernel
theorem dX9_newDeed_31 : decode cX9_newDeed 31 = .ok (.bipush 97, 2) := by decide +kernel
theorem dX9_newDeed_33 : decode cX9_newDeed 33 = .ok (.isub, 1) := by decide +kernel
theorem dX9_newDeed_34 : decode cX9_newDeed 34 = .ok (.ishl, 1) := by decide +kernel
theorem dX9_newDeed_35 : decode cX9_newDeed 35 = .ok (.ior, 1) := by decide +kernel
theorem dX9_newDeed_36 : decode cX9_newDeed 36 = .ok (.istore 4, 2) := by decide +kernel
theorem dX9_newDeed_38 : decode cX9_newDeed 38 = .ok (.iinc 5 1, 3) := by decide +kernel
theorem dX9_newDeed_41 : decode cX9_newDeed 41 = .ok (.goto (-25), 3) := by decide +kernel
theorem dX9_newDeed_44 : decode cX9_newDeed 44 = .ok (.aload_n 1, 1) := by decide +kernel
theorem dX9_newDeed_45 : decode cX9_newDeed 45 = .ok (.iload_n 3, 1) := by decide +kernel
theorem dX9_newDeed_46 : decode cX9_newDeed 46 = .ok (.iconst 1, 1) := by decide +kernel
theorem dX9_newDeed_47 : decode cX9_newDeed 47 = .ok (.iadd, 1) := by decide +kernel
theorem dX9_newDeed_48 : decode cX9_newDeed 48 = .ok (.invokevirtual 60, 3) := by decide +kernel
theorem dX9_newDeed_51 : decode cX9_newDeed 51 = .ok (.bipush 97, 2) := by decide +kernel
theorem dX9_newDeed_53 : decode cX9_newDeed 53 = .ok (.isub, 1) := by decide +kernel
theorem dX9_newDeed_54 : decode cX9_newDeed 54 = .ok (.istore 5, 2) := by decide +kernel
theorem dX9_newDeed_56 : decode cX9_newDeed 56 = .ok (.iload_n 3, 1) := by decide +kernel
theorem dX9_newDeed_57 : decode cX9_newDeed 57 = .ok (.iconst 2, 1) := by decide +kernel
theorem dX9_newDeed_58 : decode cX9_newDeed 58 = .ok (.iadd, 1) := by decide +kernel
theorem dX9_newDeed_59 : decode cX9_newDeed 59 = .ok (.istore 6, 2) := by decide +kernel
theorem dX9_newDeed_61 : decode cX9_newDeed 61 = .ok (.aload_n 1, 1) := by decide +kernel
theorem dX9_newDeed_62 : decode cX9_newDeed 62 = .ok (.iload 6, 2) := by decide +kernel
theorem dX9_newDeed_64 : decode cX9_newDeed 64 = .ok (.invokestatic 106, 3) := by decide +kernel
theorem dX9_newDeed_67 : decode cX9_newDeed 67 = .ok (.istore 7, 2) := by decide +kernel
theorem dX9_newDeed_69 : decode cX9_newDeed 69 = .ok (.aload_n 1, 1) := by decide +kernel
theorem dX9_newDeed_70 : decode cX9_newDeed 70 = .ok (.aload_n 1, 1) := by decide +kernel
theorem dX9_newDeed_71 : decode cX9_newDeed 71 = .ok (.iload 6, 2) := by decide +kernel
theorem dX9_newDeed_73 : decode cX9_newDeed 73 = .ok (.iconst 2, 1) := by decide +kernel
theorem dX9_newDeed_74 : decode cX9_newDeed 74 = .ok (.invokestatic 69, 3) := by decide +kernel
theorem dX9_newDeed_77 : decode cX9_newDeed 77 = .ok (.iconst 1, 1) := by decide +kernel
theorem dX9_newDeed_78 : decode cX9_newDeed 78 = .ok (.iadd, 1) := by decide +kernel
theorem dX9_newDeed_79 : decode cX9_newDeed 79 = .ok (.invokestatic 106, 3) := by decide +kernel
theorem dX9_newDeed_82 : decode cX9_newDeed 82 = .ok (.istore 8, 2) := by decide +kernel
theorem dX9_newDeed_84 : decode cX9_newDeed 84 = .ok (.aload_n 1, 1) := by decide +kernel
theorem dX9_newDeed_85 : decode cX9_newDeed 85 = .ok (.iload_n 2, 1) := by decide +kernel
theorem dX9_newDeed_86 : decode cX9_newDeed 86 = .ok (.invokestatic 106, 3) := by decide +kernel
theorem dX9_newDeed_89 : decode cX9_newDeed 89 = .ok (.tableswitch 207 0 7 #[47, 67, 87, 107, 127, 147, 167, 187], 47) := by decide +kernel
theorem dX9_newDeed_136 : decode cX9_newDeed 136 = .ok (.new 9, 3) := by decide +kernel
theorem dX9_newDeed_139 : decode cX9_newDeed 139 = .ok (.dup, 1) := by decide +kernel
theorem dX9_newDeed_140 : decode cX9_newDeed 140 = .ok (.aload_n 0, 1) := by decide +kernel
theorem dX9_newDeed_141 : decode cX9_newDeed 141 = .ok (.getfield 28, 3) := by decide +kernel
theorem dX9_newDeed_144 : decode cX9_newDeed 144 = .ok (.iload 4, 2) := by decide +kernel
theorem dX9_newDeed_146 : decode cX9_newDeed 146 = .ok (.iload 5, 2) := by decide +kernel
theorem dX9_newDeed_148 : decode cX9_newDeed 148 = .ok (.iload 7, 2) := by decide +kernel
theorem dX9_newDeed_150 : decode cX9_newDeed 150 = .ok (.iload 8, 2) := by decide +kernel
theorem dX9_newDeed_152 : decode cX9_newDeed 152 = .ok (.invokespecial 121, 3) := by decide +kernel
theorem dX9_newDeed_155 : decode cX9_newDeed 155 = .ok (.areturn, 1) := by decide +kernel
theorem dX9_newDeed_156 : decode cX9_newDeed 156 = .ok (.new 124, 3) := by decide +kernel
theorem dX9_newDeed_159 : decode cX9_newDeed 159 = .ok (.dup, 1) := by decide +kernel
theorem dX9_newDeed_160 : decode cX9_newDeed 160 = .ok (.aload_n 0, 1) := by decide +kernel
theorem dX9_newDeed_161 : decode cX9_newDeed 161 = .ok (.getfield 28, 3) := by decide +kernel
theorem dX9_newDeed_164 : decode cX9_newDeed 164 = .ok (.iload 4, 2) := by decide +kernel
theorem dX9_newDeed_166 : decode cX9_newDeed 166 = .ok (.iload 5, 2) := by decide +kernel
theorem dX9_newDeed_168 : decode cX9_newDeed 168 = .ok (.iload 7, 2) := by decide +kernel
theorem dX9_newDeed_170 : decode cX9_newDeed 170 = .ok (.iload 8, 2) := by decide +kernel
theorem dX9_newDeed_172 : decode cX9_newDeed 172 = .ok (.invokespecial 126, 3) := by decide +kernel
theorem dX9_newDeed_175 : decode cX9_newDeed 175 = .ok (.areturn, 1) := by decide +kernel
theorem dX9_newDeed_176 : decode cX9_newDeed 176 = .ok (.new 127, 3) := by decide +kernel
theorem dX9_newDeed_179 : decode cX9_newDeed 179 = .ok (.dup, 1) := by decide +kernel
theorem dX9_newDeed_180 : decode cX9_newDeed 180 = .ok (.aload_n 0, 1) := by decide +kernel
theorem dX9_newDeed_181 : decode cX9_newDeed 181 = .ok (.getfield 28, 3) := by decide +kernel
theorem dX9_newDeed_184 : decode cX9_newDeed 184 = .ok (.iload 4, 2) := by decide +kernel
theorem dX9_newDeed_186 : decode cX9_newDeed 186 = .ok (.iload 5, 2) := by decide +kernel
theorem dX9_newDeed_188 : decode cX9_newDeed 188 = .ok (.iload 7, 2) := by decide +kernel
theorem dX9_newDeed_190 : decode cX9_newDeed 190 = .ok (.iload 8, 2) := by decide +kernel
theorem dX9_newDeed_192 : decode cX9_newDeed 192 = .ok (.invokespecial 129, 3) := by decide +kernel
theorem dX9_newDeed_195 : decode cX9_newDeed 195 = .ok (.areturn, 1) := by decide +kernel
theorem dX9_newDeed_196 : decode cX9_newDeed 196 = .ok (.new 130, 3) := by decide +kernel
theorem dX9_newDeed_199 : decode cX9_newDeed 199 = .ok (.dup, 1) := by decide +kernel
theorem dX9_newDeed_200 : decode cX9_newDeed 200 = .ok (.aload_n 0, 1) := by decide +kernel
theorem dX9_newDeed_201 : decode cX9_newDeed 201 = .ok (.getfield 28, 3) := by decide +kernel
theorem dX9_newDeed_204 : decode cX9_newDeed 204 = .ok (.iload 4, 2) := by decide +kernel
theorem dX9_newDeed_206 : decode cX9_newDeed 206 = .ok (.iload 5, 2) := by decide +kernel
theorem dX9_newDeed_208 : decode cX9_newDeed 208 = .ok (.iload 7, 2) := by decide +kernel
theorem dX9_newDeed_210 : decode cX9_newDeed 210 = .ok (.iload 8, 2) := by decide +kernel
theorem dX9_newDeed_212 : decode cX9_newDeed 212 = .ok (.invokespecial 132, 3) := by decide +kernel
theorem dX9_newDeed_215 : decode cX9_newDeed 215 = .ok (.areturn, 1) := by decide +kernel
theorem dX9_newDeed_216 : decode cX9_newDeed 216 = .ok (.new 133, 3) := by decide +kernel
theorem dX9_newDeed_219 : decode cX9_newDeed 219 = .ok (.dup, 1) := by decide +kernel
theorem dX9_newDeed_220 : decode cX9_newDeed 220 = .ok (.aload_n 0, 1) := by decide +kernel
theorem dX9_newDeed_221 : decode cX9_newDeed 221 = .ok (.getfield 28, 3) := by decide +kernel
theorem dX9_newDeed_224 : decode cX9_newDeed 224 = .ok (.iload 4, 2) := by decide +kernel
theorem dX9_newDeed_226 : decode cX9_newDeed 226 = .ok (.iload 5, 2) := by decide +kernel
theorem dX9_newDeed_228 : decode cX9_newDeed 228 = .ok (.iload 7, 2) := by decide +kernel
theorem dX9_newDeed_230 : decode cX9_newDeed 230 = .ok (.iload 8, 2) := by decide +kernel
theorem dX9_newDeed_232 : decode cX9_newDeed 232 = .ok (.invokespecial 135, 3) := by decide +kernel
theorem dX9_newDeed_235 : decode cX9_newDeed 235 = .ok (.areturn, 1) := by decide +kernel
theorem dX9_newDeed_236 : decode cX9_newDeed 236 = .ok (.new 136, 3) := by decide +kernel
theorem dX9_newDeed_239 : decode cX9_newDeed 239 = .ok (.dup, 1) := by decide +kernel
theorem dX9_newDeed_240 : decode cX9_newDeed 240 = .ok (.aload_n 0, 1) := by decide +kernel
theorem dX9_newDeed_241 : decode cX9_newDeed 241 = .ok (.getfield 28, 3) := by decide +kernel
theorem dX9_newDeed_244 : decode cX9_newDeed 244 = .ok (.iload 4, 2) := by decide +kernel
theorem dX9_newDeed_246 : decode cX9_newDeed 246 = .ok (.iload 5, 2) := by decide +kernel
theorem dX9_newDeed_248 : decode cX9_newDeed 248 = .ok (.iload 7, 2) := by decide +kernel
theorem dX9_newDeed_250 : decode cX9_newDeed 250 = .ok (.iload 8, 2) := by decide +kernel
theorem dX9_newDeed_252 : decode cX9_newDeed 252 = .ok (.invokespecial 138, 3) := by decide +kernel
theorem dX9_newDeed_255 : decode cX9_newDeed 255 = .ok (.areturn, 1) := by decide +kernel
theorem dX9_newDeed_256 : decode cX9_newDeed 256 = .ok (.new 139, 3) := by decide +kernel
theorem dX9_newDeed_259 : decode cX9_newDeed 259 = .ok (.dup, 1) := by decide +kernel
theorem dX9_newDeed_260 : decode cX9_newDeed 260 = .ok (.aload_n 0, 1) := by decide +kernel
theorem dX9_newDeed_261 : decode cX9_newDeed 261 = .ok (.getfield 28, 3) := by decide +kernel
theorem dX9_newDeed_264 : decode cX9_newDeed 264 = .ok (.iload 4, 2) := by decide +kernel
theorem dX9_newDeed_266 : decode cX9_newDeed 266 = .ok (.iload 5, 2) := by decide +kernel
theorem dX9_newDeed_268 : decode cX9_newDeed 268 = .ok (.iload 7, 2) := by decide +kernel
theorem dX9_newDeed_270 : decode cX9_newDeed 270 = .ok (.iload 8, 2) := by decide +kernel
theorem dX9_newDeed_272 : decode cX9_newDeed 272 = .ok (.invokespecial 141, 3) := by decide +kernel
theorem dX9_newDeed_275 : decode cX9_newDeed 275 = .ok (.areturn, 1) := by decide +kernel
theorem dX9_newDeed_276 : decode cX9_newDeed 276 = .ok (.new 142, 3) := by decide +kernel
theorem dX9_newDeed_279 : decode cX9_newDeed 279 = .ok (.dup, 1) := by decide +kernel
theorem dX9_newDeed_280 : decode cX9_newDeed 280 = .ok (.aload_n 0, 1) := by decide +kernel
theorem dX9_newDeed_281 : decode cX9_newDeed 281 = .ok (.getfield 28, 3) := by decide +kernel
theorem dX9_newDeed_284 : decode cX9_newDeed 284 = .ok (.iload 4, 2) := by decide +kernel
theorem dX9_newDeed_286 : decode cX9_newDeed 286 = .ok (.iload 5, 2) := by decide +kernel
theorem dX9_newDeed_288 : decode cX9_newDeed 288 = .ok (.iload 7, 2) := by decide +kernel
theorem dX9_newDeed_290 : decode cX9_newDeed 290 = .ok (.iload 8, 2) := by decide +kernel
theorem dX9_newDeed_292 : decode cX9_newDeed 292 = .ok (.invokespecial 144, 3) := by decide +kernel
theorem dX9_newDeed_295 : decode cX9_newDeed 295 = .ok (.areturn, 1) := by decide +kernel
theorem dX9_newDeed_296 : decode cX9_newDeed 296 = .ok (.aconst_null, 1) := by decide +kernel
theorem dX9_newDeed_297 : decode cX9_newDeed 297 = .ok (.areturn, 1) := by decide +kernel
theorem dX9_number_0 : decode cX9_number 0 = .ok (.iconst 0, 1) := by decide +kernel
theorem dX9_number_1 : decode cX9_number 1 = .ok (.istore_n 2, 1) := by decide +kernel
theorem dX9_number_2 : decode cX9_number 2 = .ok (.iload_n 1, 1) := by decide +kernel
theorem dX9_number_3 : decode cX9_number 3 = .ok (.istore_n 3, 1) := by decide +kernel
theorem dX9_number_4 : decode cX9_number 4 = .ok (.iload_n 3, 1) := by decide +kernel
theorem dX9_number_5 : decode cX9_number 5 = .ok (.aload_n 0, 1) := by decide +kernel
theorem dX9_number_6 : decode cX9_number 6 = .ok (.getfield 43, 3) := by decide +kernel
theorem dX9_number_9 : decode cX9_number 9 = .ok (.if_icmp .ge 34, 3) := by decide +kernel
theorem dX9_number_12 : decode cX9_number 12 = .ok (.aload_n 0, 1) := by decide +kernel
theorem dX9_number_13 : decode cX9_number 13 = .ok (.iload_n 3, 1) := by decide +kernel
theorem dX9_number_14 : decode cX9_number 14 = .ok (.invokevirtual 60, 3) := by decide +kernel
theorem dX9_number_17 : decode cX9_number 17 = .ok (.invokestatic 88, 3) := by decide +kernel
theorem dX9_number_20 : decode cX9_number 20 = .ok (.ifCond .eq 23, 3) := by decide +kernel
theorem dX9_number_23 : decode cX9_number 23 = .ok (.bipush 10, 2) := by decide +kernel
theorem dX9_number_25 : decode cX9_number 25 = .ok (.iload_n 2, 1) := by decide +kernel
theorem dX9_number_26 : decode cX9_number 26 = .ok (.imul, 1) := by decide +kernel
theorem dX9_number_27 : decode cX9_number 27 = .ok (.aload_n 0, 1) := by decide +kernel
theorem dX9_number_28 : decode cX9_number 28 = .ok (.iload_n 3, 1) := by decide +kernel
theorem dX9_number_29 : decode cX9_number 29 = .ok (.invokevirtual 60, 3) := by decide +kernel
theorem dX9_number_32 : decode cX9_number 32 = .ok (.iadd, 1) := by decide +kernel
theorem dX9_number_33 : decode cX9_number 33 = .ok (.bipush 48, 2) := by decide +kernel
theorem dX9_number_35 : decode cX9_number 35 = .ok (.isub, 1) := by decide +kernel
theorem dX9_number_36 : decode cX9_number 36 = .ok (.istore_n 2, 1) := by decide +kernel
theorem dX9_number_37 : decode cX9_number 37 = .ok (.iinc 3 1, 3) := by decide +kernel
theorem dX9_number_40 : decode cX9_number 40 = .ok (.goto (-36), 3) := by decide +kernel
theorem dX9_number_43 : decode cX9_number 43 = .ok (.iload_n 2, 1) := by decide +kernel
theorem dX9_number_44 : decode cX9_number 44 = .ok (.ireturn, 1) := by decide +kernel
theorem dX10_init_0 : decode cX10_init 0 = .ok (.aload_n 0, 1) := by decide +kernel
theorem dX10_init_1 : decode cX10_init 1 = .ok (.invokespecial 3, 3) := by decide +kernel
theorem dX10_init_4 : decode cX10_init 4 = .ok (.aload_n 0, 1) := by decide +kernel
theorem dX10_init_5 : decode cX10_init 5 = .ok (.bipush 16, 2) := by decide +kernel
theorem dX10_init_7 : decode cX10_init 7 = .ok (.anewarray 9, 3) := by decide +kernel
theorem dX10_init_10 : decode cX10_init 10 = .ok (.putfield 11, 3) := by decide +kernel
theorem dX10_init_13 : decode cX10_init 13 = .ok (.aload_n 0, 1) := by decide +kernel
theorem dX10_init_14 : decode cX10_init 14 = .ok (.bipush 16, 2) := by decide +kernel
theorem dX10_init_16 : decode cX10_init 16 = .ok (.newarray .int, 2) := by decide +kernel
theorem dX10_init_18 : decode cX10_init 18 = .ok (.putfield 17, 3) := by decide +kernel
theorem dX10_init_21 : decode cX10_init 21 = .ok (.aload_n 0, 1) := by decide +kernel
theorem dX10_init_22 : decode cX10_init 22 = .ok (.bipush 16, 2) := by decide +kernel
theorem dX10_init_24 : decode cX10_init 24 = .ok (.newarray .int, 2) := by decide +kernel
theorem dX10_init_26 : decode cX10_init 26 = .ok (.putfield 21, 3) := by decide +kernel
theorem dX10_init_29 : decode cX10_init 29 = .ok (.return_, 1) := by decide +kernel
theorem dX10_open_0 : decode cX10_open 0 = .ok (.aload_n 0, 1) := by decide +kernel
theorem dX10_open_1 : decode cX10_open 1 = .ok (.aload_n 1, 1) := by decide +kernel
theorem dX10_open_2 : decode cX10_open 2 = .ok (.putfield 24, 3) := by decide +kernel
theorem dX10_open_5 : decode cX10_open 5 = .ok (.aload_n 0, 1) := by decide +kernel
theorem dX10_open_6 : decode cX10_open 6 = .ok (.aload_n 1, 1) := by decide +kernel
theorem dX10_open_7 : decode cX10_open 7 = .ok (.getfield 28, 3) := by decide +kernel
theorem dX10_open_10 : decode cX10_open 10 = .ok (.putfield 34, 3) := by decide +kernel
theorem dX10_open_13 : decode cX10_open 13 = .ok (.aload_n 0, 1) := by decide +kernel
theorem dX10_open_14 : decode cX10_open 14 = .ok (.iconst 0, 1) := by decide +kernel
theorem dX10_open_15 : decode cX10_open 15 = .ok (.putfield 35, 3) := by decide +kernel
theorem dX10_open_18 : decode cX10_open 18 = .ok (.return_, 1) := by decide +kernel
theorem dX10_add_0 : decode cX10_add 0 = .ok (.aload_n 1, 1) := by decide +kernel
theorem dX10_add_1 : decode cX10_add 1 = .ok (.ifnull 35, 3) := by decide +kernel
theorem dX10_add_4 : decode cX10_add 4 = .ok (.aload_n 0, 1) := by decide +kernel
theorem dX10_add_5 : decode cX10_add 5 = .ok (.getfield 35, 3) := by decide +kernel
theorem dX10_add_8 : decode cX10_add 8 = .ok (.aload_n 0, 1) := by decide +kernel
theorem dX10_add_9 : decode cX10_add 9 = .ok (.getfield 11, 3) := by decide +kernel
theorem dX10_add_12 : decode cX10_add 12 = .ok (.arraylength, 1) := by decide +kernel
theorem dX10_add_13 : decode cX10_add 13 = .ok (.if_icmp .ge 23, 3) := by decide +kernel
theorem dX10_add_16 : decode cX10_add 16 = .ok (.aload_n 0, 1) := by decide +kernel
theorem dX10_add_17 : decode cX10_add 17 = .ok (.getfield 11, 3) := by decide +kernel
theorem dX10_add_20 : decode cX10_add 20 = .ok (.aload_n 0, 1) := by decide +kernel
theorem dX10_add_21 : decode cX10_add 21 = .ok (.getfield 35, 3) := by decide +kernel
theorem dX10_add_24 : decode cX10_add 24 = .ok (.aload_n 1, 1) := by decide +kernel
theorem dX10_add_25 : decode cX10_add 25 = .ok (.aastore, 1) := by decide +kernel
theorem dX10_add_26 : decode cX10_add 26 = .ok (.aload_n 0, 1) := by decide +kernel
theorem dX10_add_27 : decode cX10_add 27 = .ok (.dup, 1) := by decide +kernel
theorem dX10_add_28 : decode cX10_add 28 = .ok (.getfield 35, 3) := by decide +kernel
theorem dX10_add_31 : decode cX10_add 31 = .ok (.iconst 1, 1) := by decide +kernel
theorem dX10_add_32 : decode cX10_add 32 = .ok (.iadd, 1) := by decide +kernel
theorem dX10_add_33 : decode cX10_add 33 = .ok (.putfield 35, 3) := by decide +kernel
theorem dX10_add_36 : decode cX10_add 36 = .ok (.return_, 1) := by decide +kernel
theorem dX10_deedAt_0 : decode cX10_deedAt 0 = .ok (.iload_n 1, 1) := by decide +kernel
theorem dX10_deedAt_1 : decode cX10_deedAt 1 = .ok (.ifCond .lt 29, 3) := by decide +kernel
theorem dX10_deedAt_4 : decode cX10_deedAt 4 = .ok (.iload_n 1, 1) := by decide +kernel
theorem dX10_deedAt_5 : decode cX10_deedAt 5 = .ok (.aload_n 0, 1) := by decide +kernel
theorem dX10_deedAt_6 : decode cX10_deedAt 6 = .ok (.getfield 35, 3) := by decide +kernel
theorem dX10_deedAt_9 : decode cX10_deedAt 9 = .ok (.if_icmp .ge 21, 3) := by decide +kernel
theorem dX10_deedAt_12 : decode cX10_deedAt 12 = .ok (.iload_n 1, 1) := by decide +kernel
theorem dX10_deedAt_13 : decode cX10_deedAt 13 = .ok (.aload_n 0, 1) := by decide +kernel
theorem dX10_deedAt_14 : decode cX10_deedAt 14 = .ok (.getfield 11, 3) := by decide +kernel
theorem dX10_deedAt_17 : decode cX10_deedAt 17 = .ok (.arraylength, 1) := by decide +kernel
theorem dX10_deedAt_18 : decode cX10_deedAt 18 = .ok (.if_icmp .ge 12, 3) := by decide +kernel
theorem dX10_deedAt_21 : decode cX10_deedAt 21 = .ok (.aload_n 0, 1) := by decide +kernel
theorem dX10_deedAt_22 : decode cX10_deedAt 22 = .ok (.getfield 11, 3) := by decide +kernel
theorem dX10_deedAt_25 : decode cX10_deedAt 25 = .ok (.iload_n 1, 1) := by decide +kernel
theorem dX10_deedAt_26 : decode cX10_deedAt 26 = .ok (.aaload, 1) := by decide +kernel
theorem dX10_deedAt_27 : decode cX10_deedAt 27 = .ok (.goto 4, 3) := by decide +kernel
theorem dX10_deedAt_30 : decode cX10_deedAt 30 = .ok (.aconst_null, 1) := by decide +kernel
theorem dX10_deedAt_31 : decode cX10_deedAt 31 = .ok (.areturn, 1) := by decide +kernel
theorem dX10_begin_0 : decode cX10_begin 0 = .ok (.aload_n 0, 1) := by decide +kernel
theorem dX10_begin_1 : decode cX10_begin 1 = .ok (.iload_n 1, 1) := by decide +kernel
theorem dX10_begin_2 : decode cX10_begin 2 = .ok (.putfield 38, 3) := by decide +kernel
theorem dX10_begin_5 : decode cX10_begin 5 = .ok (.aload_n 0, 1) := by decide +kernel
theorem dX10_begin_6 : decode cX10_begin 6 = .ok (.iload_n 2, 1) := by decide +kernel
theorem dX10_begin_7 : decode cX10_begin 7 = .ok (.putfield 41, 3) := by decide +kernel
theorem dX10_begin_10 : decode cX10_begin 10 = .ok (.aload_n 0, 1) := by decide +kernel
theorem dX10_begin_11 : decode cX10_begin 11 = .ok (.iconst 0, 1) := by decide +kernel
theorem dX10_begin_12 : decode cX10_begin 12 = .ok (.putfield 44, 3) := by decide +kernel
theorem dX10_begin_15 : decode cX10_begin 15 = .ok (.aload_n 0, 1) := by decide +kernel
theorem dX10_begin_16 : decode cX10_begin 16 = .ok (.iconst 0, 1) := by decide +kernel
theorem dX10_begin_17 : decode cX10_begin 17 = .ok (.putfield 47, 3) := by decide +kernel
theorem dX10_begin_20 : decode cX10_begin 20 = .ok (.aload_n 0, 1) := by decide +kernel
theorem dX10_begin_21 : decode cX10_begin 21 = .ok (.iconst 0, 1) := by decide +kernel
theorem dX10_begin_22 : decode cX10_begin 22 = .ok (.putfield 50, 3) := by decide +kernel
theorem dX10_begin_25 : decode cX10_begin 25 = .ok (.aload_n 0, 1) := by decide +kernel
theorem dX10_begin_26 : decode cX10_begin 26 = .ok (.iconst 0, 1) := by decide +kernel
theorem dX10_begin_27 : decode cX10_begin 27 = .ok (.putfield 53, 3) := by decide +kernel
theorem dX10_begin_30 : decode cX10_begin 30 = .ok (.aload_n 0, 1) := by decide +kernel
theorem dX10_begin_31 : decode cX10_begin 31 = .ok (.iconst 0, 1) := by decide +kernel
theorem dX10_begin_32 : decode cX10_begin 32 = .ok (.putfield 56, 3) := by decide +kernel
theorem dX10_begin_35 : decode cX10_begin 35 = .ok (.aload_n 0, 1) := by decide +kernel
theorem dX10_begin_36 : decode cX10_begin 36 = .ok (.iconst 0, 1) := by decide +kernel
theorem dX10_begin_37 : decode cX10_begin 37 = .ok (.putfield 59, 3) := by decide +kernel
theorem dX10_begin_40 : decode cX10_begin 40 = .ok (.return_, 1) := by decide +kernel
theorem dX10_play_0 : decode cX10_play 0 = .ok (.aload_n 0, 1) := by decide +kernel
theorem dX10_play_1 : decode cX10_play 1 = .ok (.getfield 24, 3) := by decide +kernel
theorem dX10_play_4 : decode cX10_play 4 = .ok (.ifnull 21, 3) := by decide +kernel
theorem dX10_play_7 : decode cX10_play 7 = .ok (.aload_n 0, 1) := by decide +kernel
theorem dX10_play_8 : decode cX10_play 8 = .ok (.aload_n 0, 1) := by decide +kernel
theorem dX10_play_9 : decode cX10_play 9 = .ok (.getfield 24, 3) := by decide +kernel
theorem dX10_play_12 : decode cX10_play 12 = .ok (.getfield 62, 3) := by decide +kernel
theorem dX10_play_15 : decode cX10_play 15 = .ok (.aload_n 0, 1) := by decide +kernel
theorem dX10_play_16 : decode cX10_play 16 = .ok (.getfield 24, 3) := by decide +kernel
theorem dX10_play_19 : decode cX10_play 19 = .ok (.getfield 63, 3) := by decide +kernel
theorem dX10_play_22 : decode cX10_play 22 = .ok (.invokevirtual 64, 3) := by decide +kernel
theorem dX10_play_25 : decode cX10_play 25 = .ok (.aload_n 0, 1) := by decide +kernel
theorem dX10_play_26 : decode cX10_play 26 = .ok (.iload_n 1, 1) := by decide +kernel
theorem dX10_play_27 : decode cX10_play 27 = .ok (.invokevirtual 68, 3) := by decide +kernel
theorem dX10_play_30 : decode cX10_play 30 = .ok (.aload_n 0, 1) := by decide +kernel
theorem dX10_play_31 : decode cX10_play 31 = .ok (.invokevirtual 72, 3) := by decide +kernel
theorem dX10_play_34 : decode cX10_play 34 = .ok (.return_, 1) := by decide +kernel
theorem dX10_evenYear_0 : decode cX10_evenYear 0 = .ok (.iconst 0, 1) := by decide +kernel
theorem dX10_evenYear_1 : decode cX10_evenYear 1 = .ok (.istore_n 2, 1) := by decide +kernel
theorem dX10_evenYear_2 : decode cX10_evenYear 2 = .ok (.iload_n 2, 1) := by decide +kernel
theorem dX10_evenYear_3 : decode cX10_evenYear 3 = .ok (.aload_n 0, 1) := by decide +kernel
theorem dX10_evenYear_4 : decode cX10_evenYear 4 = .ok (.getfield 35, 3) := by decide +kernel
theorem dX10_evenYear_7 : decode cX10_evenYear 7 = .ok (.if_icmp .ge 15, 3) := by decide +kernel
theorem dX10_evenYear_10 : decode cX10_evenYear 10 = .ok (.aload_n 0, 1) := by decide +kernel
theorem dX10_evenYear_11 : decode cX10_evenYear 11 = .ok (.iload_n 2, 1) := by decide +kernel
theorem dX10_evenYear_12 : decode cX10_evenYear 12 = .ok (.iload_n 1, 1) := by decide +kernel
theorem dX10_evenYear_13 : decode cX10_evenYear 13 = .ok (.invokevirtual 75, 3) := by decide +kernel
theorem dX10_evenYear_16 : decode cX10_evenYear 16 = .ok (.iinc 2 1, 3) := by decide +kernel
theorem dX10_evenYear_19 : decode cX10_evenYear 19 = .ok (.goto (-17), 3) := by decide +kernel
theorem dX10_evenYear_22 : decode cX10_evenYear 22 = .ok (.return_, 1) := by decide +kernel
theorem dX10_evenPlace_0 : decode cX10_evenPlace 0 = .ok (.aload_n 0, 1) := by decide +kernel
theorem dX10_evenPlace_1 : decode cX10_evenPlace 1 = .ok (.iload_n 1, 1) := by decide +kernel
theorem dX10_evenPlace_2 : decode cX10_evenPlace 2 = .ok (.invokevirtual 78, 3) := by decide +kernel
theorem dX10_evenPlace_5 : decode cX10_evenPlace 5 = .ok (.astore_n 3, 1) := by decide +kernel
theorem dX10_evenPlace_6 : decode cX10_evenPlace 6 = .ok (.aload_n 3, 1) := by decide +kernel
theorem dX10_evenPlace_7 : decode cX10_evenPlace 7 = .ok (.ifnull 18, 3) := by decide +kernel
theorem dX10_evenPlace_10 : decode cX10_evenPlace 10 = .ok (.aload_n 3, 1) := by decide +kernel
theorem dX10_evenPlace_11 : decode cX10_evenPlace 11 = .ok (.aload_n 0, 1) := by decide +kernel
theorem dX10_evenPlace_12 : decode cX10_evenPlace 12 = .ok (.getfield 38, 3) := by decide +kernel
theorem dX10_evenPlace_15 : decode cX10_evenPlace 15 = .ok (.aload_n 0, 1) := by decide +kernel
theorem dX10_evenPlace_16 : decode cX10_evenPlace 16 = .ok (.getfield 41, 3) := by decide +kernel
theorem dX10_evenPlace_19 : decode cX10_evenPlace 19 = .ok (.invokevirtual 82, 3) := by decide +kernel
theorem dX10_evenPlace_22 : decode cX10_evenPlace 22 = .ok (.ifCond .ne 4, 3) := by decide +kernel
theorem dX10_evenPlace_25 : decode cX10_evenPlace 25 = .ok (.return_, 1) := by decide +kernel
theorem dX10_evenPlace_26 : decode cX10_evenPlace 26 = .ok (.aload_n 3, 1) := by decide +kernel
theorem dX10_evenPlace_27 : decode cX10_evenPlace 27 = .ok (.aload_n 0, 1) := by decide +kernel
theorem dX10_evenPlace_28 : decode cX10_evenPlace 28 = .ok (.getfield 38, 3) := by decide +kernel
theorem dX10_evenPlace_31 : decode cX10_evenPlace 31 = .ok (.invokevirtual 86, 3) := by decide +kernel
theorem dX10_evenPlace_34 : decode cX10_evenPlace 34 = .ok (.istore 4, 2) := by decide +kernel
theorem dX10_evenPlace_36 : decode cX10_evenPlace 36 = .ok (.aload_n 0, 1) := by decide +kernel
theorem dX10_evenPlace_37 : decode cX10_evenPlace 37 = .ok (.getfield 17, 3) := by decide +kernel
theorem dX10_evenPlace_40 : decode cX10_evenPlace 40 = .ok (.iload_n 1, 1) := by decide +kernel
theorem dX10_evenPlace_41 : decode cX10_evenPlace 41 = .ok (.iload 4, 2) := by decide +kernel
theorem dX10_evenPlace_43 : decode cX10_evenPlace 43 = .ok (.aload_n 0, 1) := by decide +kernel
theorem dX10_evenPlace_44 : decode cX10_evenPlace 44 = .ok (.getfield 38, 3) := by decide +kernel
theorem dX10_evenPlace_47 : decode cX10_evenPlace 47 = .ok (.iconst (-1), 1) := by decide +kernel
theorem dX10_evenPlace_48 : decode cX10_evenPlace 48 = .ok (.ixor, 1) := by decide +kernel
theorem dX10_evenPlace_49 : decode cX10_evenPlace 49 = .ok (.iand, 1) := by decide +kernel
theorem dX10_evenPlace_50 : decode cX10_evenPlace 50 = .ok (.invokestatic 90, 3) := by decide +kernel
theorem dX10_evenPlace_53 : decode cX10_evenPlace 53 = .ok (.aload_n 0, 1) := by decide +kernel
theorem dX10_evenPlace_54 : decode cX10_evenPlace 54 = .ok (.getfield 21, 3) := by decide +kernel
theorem dX10_evenPlace_57 : decode cX10_evenPlace 57 = .ok (.iload_n 1, 1) := by decide +kernel
theorem dX10_evenPlace_58 : decode cX10_evenPlace 58 = .ok (.aload_n 0, 1) := by decide +kernel
theorem dX10_evenPlace_59 : decode cX10_evenPlace 59 = .ok (.getfield 38, 3) := by decide +kernel
theorem dX10_evenPlace_62 : decode cX10_evenPlace 62 = .ok (.iload 4, 2) := by decide +kernel
theorem dX10_evenPlace_64 : decode cX10_evenPlace 64 = .ok (.iconst (-1), 1) := by decide +kernel
theorem dX10_evenPlace_65 : decode cX10_evenPlace 65 = .ok (.ixor, 1) := by decide +kernel
theorem dX10_evenPlace_66 : decode cX10_evenPlace 66 = .ok (.iand, 1) := by decide +kernel
theorem dX10_evenPlace_67 : decode cX10_evenPlace 67 = .ok (.invokestatic 90, 3) := by decide +kernel
theorem dX10_evenPlace_70 : decode cX10_evenPlace 70 = .ok (.aload_n 0, 1) := by decide +kernel
theorem dX10_evenPlace_71 : decode cX10_evenPlace 71 = .ok (.iload 4, 2) := by decide +kernel
theorem dX10_evenPlace_73 : decode cX10_evenPlace 73 = .ok (.putfield 38, 3) := by decide +kernel
theorem dX10_evenPlace_76 : decode cX10_evenPlace 76 = .ok (.aload_n 0, 1) := by decide +kernel
theorem dX10_evenPlace_77 : decode cX10_evenPlace 77 = .ok (.dup, 1) := by decide +kernel
theorem dX10_evenPlace_78 : decode cX10_evenPlace 78 = .ok (.getfield 41, 3) := by decide +kernel
theorem dX10_evenPlace_81 : decode cX10_evenPlace 81 = .ok (.aload_n 3, 1) := by decide +kernel
theorem dX10_evenPlace_82 : decode cX10_evenPlace 82 = .ok (.getfield 94, 3) := by decide +kernel
theorem dX10_evenPlace_85 : decode cX10_evenPlace 85 = .ok (.isub, 1) := by decide +kernel
theorem dX10_evenPlace_86 : decode cX10_evenPlace 86 = .ok (.putfield 41, 3) := by decide +kernel
theorem dX10_evenPlace_89 : decode cX10_evenPlace 89 = .ok (.aload_n 0, 1) := by decide +kernel
theorem dX10_evenPlace_90 : decode cX10_evenPlace 90 = .ok (.dup, 1) := by decide +kernel
theorem dX10_evenPlace_91 : decode cX10_evenPlace 91 = .ok (.getfield 47, 3) := by decide +kernel
theorem dX10_evenPlace_94 : decode cX10_evenPlace 94 = .ok (.iconst 1, 1) := by decide +kernel
theorem dX10_evenPlace_95 : decode cX10_evenPlace 95 = .ok (.iload_n 1, 1) := by decide +kernel
theorem dX10_evenPlace_96 : decode cX10_evenPlace 96 = .ok (.ishl, 1) := by decide +kernel
theorem dX10_evenPlace_97 : decode cX10_evenPlace 97 = .ok (.ior, 1) := by decide +kernel
theorem dX10_evenPlace_98 : decode cX10_evenPlace 98 = .ok (.putfield 47, 3) := by decide +kernel
theorem dX10_evenPlace_101 : decode cX10_evenPlace 101 = .ok (.aload_n 3, 1) := by decide +kernel
theorem dX10_evenPlace_102 : decode cX10_evenPlace 102 = .ok (.getfield 97, 3) := by decide +kernel
theorem dX10_evenPlace_105 : decode cX10_evenPlace 105 = .ok (.ifCond .eq 15, 3) := by decide +kernel
theorem dX10_evenPlace_108 : decode cX10_evenPlace 108 = .ok (.aload_n 0, 1) := by decide +kernel
theorem dX10_evenPlace_109 : decode cX10_evenPlace 109 = .ok (.dup, 1) := by decide +kernel
theorem dX10_evenPlace_110 : decode cX10_evenPlace 110 = .ok (.getfield 56, 3) := by decide +kernel
theorem dX10_evenPlace_113 : decode cX10_evenPlace 113 = .ok (.iconst 1, 1) := by decide +kernel
theorem dX10_evenPlace_114 : decode cX10_evenPlace 114 = .ok (.iload_n 1, 1) := by decide +kernel
theorem dX10_evenPlace_115 : decode cX10_evenPlace 115 = .ok (.ishl, 1) := by decide +kernel
theorem dX10_evenPlace_116 : decode cX10_evenPlace 116 = .ok (.ior, 1) := by decide +kernel
theorem dX10_evenPlace_117 : decode cX10_evenPlace 117 = .ok (.putfield 56, 3) := by decide +kernel
theorem dX10_evenPlace_120 : decode cX10_evenPlace 120 = .ok (.iload_n 2, 1) := by decide +kernel
theorem dX10_evenPlace_121 : decode cX10_evenPlace 121 = .ok (.iload_n 1, 1) := by decide +kernel
theorem dX10_evenPlace_122 : decode cX10_evenPlace 122 = .ok (.invokestatic 101, 3) := by decide +kernel
theorem dX10_evenPlace_125 : decode cX10_evenPlace 125 = .ok (.ifCond .eq 8, 3) := by decide +kernel
theorem dX10_evenPlace_128 : decode cX10_evenPlace 128 = .ok (.aload_n 0, 1) := by decide +kernel
theorem dX10_evenPlace_129 : decode cX10_evenPlace 129 = .ok (.iload_n 1, 1) := by decide +kernel
theorem dX10_evenPlace_130 : decode cX10_evenPlace 130 = .ok (.invokevirtual 104, 3) := by decide +kernel
theorem dX10_evenPlace_133 : decode cX10_evenPlace 133 = .ok (.return_, 1) := by decide +kernel
theorem dX10_nailAt_0 : decode cX10_nailAt 0 = .ok (.aload_n 0, 1) := by decide +kernel
theorem dX10_nailAt_1 : decode cX10_nailAt 1 = .ok (.getfield 24, 3) := by decide +kernel
theorem dX10_nailAt_4 : decode cX10_nailAt 4 = .ok (.ifnonnull 7, 3) := by decide +kernel
theorem dX10_nailAt_7 : decode cX10_nailAt 7 = .ok (.iconst 0, 1) := by decide +kernel
theorem dX10_nailAt_8 : decode cX10_nailAt 8 = .ok (.goto 11, 3) := by decide +kernel
theorem dX10_nailAt_11 : decode cX10_nailAt 11 = .ok (.aload_n 0, 1) := by decide +kernel
theorem dX10_nailAt_12 : decode cX10_nailAt 12 = .ok (.getfield 24, 3) := by decide +kernel
theorem dX10_nailAt_15 : decode cX10_nailAt 15 = .ok (.iload_n 1, 1) := by decide +kernel
theorem dX10_nailAt_16 : decode cX10_nailAt 16 = .ok (.invokevirtual 107, 3) := by decide +kernel
theorem dX10_nailAt_19 : decode cX10_nailAt 19 = .ok (.istore_n 2, 1) := by decide +kernel
theorem dX10_nailAt_20 : decode cX10_nailAt 20 = .ok (.aload_n 0, 1) := by decide +kernel
theorem dX10_nailAt_21 : decode cX10_nailAt 21 = .ok (.getfield 41, 3) := by decide +kernel
theorem dX10_nailAt_24 : decode cX10_nailAt 24 = .ok (.iload_n 2, 1) := by decide +kernel
theorem dX10_nailAt_25 : decode cX10_nailAt 25 = .ok (.if_icmp .lt 47, 3) := by decide +kernel
theorem dX10_nailAt_28 : decode cX10_nailAt 28 = .ok (.aload_n 0, 1) := by decide +kernel
theorem dX10_nailAt_29 : decode cX10_nailAt 29 = .ok (.dup, 1) := by decide +kernel
theorem dX10_nailAt_30 : decode cX10_nailAt 30 = .ok (.getfield 41, 3) := by decide +kernel
theorem dX10_nailAt_33 : decode cX10_nailAt 33 = .ok (.iload_n 2, 1) := by decide +kernel
theorem dX10_nailAt_34 : decode cX10_nailAt 34 = .ok (.isub, 1) := by decide +kernel
theorem dX10_nailAt_35 : decode cX10_nailAt 35 = .ok (.putfield 41, 3) := by decide +kernel
theorem dX10_nailAt_38 : decode cX10_nailAt 38 = .ok (.aload_n 0, 1) := by decide +kernel
theorem dX10_nailAt_39 : decode cX10_nailAt 39 = .ok (.dup, 1) := by decide +kernel
theorem dX10_nailAt_40 : decode cX10_nailAt 40 = .ok (.getfield 44, 3) := by decide +kernel
theorem dX10_nailAt_43 : decode cX10_nailAt 43 = .ok (.iload_n 2, 1) := by decide +kernel
theorem dX10_nailAt_44 : decode cX10_nailAt 44 = .ok (.iadd, 1) := by decide +kernel
theorem dX10_nailAt_45 : decode cX10_nailAt 45 = .ok (.putfield 44, 3) := by decide +kernel
theorem dX10_nailAt_48 : decode cX10_nailAt 48 = .ok (.aload_n 0, 1) := by decide +kernel
theorem dX10_nailAt_49 : decode cX10_nailAt 49 = .ok (.dup, 1) := by decide +kernel
theorem dX10_nailAt_50 : decode cX10_nailAt 50 = .ok (.getfield 53, 3) := by decide +kernel
theorem dX10_nailAt_53 : decode cX10_nailAt 53 = .ok (.iconst 1, 1) := by decide +kernel
theorem dX10_nailAt_54 : decode cX10_nailAt 54 = .ok (.iload_n 1, 1) := by decide +kernel
theorem dX10_nailAt_55 : decode cX10_nailAt 55 = .ok (.ishl, 1) := by decide +kernel
theorem dX10_nailAt_56 : decode cX10_nailAt 56 = .ok (.ior, 1) := by decide +kernel
theorem dX10_nailAt_57 : decode cX10_nailAt 57 = .ok (.putfield 53, 3) := by decide +kernel
theorem dX10_nailAt_60 : decode cX10_nailAt 60 = .ok (.aload_n 0, 1) := by decide +kernel
theorem dX10_nailAt_61 : decode cX10_nailAt 61 = .ok (.dup, 1) := by decide +kernel
theorem dX10_nailAt_62 : decode cX10_nailAt 62 = .ok (.getfield 56, 3) := by decide +kernel
theorem dX10_nailAt_65 : decode cX10_nailAt 65 = .ok (.iconst 1, 1) := by decide +kernel
theorem dX10_nailAt_66 : decode cX10_nailAt 66 = .ok (.iload_n 1, 1) := by decide +kernel
theorem dX10_nailAt_67 : decode cX10_nailAt 67 = .ok (.ishl, 1) := by decide +kernel
theorem dX10_nailAt_68 : decode cX10_nailAt 68 = .ok (.ior, 1) := by decide +kernel
theorem dX10_nailAt_69 : decode cX10_nailAt 69 = .ok (.putfield 56, 3) := by decide +kernel
theorem dX10_nailAt_72 : decode cX10_nailAt 72 = .ok (.return_, 1) := by decide +kernel
theorem dX10_oddYear_0 : decode cX10_oddYear 0 = .ok (.aload_n 0, 1) := by decide +kernel
theorem dX10_oddYear_1 : decode cX10_oddYear 1 = .ok (.getfield 35, 3) := by decide +kernel
theorem dX10_oddYear_4 : decode cX10_oddYear 4 = .ok (.iconst 1, 1) := by decide +kernel
theorem dX10_oddYear_5 : decode cX10_oddYear 5 = .ok (.isub, 1) := by decide +kernel
theorem dX10_oddYear_6 : decode cX10_oddYear 6 = .ok (.istore_n 1, 1) := by decide +kernel
theorem dX10_oddYear_7 : decode cX10_oddYear 7 = .ok (.iload_n 1, 1) := by decide +kernel
theorem dX10_oddYear_8 : decode cX10_oddYear 8 = .ok (.ifCond .lt 51, 3) := by decide +kernel
theorem dX10_oddYear_11 : decode cX10_oddYear 11 = .ok (.aload_n 0, 1) := by decide +kernel
theorem dX10_oddYear_12 : decode cX10_oddYear 12 = .ok (.getfield 47, 3) := by decide +kernel
theorem dX10_oddYear_15 : decode cX10_oddYear 15 = .ok (.aload_n 0, 1) := by decide +kernel
theorem dX10_oddYear_16 : decode cX10_oddYear 16 = .ok (.getfield 56, 3) := by decide +kernel
theorem dX10_oddYear_19 : decode cX10_oddYear 19 = .ok (.iconst (-1), 1) := by decide +kernel
theorem dX10_oddYear_20 : decode cX10_oddYear 20 = .ok (.ixor, 1) := by decide +kernel
theorem dX10_oddYear_21 : decode cX10_oddYear 21 = .ok (.iand, 1) := by decide +kernel
theorem dX10_oddYear_22 : decode cX10_oddYear 22 = .ok (.iload_n 1, 1) := by decide +kernel
theorem dX10_oddYear_23 : decode cX10_oddYear 23 = .ok (.invokestatic 101, 3) := by decide +kernel
theorem dX10_oddYear_26 : decode cX10_oddYear 26 = .ok (.ifCond .eq 27, 3) := by decide +kernel
theorem dX10_oddYear_29 : decode cX10_oddYear 29 = .ok (.aload_n 0, 1) := by decide +kernel
theorem dX10_oddYear_30 : decode cX10_oddYear 30 = .ok (.iload_n 1, 1) := by decide +kernel
theorem dX10_oddYear_31 : decode cX10_oddYear 31 = .ok (.invokevirtual 110, 3) := by decide +kernel
theorem dX10_oddYear_34 : decode cX10_oddYear 34 = .ok (.ifCond .ne 19, 3) := by decide +kernel
theorem dX10_oddYear_37 : decode cX10_oddYear 37 = .ok (.aload_n 0, 1) := by decide +kernel
theorem dX10_oddYear_38 : decode cX10_oddYear 38 = .ok (.iload_n 1, 1) := by decide +kernel
theorem dX10_oddYear_39 : decode cX10_oddYear 39 = .ok (.invokevirtual 114, 3) := by decide +kernel
theorem dX10_oddYear_42 : decode cX10_oddYear 42 = .ok (.aload_n 0, 1) := by decide +kernel
theorem dX10_oddYear_43 : decode cX10_oddYear 43 = .ok (.getfield 34, 3) := by decide +kernel
theorem dX10_oddYear_46 : decode cX10_oddYear 46 = .ok (.ifCond .ne 7, 3) := by decide +kernel
theorem dX10_oddYear_49 : decode cX10_oddYear 49 = .ok (.aload_n 0, 1) := by decide +kernel
theorem dX10_oddYear_50 : decode cX10_oddYear 50 = .ok (.invokevirtual 117, 3) := by decide +kernel
theorem dX10_oddYear_53 : decode cX10_oddYear 53 = .ok (.iinc 1 (-1), 3) := by decide +kernel
theorem dX10_oddYear_56 : decode cX10_oddYear 56 = .ok (.goto (-49), 3) := by decide +kernel
theorem dX10_oddYear_59 : decode cX10_oddYear 59 = .ok (.return_, 1) := by decide +kernel
theorem dX10_stays_0 : decode cX10_stays 0 = .ok (.aload_n 0, 1) := by decide +kernel
theorem dX10_stays_1 : decode cX10_stays 1 = .ok (.getfield 34, 3) := by decide +kernel
theorem dX10_stays_4 : decode cX10_stays 4 = .ok (.iconst 1, 1) := by decide +kernel
theorem dX10_stays_5 : decode cX10_stays 5 = .ok (.if_icmp .eq 5, 3) := by decide +kernel
theorem dX10_stays_8 : decode cX10_stays 8 = .ok (.iconst 0, 1) := by decide +kernel
theorem dX10_stays_9 : decode cX10_stays 9 = .ok (.ireturn, 1) := by decide +kernel
theorem dX10_stays_10 : decode cX10_stays 10 = .ok (.aload_n 0, 1) := by decide +kernel
theorem dX10_stays_11 : decode cX10_stays 11 = .ok (.getfield 17, 3) := by decide +kernel
theorem dX10_stays_14 : decode cX10_stays 14 = .ok (.iload_n 1, 1) := by decide +kernel
theorem dX10_stays_15 : decode cX10_stays 15 = .ok (.invokestatic 120, 3) := by decide +kernel
theorem dX10_stays_18 : decode cX10_stays 18 = .ok (.aload_n 0, 1) := by decide +kernel
theorem dX10_stays_19 : decode cX10_stays 19 = .ok (.getfield 21, 3) := by decide +kernel
theorem dX10_stays_22 : decode cX10_stays 22 = .ok (.iload_n 1, 1) := by decide +kernel
theorem dX10_stays_23 : decode cX10_stays 23 = .ok (.invokestatic 120, 3) := by decide +kernel
theorem dX10_stays_26 : decode cX10_stays 26 = .ok (.ior, 1) := by decide +kernel
theorem dX10_stays_27 : decode cX10_stays 27 = .ok (.istore_n 2, 1) := by decide +kernel
theorem dX10_stays_28 : decode cX10_stays 28 = .ok (.iload_n 1, 1) := by decide +kernel
theorem dX10_stays_29 : decode cX10_stays 29 = .ok (.iconst 1, 1) := by decide +kernel
theorem dX10_stays_30 : decode cX10_stays 30 = .ok (.iadd, 1) := by decide +kernel
theorem dX10_stays_31 : decode cX10_stays 31 = .ok (.istore_n 3, 1) := by decide +kernel
theorem dX10_stays_32 : decode cX10_stays 32 = .ok (.iload_n 3, 1) := by decide +kernel
theorem dX10_stays_33 : decode cX10_stays 33 = .ok (.aload_n 0, 1) := by decide +kernel
theorem dX10_stays_34 : decode cX10_stays 34 = .ok (.getfield 35, 3) := by decide +kernel
theorem dX10_stays_37 : decode cX10_stays 37 = .ok (.if_icmp .ge 44, 3) := by decide +kernel
theorem dX10_stays_40 : decode cX10_stays 40 = .ok (.aload_n 0, 1) := by decide +kernel
theorem dX10_stays_41 : decode cX10_stays 41 = .ok (.iload_n 3, 1) := by decide +kernel
theorem dX10_stays_42 : decode cX10_stays 42 = .ok (.invokevirtual 78, 3) := by decide +kernel
theorem dX10_stays_45 : decode cX10_stays 45 = .ok (.astore 4, 2) := by decide +kernel
theorem dX10_stays_47 : decode cX10_stays 47 = .ok (.aload 4, 2) := by decide +kernel
theorem dX10_stays_49 : decode cX10_stays 49 = .ok (.ifnull 26, 3) := by decide +kernel
theorem dX10_stays_52 : decode cX10_stays 52 = .ok (.aload_n 0, 1) := by decide +kernel
theorem dX10_stays_53 : decode cX10_stays 53 = .ok (.getfield 56, 3) := by decide +kernel
theorem dX10_stays_56 : decode cX10_stays 56 = .ok (.iload_n 3, 1) := by decide +kernel
theorem dX10_stays_57 : decode cX10_stays 57 = .ok (.invokestatic 101, 3) := by decide +kernel
theorem dX10_stays_60 : decode cX10_stays 60 = .ok (.ifCond .eq 15, 3) := by decide +kernel
theorem dX10_stays_63 : decode cX10_stays 63 = .ok (.aload 4, 2) := by decide +kernel
theorem dX10_stays_65 : decode cX10_stays 65 = .ok (.getfield 124, 3) := by decide +kernel
theorem dX10_stays_68 : decode cX10_stays 68 = .ok (.iload_n 2, 1) := by decide +kernel
theorem dX10_stays_69 : decode cX10_stays 69 = .ok (.iand, 1) := by decide +kernel
theorem dX10_stays_70 : decode cX10_stays 70 = .ok (.ifCond .eq 5, 3) := by decide +kernel
theorem dX10_stays_73 : decode cX10_stays 73 = .ok (.iconst 1, 1) := by decide +kernel
theorem dX10_stays_74 : decode cX10_stays 74 = .ok (.ireturn, 1) := by decide +kernel
theorem dX10_stays_75 : decode cX10_stays 75 = .ok (.iinc 3 1, 3) := by decide +kernel
theorem dX10_stays_78 : decode cX10_stays 78 = .ok (.goto (-46), 3) := by decide +kernel
theorem dX10_stays_81 : decode cX10_stays 81 = .ok (.iconst 0, 1) := by decide +kernel
theorem dX10_stays_82 : decode cX10_stays 82 = .ok (.ireturn, 1) := by decide +kernel
theorem dX10_letFall_0 : decode cX10_letFall 0 = .ok (.iconst 1, 1) := by decide +kernel
theorem dX10_letFall_1 : decode cX10_letFall 1 = .ok (.istore_n 1, 1) := by decide +kernel
theorem dX10_letFall_2 : decode cX10_letFall 2 = .ok (.iconst 0, 1) := by decide +kernel
theorem dX10_letFall_3 : decode cX10_letFall 3 = .ok (.istore_n 2, 1) := by decide +kernel
theorem dX10_letFall_4 : decode cX10_letFall 4 = .ok (.iload_n 2, 1) := by decide +kernel
theorem dX10_letFall_5 : decode cX10_letFall 5 = .ok (.aload_n 0, 1) := by decide +kernel
theorem dX10_letFall_6 : decode cX10_letFall 6 = .ok (.getfield 35, 3) := by decide +kernel
theorem dX10_letFall_9 : decode cX10_letFall 9 = .ok (.if_icmp .gt 93, 3) := by decide +kernel
theorem dX10_letFall_12 : decode cX10_letFall 12 = .ok (.iload_n 1, 1) := by decide +kernel
theorem dX10_letFall_13 : decode cX10_letFall 13 = .ok (.ifCond .eq 89, 3) := by decide +kernel
theorem dX10_letFall_16 : decode cX10_letFall 16 = .ok (.iconst 0, 1) := by decide +kernel
theorem dX10_letFall_17 : decode cX10_letFall 17 = .ok (.istore_n 1, 1) := by decide +kernel
theorem dX10_letFall_18 : decode cX10_letFall 18 = .ok (.aload_n 0, 1) := by decide +kernel
theorem dX10_letFall_19 : decode cX10_letFall 19 = .ok (.getfield 35, 3) := by decide +kernel
theorem dX10_letFall_22 : decode cX10_letFall 22 = .ok (.iconst 1, 1) := by decide +kernel
theorem dX10_letFall_23 : decode cX10_letFall 23 = .ok (.isub, 1) := by decide +kernel
theorem dX10_letFall_24 : decode cX10_letFall 24 = .ok (.istore_n 3, 1) := by decide +kernel
theorem dX10_letFall_25 : decode cX10_letFall 25 = .ok (.iload_n 3, 1) := by decide +kernel
theorem dX10_letFall_26 : decode cX10_letFall 26 = .ok (.ifCond .lt 70, 3) := by decide +kernel
theorem dX10_letFall_29 : decode cX10_letFall 29 = .ok (.aload_n 0, 1) := by decide +kernel
theorem dX10_letFall_30 : decode cX10_letFall 30 = .ok (.iload_n 3, 1) := by decide +kernel
theorem dX10_letFall_31 : decode cX10_letFall 31 = .ok (.invokevirtual 78, 3) := by decide +kernel
theorem dX10_letFall_34 : decode cX10_letFall 34 = .ok (.astore 4, 2) := by decide +kernel
theorem dX10_letFall_36 : decode cX10_letFall 36 = .ok (.aload 4, 2) := by decide +kernel
theorem dX10_letFall_38 : decode cX10_letFall 38 = .ok (.ifnull 52, 3) := by decide +kernel
theorem dX10_letFall_41 : decode cX10_letFall 41 = .ok (.aload_n 0, 1) := by decide +kernel
theorem dX10_letFall_42 : decode cX10_letFall 42 = .ok (.getfield 56, 3) := by decide +kernel
theorem dX10_letFall_45 : decode cX10_letFall 45 = .ok (.aload_n 0, 1) := by decide +kernel
theorem dX10_letFall_46 : decode cX10_letFall 46 = .ok (.getfield 50, 3) := by decide +kernel
theorem dX10_letFall_49 : decode cX10_letFall 49 = .ok (.iconst (-1), 1) := by decide +kernel
theorem dX10_letFall_50 : decode cX10_letFall 50 = .ok (.ixor, 1) := by decide +kernel
theorem dX10_letFall_51 : decode cX10_letFall 51 = .ok (.iand, 1) := by decide +kernel
theorem dX10_letFall_52 : decode cX10_letFall 52 = .ok (.iload_n 3, 1) := by decide +kernel
theorem dX10_letFall_53 : decode cX10_letFall 53 = .ok (.invokestatic 101, 3) := by decide +kernel
theorem dX10_letFall_56 : decode cX10_letFall 56 = .ok (.ifCond .eq 34, 3) := by decide +kernel
theorem dX10_letFall_59 : decode cX10_letFall 59 = .ok (.aload 4, 2) := by decide +kernel
theorem dX10_letFall_61 : decode cX10_letFall 61 = .ok (.aload_n 0, 1) := by decide +kernel
theorem dX10_letFall_62 : decode cX10_letFall 62 = .ok (.getfield 38, 3) := by decide +kernel
theorem dX10_letFall_65 : decode cX10_letFall 65 = .ok (.invokevirtual 127, 3) := by decide +kernel
theorem dX10_letFall_68 : decode cX10_letFall 68 = .ok (.ifCond .ne 22, 3) := by decide +kernel
theorem dX10_letFall_71 : decode cX10_letFall 71 = .ok (.aload_n 0, 1) := by decide +kernel
theorem dX10_letFall_72 : decode cX10_letFall 72 = .ok (.iload_n 3, 1) := by decide +kernel
theorem dX10_letFall_73 : decode cX10_letFall 73 = .ok (.invokevirtual 114, 3) := by decide +kernel
theorem dX10_letFall_76 : decode cX10_letFall 76 = .ok (.aload_n 0, 1) := by decide +kernel
theorem dX10_letFall_77 : decode cX10_letFall 77 = .ok (.dup, 1) := by decide +kernel
theorem dX10_letFall_78 : decode cX10_letFall 78 = .ok (.getfield 59, 3) := by decide +kernel
theorem dX10_letFall_81 : decode cX10_letFall 81 = .ok (.iconst 1, 1) := by decide +kernel
theorem dX10_letFall_82 : decode cX10_letFall 82 = .ok (.iload_n 3, 1) := by decide +kernel
theorem dX10_letFall_83 : decode cX10_letFall 83 = .ok (.ishl, 1) := by decide +kernel
theorem dX10_letFall_84 : decode cX10_letFall 84 = .ok (.ior, 1) := by decide +kernel
theorem dX10_letFall_85 : decode cX10_letFall 85 = .ok (.putfield 59, 3) := by decide +kernel
theorem dX10_letFall_88 : decode cX10_letFall 88 = .ok (.iconst 1, 1) := by decide +kernel
theorem dX10_letFall_89 : decode cX10_letFall 89 = .ok (.istore_n 1, 1) := by decide +kernel
theorem dX10_letFall_90 : decode cX10_letFall 90 = .ok (.iinc 3 (-1), 3) := by decide +kernel
theorem dX10_letFall_93 : decode cX10_letFall 93 = .ok (.goto (-68), 3) := by decide +kernel
theorem dX10_letFall_96 : decode cX10_letFall 96 = .ok (.iinc 2 1, 3) := by decide +kernel
theorem dX10_letFall_99 : decode cX10_letFall 99 = .ok (.goto (-95), 3) := by decide +kernel
theorem dX10_letFall_102 : decode cX10_letFall 102 = .ok (.return_, 1) := by decide +kernel
theorem dX10_undo_0 : decode cX10_undo 0 = .ok (.aload_n 0, 1) := by decide +kernel
theorem dX10_undo_1 : decode cX10_undo 1 = .ok (.iload_n 1, 1) := by decide +kernel
theorem dX10_undo_2 : decode cX10_undo 2 = .ok (.invokevirtual 78, 3) := by decide +kernel
theorem dX10_undo_5 : decode cX10_undo 5 = .ok (.astore_n 2, 1) := by decide +kernel
theorem dX10_undo_6 : decode cX10_undo 6 = .ok (.aload_n 2, 1) := by decide +kernel
theorem dX10_undo_7 : decode cX10_undo 7 = .ok (.ifnull 62, 3) := by decide +kernel
theorem dX10_undo_10 : decode cX10_undo 10 = .ok (.aload_n 0, 1) := by decide +kernel
theorem dX10_undo_11 : decode cX10_undo 11 = .ok (.aload_n 0, 1) := by decide +kernel
theorem dX10_undo_12 : decode cX10_undo 12 = .ok (.getfield 38, 3) := by decide +kernel
theorem dX10_undo_15 : decode cX10_undo 15 = .ok (.aload_n 0, 1) := by decide +kernel
theorem dX10_undo_16 : decode cX10_undo 16 = .ok (.getfield 17, 3) := by decide +kernel
theorem dX10_undo_19 : decode cX10_undo 19 = .ok (.iload_n 1, 1) := by decide +kernel
theorem dX10_undo_20 : decode cX10_undo 20 = .ok (.invokestatic 120, 3) := by decide +kernel
theorem dX10_undo_23 : decode cX10_undo 23 = .ok (.iconst (-1), 1) := by decide +kernel
theorem dX10_undo_24 : decode cX10_undo 24 = .ok (.ixor, 1) := by decide +kernel
theorem dX10_undo_25 : decode cX10_undo 25 = .ok (.iand, 1) := by decide +kernel
theorem dX10_undo_26 : decode cX10_undo 26 = .ok (.aload_n 0, 1) := by decide +kernel
theorem dX10_undo_27 : decode cX10_undo 27 = .ok (.getfield 21, 3) := by decide +kernel
theorem dX10_undo_30 : decode cX10_undo 30 = .ok (.iload_n 1, 1) := by decide +kernel
theorem dX10_undo_31 : decode cX10_undo 31 = .ok (.invokestatic 120, 3) := by decide +kernel
theorem dX10_undo_34 : decode cX10_undo 34 = .ok (.ior, 1) := by decide +kernel
theorem dX10_undo_35 : decode cX10_undo 35 = .ok (.putfield 38, 3) := by decide +kernel
theorem dX10_undo_38 : decode cX10_undo 38 = .ok (.aload_n 0, 1) := by decide +kernel
theorem dX10_undo_39 : decode cX10_undo 39 = .ok (.sipush 9999, 3) := by decide +kernel
theorem dX10_undo_42 : decode cX10_undo 42 = .ok (.aload_n 0, 1) := by decide +kernel
theorem dX10_undo_43 : decode cX10_undo 43 = .ok (.getfield 41, 3) := by decide +kernel
theorem dX10_undo_46 : decode cX10_undo 46 = .ok (.aload_n 2, 1) := by decide +kernel
theorem dX10_undo_47 : decode cX10_undo 47 = .ok (.getfield 130, 3) := by decide +kernel
theorem dX10_undo_50 : decode cX10_undo 50 = .ok (.iadd, 1) := by decide +kernel
theorem dX10_undo_51 : decode cX10_undo 51 = .ok (.invokestatic 133, 3) := by decide +kernel
theorem dX10_undo_54 : decode cX10_undo 54 = .ok (.putfield 41, 3) := by decide +kernel
theorem dX10_undo_57 : decode cX10_undo 57 = .ok (.aload_n 0, 1) := by decide +kernel
theorem dX10_undo_58 : decode cX10_undo 58 = .ok (.dup, 1) := by decide +kernel
theorem dX10_undo_59 : decode cX10_undo 59 = .ok (.getfield 50, 3) := by decide +kernel
theorem dX10_undo_62 : decode cX10_undo 62 = .ok (.iconst 1, 1) := by decide +kernel
theorem dX10_undo_63 : decode cX10_undo 63 = .ok (.iload_n 1, 1) := by decide +kernel
theorem dX10_undo_64 : decode cX10_undo 64 = .ok (.ishl, 1) := by decide +kernel
theorem dX10_undo_65 : decode cX10_undo 65 = .ok (.ior, 1) := by decide +kernel
theorem dX10_undo_66 : decode cX10_undo 66 = .ok (.putfield 50, 3) := by decide +kernel
theorem dX10_undo_69 : decode cX10_undo 69 = .ok (.return_, 1) := by decide +kernel
theorem dX10_standing_0 : decode cX10_standing 0 = .ok (.aload_n 0, 1) := by decide +kernel
theorem dX10_standing_1 : decode cX10_standing 1 = .ok (.getfield 47, 3) := by decide +kernel
theorem dX10_standing_4 : decode cX10_standing 4 = .ok (.aload_n 0, 1) := by decide +kernel
theorem dX10_standing_5 : decode cX10_standing 5 = .ok (.getfield 50, 3) := by decide +kernel
theorem dX10_standing_8 : decode cX10_standing 8 = .ok (.iconst (-1), 1) := by decide +kernel
theorem dX10_standing_9 : decode cX10_standing 9 = .ok (.ixor, 1) := by decide +kernel
theorem dX10_standing_10 : decode cX10_standing 10 = .ok (.iand, 1) := by decide +kernel
theorem dX10_standing_11 : decode cX10_standing 11 = .ok (.ireturn, 1) := by decide +kernel
theorem dX10_fate_0 : decode cX10_fate 0 = .ok (.aload_n 0, 1) := by decide +kernel
theorem dX10_fate_1 : decode cX10_fate 1 = .ok (.getfield 47, 3) := by decide +kernel
theorem dX10_fate_4 : decode cX10_fate 4 = .ok (.iload_n 1, 1) := by decide +kernel
theorem dX10_fate_5 : decode cX10_fate 5 = .ok (.invokestatic 101, 3) := by decide +kernel
theorem dX10_fate_8 : decode cX10_fate 8 = .ok (.ifCond .ne 5, 3) := by decide +kernel
theorem dX10_fate_11 : decode cX10_fate 11 = .ok (.iconst 0, 1) := by decide +kernel
theorem dX10_fate_12 : decode cX10_fate 12 = .ok (.ireturn, 1) := by decide +kernel
theorem dX10_fate_13 : decode cX10_fate 13 = .ok (.aload_n 0, 1) := by decide +kernel
theorem dX10_fate_14 : decode cX10_fate 14 = .ok (.getfield 50, 3) := by decide +kernel
theorem dX10_fate_17 : decode cX10_fate 17 = .ok (.iload_n 1, 1) := by decide +kernel
theorem dX10_fate_18 : decode cX10_fate 18 = .ok (.invokestatic 101, 3) := by decide +kernel
theorem dX10_fate_21 : decode cX10_fate 21 = .ok (.ifCond .eq 20, 3) := by decide +kernel
theorem dX10_fate_24 : decode cX10_fate 24 = .ok (.aload_n 0, 1) := by decide +kernel
theorem dX10_fate_25 : decode cX10_fate 25 = .ok (.getfield 59, 3) := by decide +kernel
theorem dX10_fate_28 : decode cX10_fate 28 = .ok (.iload_n 1, 1) := by decide +kernel
theorem dX10_fate_29 : decode cX10_fate 29 = .ok (.invokestatic 101, 3) := by decide +kernel
theorem dX10_fate_32 : decode cX10_fate 32 = .ok (.ifCond .eq 7, 3) := by decide +kernel
theorem dX10_fate_35 : decode cX10_fate 35 = .ok (.iconst 5, 1) := by decide +kernel
theorem dX10_fate_36 : decode cX10_fate 36 = .ok (.goto 4, 3) := by decide +kernel
theorem dX10_fate_39 : decode cX10_fate 39 = .ok (.iconst 1, 1) := by decide +kernel
theorem dX10_fate_40 : decode cX10_fate 40 = .ok (.ireturn, 1) := by decide +kernel
theorem dX10_fate_41 : decode cX10_fate 41 = .ok (.aload_n 0, 1) := by decide +kernel
theorem dX10_fate_42 : decode cX10_fate 42 = .ok (.getfield 53, 3) := by decide +kernel
theorem dX10_fate_45 : decode cX10_fate 45 = .ok (.iload_n 1, 1) := by decide +kernel
theorem dX10_fate_46 : decode cX10_fate 46 = .ok (.invokestatic 101, 3) := by decide +kernel
theorem dX10_fate_49 : decode cX10_fate 49 = .ok (.ifCond .eq 5, 3) := by decide +kernel
theorem dX10_fate_52 : decode cX10_fate 52 = .ok (.iconst 2, 1) := by decide +kernel
theorem dX10_fate_53 : decode cX10_fate 53 = .ok (.ireturn, 1) := by decide +kernel
theorem dX10_fate_54 : decode cX10_fate 54 = .ok (.aload_n 0, 1) := by decide +kernel
theorem dX10_fate_55 : decode cX10_fate 55 = .ok (.getfield 56, 3) := by decide +kernel
theorem dX10_fate_58 : decode cX10_fate 58 = .ok (.iload_n 1, 1) := by decide +kernel
theorem dX10_fate_59 : decode cX10_fate 59 = .ok (.invokestatic 101, 3) := by decide +kernel
theorem dX10_fate_62 : decode cX10_fate 62 = .ok (.ifCond .eq 7, 3) := by decide +kernel
theorem dX10_fate_65 : decode cX10_fate 65 = .ok (.iconst 3, 1) := by decide +kernel
theorem dX10_fate_66 : decode cX10_fate 66 = .ok (.goto 4, 3) := by decide +kernel
theorem dX10_fate_69 : decode cX10_fate 69 = .ok (.iconst 4, 1) := by decide +kernel
theorem dX10_fate_70 : decode cX10_fate 70 = .ok (.ireturn, 1) := by decide +kernel
theorem dX10_leastNails_0 : decode cX10_leastNails 0 = .ok (.bipush (-4), 2) := by decide +kernel
theorem dX10_leastNails_2 : decode cX10_leastNails 2 = .ok (.istore_n 2, 1) := by decide +kernel
theorem dX10_leastNails_3 : decode cX10_leastNails 3 = .ok (.iconst 0, 1) := by decide +kernel
theorem dX10_leastNails_4 : decode cX10_leastNails 4 = .ok (.istore_n 3, 1) := by decide +kernel
theorem dX10_leastNails_5 : decode cX10_leastNails 5 = .ok (.iconst 0, 1) := by decide +kernel
theorem dX10_leastNails_6 : decode cX10_leastNails 6 = .ok (.istore 4, 2) := by decide +kernel
theorem dX10_leastNails_8 : decode cX10_leastNails 8 = .ok (.iload 4, 2) := by decide +kernel
theorem dX10_leastNails_10 : decode cX10_leastNails 10 = .ok (.iconst 1, 1) := by decide +kernel
theorem dX10_leastNails_11 : decode cX10_leastNails 11 = .ok (.aload_n 0, 1) := by decide +kernel
theorem dX10_leastNails_12 : decode cX10_leastNails 12 = .ok (.getfield 35, 3) := by decide +kernel
theorem dX10_leastNails_15 : decode cX10_leastNails 15 = .ok (.ishl, 1) := by decide +kernel
theorem dX10_leastNails_16 : decode cX10_leastNails 16 = .ok (.if_icmp .ge 75, 3) := by decide +kernel
theorem dX10_leastNails_19 : decode cX10_leastNails 19 = .ok (.iload_n 2, 1) := by decide +kernel
theorem dX10_leastNails_20 : decode cX10_leastNails 20 = .ok (.ifCond .ge 7, 3) := by decide +kernel
theorem dX10_leastNails_23 : decode cX10_leastNails 23 = .ok (.iconst 1, 1) := by decide +kernel
theorem dX10_leastNails_24 : decode cX10_leastNails 24 = .ok (.goto 13, 3) := by decide +kernel
theorem dX10_leastNails_27 : decode cX10_leastNails 27 = .ok (.iload_n 2, 1) := by decide +kernel
theorem dX10_leastNails_28 : decode cX10_leastNails 28 = .ok (.invokestatic 139, 3) := by decide +kernel
theorem dX10_leastNails_31 : decode cX10_leastNails 31 = .ok (.iload 4, 2) := by decide +kernel
theorem dX10_leastNails_33 : decode cX10_leastNails 33 = .ok (.invokestatic 139, 3) := by decide +kernel
theorem dX10_leastNails_36 : decode cX10_leastNails 36 = .ok (.isub, 1) := by decide +kernel
theorem dX10_leastNails_37 : decode cX10_leastNails 37 = .ok (.istore 5, 2) := by decide +kernel
theorem dX10_leastNails_39 : decode cX10_leastNails 39 = .ok (.iload 5, 2) := by decide +kernel
theorem dX10_leastNails_41 : decode cX10_leastNails 41 = .ok (.ifCond .ge 6, 3) := by decide +kernel
theorem dX10_leastNails_44 : decode cX10_leastNails 44 = .ok (.goto 41, 3) := by decide +kernel
theorem dX10_leastNails_47 : decode cX10_leastNails 47 = .ok (.aload_n 0, 1) := by decide +kernel
theorem dX10_leastNails_48 : decode cX10_leastNails 48 = .ok (.iload 4, 2) := by decide +kernel
theorem dX10_leastNails_50 : decode cX10_leastNails 50 = .ok (.invokevirtual 144, 3) := by decide +kernel
theorem dX10_leastNails_53 : decode cX10_leastNails 53 = .ok (.iload_n 1, 1) := by decide +kernel
theorem dX10_leastNails_54 : decode cX10_leastNails 54 = .ok (.aload_n 0, 1) := by decide +kernel
theorem dX10_leastNails_55 : decode cX10_leastNails 55 = .ok (.getfield 38, 3) := by decide +kernel
theorem dX10_leastNails_58 : decode cX10_leastNails 58 = .ok (.iconst (-1), 1) := by decide +kernel
theorem dX10_leastNails_59 : decode cX10_leastNails 59 = .ok (.ixor, 1) := by decide +kernel
theorem dX10_leastNails_60 : decode cX10_leastNails 60 = .ok (.iand, 1) := by decide +kernel
theorem dX10_leastNails_61 : decode cX10_leastNails 61 = .ok (.ifCond .ne 24, 3) := by decide +kernel
theorem dX10_leastNails_64 : decode cX10_leastNails 64 = .ok (.iload 5, 2) := by decide +kernel
theorem dX10_leastNails_66 : decode cX10_leastNails 66 = .ok (.ifCond .gt 11, 3) := by decide +kernel
theorem dX10_leastNails_69 : decode cX10_leastNails 69 = .ok (.aload_n 0, 1) := by decide +kernel
theorem dX10_leastNails_70 : decode cX10_leastNails 70 = .ok (.getfield 44, 3) := by decide +kernel
theorem dX10_leastNails_73 : decode cX10_leastNails 73 = .ok (.iload_n 3, 1) := by decide +kernel
theorem dX10_leastNails_74 : decode cX10_leastNails 74 = .ok (.if_icmp .ge 11, 3) := by decide +kernel
theorem dX10_leastNails_77 : decode cX10_leastNails 77 = .ok (.iload 4, 2) := by decide +kernel
theorem dX10_leastNails_79 : decode cX10_leastNails 79 = .ok (.istore_n 2, 1) := by decide +kernel
theorem dX10_leastNails_80 : decode cX10_leastNails 80 = .ok (.aload_n 0, 1) := by decide +kernel
theorem dX10_leastNails_81 : decode cX10_leastNails 81 = .ok (.getfield 44, 3) := by decide +kernel
theorem dX10_leastNails_84 : decode cX10_leastNails 84 = .ok (.istore_n 3, 1) := by decide +kernel
theorem dX10_leastNails_85 : decode cX10_leastNails 85 = .ok (.iinc 4 1, 3) := by decide +kernel
theorem dX10_leastNails_88 : decode cX10_leastNails 88 = .ok (.goto (-80), 3) := by decide +kernel
theorem dX10_leastNails_91 : decode cX10_leastNails 91 = .ok (.iload_n 2, 1) := by decide +kernel
theorem dX10_leastNails_92 : decode cX10_leastNails 92 = .ok (.ireturn, 1) := by decide +kernel
theorem dX10_has_0 : decode cX10_has 0 = .ok (.iload_n 0, 1) := by decide +kernel
theorem dX10_has_1 : decode cX10_has 1 = .ok (.iload_n 1, 1) := by decide +kernel
theorem dX10_has_2 : decode cX10_has 2 = .ok (.ishr, 1) := by decide +kernel
theorem dX10_has_3 : decode cX10_has 3 = .ok (.iconst 1, 1) := by decide +kernel
theorem dX10_has_4 : decode cX10_has 4 = .ok (.iand, 1) := by decide +kernel
theorem dX10_has_5 : decode cX10_has 5 = .ok (.ifCond .eq 7, 3) := by decide +kernel
theorem dX10_has_8 : decode cX10_has 8 = .ok (.iconst 1, 1) := by decide +kernel
theorem dX10_has_9 : decode cX10_has 9 = .ok (.goto 4, 3) := by decide +kernel
theorem dX10_has_12 : decode cX10_has 12 = .ok (.iconst 0, 1) := by decide +kernel
theorem dX10_has_13 : decode cX10_has 13 = .ok (.ireturn, 1) := by decide +kernel
theorem dJ6_bitCount_0f7a4_0 : decode cJ6_bitCount_0f7a4 0 = .ok (.iload_n 0, 1) := by decide +kernel
theorem dJ6_bitCount_0f7a4_1 : decode cJ6_bitCount_0f7a4 1 = .ok (.iload_n 0, 1) := by decide +kernel
theorem dJ6_bitCount_0f7a4_2 : decode cJ6_bitCount_0f7a4 2 = .ok (.iconst 1, 1) := by decide +kernel
theorem dJ6_bitCount_0f7a4_3 : decode cJ6_bitCount_0f7a4 3 = .ok (.iushr, 1) := by decide +kernel
theorem dJ6_bitCount_0f7a4_4 : decode cJ6_bitCount_0f7a4 4 = .ok (.ldc_w 265, 3) := by decide +kernel
theorem dJ6_bitCount_0f7a4_7 : decode cJ6_bitCount_0f7a4 7 = .ok (.iand, 1) := by decide +kernel
theorem dJ6_bitCount_0f7a4_8 : decode cJ6_bitCount_0f7a4 8 = .ok (.isub, 1) := by decide +kernel
theorem dJ6_bitCount_0f7a4_9 : decode cJ6_bitCount_0f7a4 9 = .ok (.istore_n 0, 1) := by decide +kernel
theorem dJ6_bitCount_0f7a4_10 : decode cJ6_bitCount_0f7a4 10 = .ok (.iload_n 0, 1) := by decide +kernel
theorem dJ6_bitCount_0f7a4_11 : decode cJ6_bitCount_0f7a4 11 = .ok (.ldc_w 266, 3) := by decide +kernel
theorem dJ6_bitCount_0f7a4_14 : decode cJ6_bitCount_0f7a4 14 = .ok (.iand, 1) := by decide +kernel
theorem dJ6_bitCount_0f7a4_15 : decode cJ6_bitCount_0f7a4 15 = .ok (.iload_n 0, 1) := by decide +kernel
theorem dJ6_bitCount_0f7a4_16 : decode cJ6_bitCount_0f7a4 16 = .ok (.iconst 2, 1) := by decide +kernel
theorem dJ6_bitCount_0f7a4_17 : decode cJ6_bitCount_0f7a4 17 = .ok (.iushr, 1) := by decide +kernel
theorem dJ6_bitCount_0f7a4_18 : decode cJ6_bitCount_0f7a4 18 = .ok (.ldc_w 266, 3) := by decide +kernel
theorem dJ6_bitCount_0f7a4_21 : decode cJ6_bitCount_0f7a4 21 = .ok (.iand, 1) := by decide +kernel
theorem dJ6_bitCount_0f7a4_22 : decode cJ6_bitCount_0f7a4 22 = .ok (.iadd, 1) := by decide +kernel
theorem dJ6_bitCount_0f7a4_23 : decode cJ6_bitCount_0f7a4 23 = .ok (.istore_n 0, 1) := by decide +kernel
theorem dJ6_bitCount_0f7a4_24 : decode cJ6_bitCount_0f7a4 24 = .ok (.iload_n 0, 1) := by decide +kernel
theorem dJ6_bitCount_0f7a4_25 : decode cJ6_bitCount_0f7a4 25 = .ok (.iload_n 0, 1) := by decide +kernel
theorem dJ6_bitCount_0f7a4_26 : decode cJ6_bitCount_0f7a4 26 = .ok (.iconst 4, 1) := by decide +kernel
theorem dJ6_bitCount_0f7a4_27 : decode cJ6_bitCount_0f7a4 27 = .ok (.iushr, 1) := by decide +kernel
theorem dJ6_bitCount_0f7a4_28 : decode cJ6_bitCount_0f7a4 28 = .ok (.iadd, 1) := by decide +kernel
theorem dJ6_bitCount_0f7a4_29 : decode cJ6_bitCount_0f7a4 29 = .ok (.ldc_w 267, 3) := by decide +kernel
theorem dJ6_bitCount_0f7a4_32 : decode cJ6_bitCount_0f7a4 32 = .ok (.iand, 1) := by decide +kernel
theorem dJ6_bitCount_0f7a4_33 : decode cJ6_bitCount_0f7a4 33 = .ok (.istore_n 0, 1) := by decide +kernel
theorem dJ6_bitCount_0f7a4_34 : decode cJ6_bitCount_0f7a4 34 = .ok (.iload_n 0, 1) := by decide +kernel
theorem dJ6_bitCount_0f7a4_35 : decode cJ6_bitCount_0f7a4 35 = .ok (.iload_n 0, 1) := by decide +kernel
theorem dJ6_bitCount_0f7a4_36 : decode cJ6_bitCount_0f7a4 36 = .ok (.bipush 8, 2) := by decide +kernel
theorem dJ6_bitCount_0f7a4_38 : decode cJ6_bitCount_0f7a4 38 = .ok (.iushr, 1) := by decide +kernel
theorem dJ6_bitCount_0f7a4_39 : decode cJ6_bitCount_0f7a4 39 = .ok (.iadd, 1) := by decide +kernel
theorem dJ6_bitCount_0f7a4_40 : decode cJ6_bitCount_0f7a4 40 = .ok (.istore_n 0, 1) := by decide +kernel
theorem dJ6_bitCount_0f7a4_41 : decode cJ6_bitCount_0f7a4 41 = .ok (.iload_n 0, 1) := by decide +kernel
theorem dJ6_bitCount_0f7a4_42 : decode cJ6_bitCount_0f7a4 42 = .ok (.iload_n 0, 1) := by decide +kernel
theorem dJ6_bitCount_0f7a4_43 : decode cJ6_bitCount_0f7a4 43 = .ok (.bipush 16, 2) := by decide +kernel
theorem dJ6_bitCount_0f7a4_45 : decode cJ6_bitCount_0f7a4 45 = .ok (.iushr, 1) := by decide +kernel
theorem dJ6_bitCount_0f7a4_46 : decode cJ6_bitCount_0f7a4 46 = .ok (.iadd, 1) := by decide +kernel
theorem dJ6_bitCount_0f7a4_47 : decode cJ6_bitCount_0f7a4 47 = .ok (.istore_n 0, 1) := by decide +kernel
theorem dJ6_bitCount_0f7a4_48 : decode cJ6_bitCount_0f7a4 48 = .ok (.iload_n 0, 1) := by decide +kernel
theorem dJ6_bitCount_0f7a4_49 : decode cJ6_bitCount_0f7a4 49 = .ok (.bipush 63, 2) := by decide +kernel
theorem dJ6_bitCount_0f7a4_51 : decode cJ6_bitCount_0f7a4 51 = .ok (.iand, 1) := by decide +kernel
theorem dJ6_bitCount_0f7a4_52 : decode cJ6_bitCount_0f7a4 52 = .ok (.ireturn, 1) := by decide +kernel
theorem dJ9_max_7cf53_0 : decode cJ9_max_7cf53 0 = .ok (.iload_n 0, 1) := by decide +kernel
theorem dJ9_max_7cf53_1 : decode cJ9_max_7cf53 1 = .ok (.iload_n 1, 1) := by decide +kernel
theorem dJ9_max_7cf53_2 : decode cJ9_max_7cf53 2 = .ok (.if_icmp .lt 7, 3) := by decide +kernel
theorem dJ9_max_7cf53_5 : decode cJ9_max_7cf53 5 = .ok (.iload_n 0, 1) := by decide +kernel
theorem dJ9_max_7cf53_6 : decode cJ9_max_7cf53 6 = .ok (.goto 4, 3) := by decide +kernel
theorem dJ9_max_7cf53_9 : decode cJ9_max_7cf53 9 = .ok (.iload_n 1, 1) := by decide +kernel
theorem dJ9_max_7cf53_10 : decode cJ9_max_7cf53 10 = .ok (.ireturn, 1) := by decide +kernel
theorem dJ9_min_7cf53_0 : decode cJ9_min_7cf53 0 = .ok (.iload_n 0, 1) := by decide +kernel
theorem dJ9_min_7cf53_1 : decode cJ9_min_7cf53 1 = .ok (.iload_n 1, 1) := by decide +kernel
theorem dJ9_min_7cf53_2 : decode cJ9_min_7cf53 2 = .ok (.if_icmp .gt 7, 3) := by decide +kernel
theorem dJ9_min_7cf53_5 : decode cJ9_min_7cf53 5 = .ok (.iload_n 0, 1) := by decide +kernel
theorem dJ9_min_7cf53_6 : decode cJ9_min_7cf53 6 = .ok (.goto 4, 3) := by decide +kernel
theorem dJ9_min_7cf53_9 : decode cJ9_min_7cf53 9 = .ok (.iload_n 1, 1) := by decide +kernel
theorem dJ9_min_7cf53_10 : decode cJ9_min_7cf53 10 = .ok (.ireturn, 1) := by decide +kernel
