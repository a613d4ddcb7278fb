theorem dX12_init_0 : decode cX12_init 0 = .ok (.aload_n 0, 1) := by decide +kernel
theorem dX12_init_1 : decode cX12_init 1 = .ok (.invokespecial 1, 3) := by decide +kernel
theorem dX12_init_4 : decode cX12_init 4 = .ok (.aload_n 0, 1) := by decide +kernel
theorem dX12_init_5 : decode cX12_init 5 = .ok (.bipush 47, 2) := by decide +kernel
theorem dX12_init_7 : decode cX12_init 7 = .ok (.newarray .int, 2) := by decide +kernel
theorem dX12_init_9 : decode cX12_init 9 = .ok (.putfield 9, 3) := by decide +kernel
theorem dX12_init_12 : decode cX12_init 12 = .ok (.aload_n 0, 1) := by decide +kernel
theorem dX12_init_13 : decode cX12_init 13 = .ok (.bipush 47, 2) := by decide +kernel
theorem dX12_init_15 : decode cX12_init 15 = .ok (.newarray .int, 2) := by decide +kernel
theorem dX12_init_17 : decode cX12_init 17 = .ok (.putfield 13, 3) := by decide +kernel
theorem dX12_init_20 : decode cX12_init 20 = .ok (.aload_n 0, 1) := by decide +kernel
theorem dX12_init_21 : decode cX12_init 21 = .ok (.bipush 47, 2) := by decide +kernel
theorem dX12_init_23 : decode cX12_init 23 = .ok (.newarray .int, 2) := by decide +kernel
theorem dX12_init_25 : decode cX12_init 25 = .ok (.putfield 16, 3) := by decide +kernel
theorem dX12_init_28 : decode cX12_init 28 = .ok (.aload_n 0, 1) := by decide +kernel
theorem dX12_init_29 : decode cX12_init 29 = .ok (.bipush 8, 2) := by decide +kernel
theorem dX12_init_31 : decode cX12_init 31 = .ok (.newarray .int, 2) := by decide +kernel
theorem dX12_init_33 : decode cX12_init 33 = .ok (.putfield 19, 3) := by decide +kernel
theorem dX12_init_36 : decode cX12_init 36 = .ok (.aload_n 0, 1) := by decide +kernel
theorem dX12_init_37 : decode cX12_init 37 = .ok (.bipush 8, 2) := by decide +kernel
theorem dX12_init_39 : decode cX12_init 39 = .ok (.newarray .int, 2) := by decide +kernel
theorem dX12_init_41 : decode cX12_init 41 = .ok (.putfield 22, 3) := by decide +kernel
theorem dX12_init_44 : decode cX12_init 44 = .ok (.aload_n 0, 1) := by decide +kernel
theorem dX12_init_45 : decode cX12_init 45 = .ok (.bipush 8, 2) := by decide +kernel
theorem dX12_init_47 : decode cX12_init 47 = .ok (.newarray .int, 2) := by decide +kernel
theorem dX12_init_49 : decode cX12_init 49 = .ok (.putfield 25, 3) := by decide +kernel
theorem dX12_init_52 : decode cX12_init 52 = .ok (.aload_n 0, 1) := by decide +kernel
theorem dX12_init_53 : decode cX12_init 53 = .ok (.sipush 800, 3) := by decide +kernel
theorem dX12_init_56 : decode cX12_init 56 = .ok (.newarray .int, 2) := by decide +kernel
theorem dX12_init_58 : decode cX12_init 58 = .ok (.putfield 28, 3) := by decide +kernel
theorem dX12_init_61 : decode cX12_init 61 = .ok (.aload_n 0, 1) := by decide +kernel
theorem dX12_init_62 : decode cX12_init 62 = .ok (.bipush 8, 2) := by decide +kernel
theorem dX12_init_64 : decode cX12_init 64 = .ok (.newarray .int, 2) := by decide +kernel
theorem dX12_init_66 : decode cX12_init 66 = .ok (.putfield 31, 3) := by decide +kernel
theorem dX12_init_69 : decode cX12_init 69 = .ok (.aload_n 0, 1) := by decide +kernel
theorem dX12_init_70 : decode cX12_init 70 = .ok (.bipush 8, 2) := by decide +kernel
theorem dX12_init_72 : decode cX12_init 72 = .ok (.newarray .int, 2) := by decide +kernel
theorem dX12_init_74 : decode cX12_init 74 = .ok (.putfield 34, 3) := by decide +kernel
theorem dX12_init_77 : decode cX12_init 77 = .ok (.aload_n 0, 1) := by decide +kernel
theorem dX12_init_78 : decode cX12_init 78 = .ok (.iconst 3, 1) := by decide +kernel
theorem dX12_init_79 : decode cX12_init 79 = .ok (.newarray .int, 2) := by decide +kernel
theorem dX12_init_81 : decode cX12_init 81 = .ok (.putfield 37, 3) := by decide +kernel
theorem dX12_init_84 : decode cX12_init 84 = .ok (.aload_n 0, 1) := by decide +kernel
theorem dX12_init_85 : decode cX12_init 85 = .ok (.bipush 16, 2) := by decide +kernel
theorem dX12_init_87 : decode cX12_init 87 = .ok (.newarray .int, 2) := by decide +kernel
theorem dX12_init_89 : decode cX12_init 89 = .ok (.putfield 40, 3) := by decide +kernel
theorem dX12_init_92 : decode cX12_init 92 = .ok (.aload_n 0, 1) := by decide +kernel
theorem dX12_init_93 : decode cX12_init 93 = .ok (.bipush 16, 2) := by decide +kernel
theorem dX12_init_95 : decode cX12_init 95 = .ok (.newarray .int, 2) := by decide +kernel
theorem dX12_init_97 : decode cX12_init 97 = .ok (.putfield 43, 3) := by decide +kernel
theorem dX12_init_100 : decode cX12_init 100 = .ok (.aload_n 0, 1) := by decide +kernel
theorem dX12_init_101 : decode cX12_init 101 = .ok (.bipush 16, 2) := by decide +kernel
theorem dX12_init_103 : decode cX12_init 103 = .ok (.newarray .int, 2) := by decide +kernel
theorem dX12_init_105 : decode cX12_init 105 = .ok (.putfield 46, 3) := by decide +kernel
theorem dX12_init_108 : decode cX12_init 108 = .ok (.aload_n 0, 1) := by decide +kernel
theorem dX12_init_109 : decode cX12_init 109 = .ok (.bipush 16, 2) := by decide +kernel
theorem dX12_init_111 : decode cX12_init 111 = .ok (.newarray .int, 2) := by decide +kernel
theorem dX12_init_113 : decode cX12_init 113 = .ok (.putfield 49, 3) := by decide +kernel
theorem dX12_init_116 : decode cX12_init 116 = .ok (.aload_n 0, 1) := by decide +kernel
theorem dX12_init_117 : decode cX12_init 117 = .ok (.bipush 16, 2) := by decide +kernel
theorem dX12_init_119 : decode cX12_init 119 = .ok (.newarray .int, 2) := by decide +kernel
theorem dX12_init_121 : decode cX12_init 121 = .ok (.putfield 52, 3) := by decide +kernel
theorem dX12_init_124 : decode cX12_init 124 = .ok (.aload_n 0, 1) := by decide +kernel
theorem dX12_init_125 : decode cX12_init 125 = .ok (.iconst 5, 1) := by decide +kernel
theorem dX12_init_126 : decode cX12_init 126 = .ok (.newarray .int, 2) := by decide +kernel
theorem dX12_init_128 : decode cX12_init 128 = .ok (.putfield 55, 3) := by decide +kernel
theorem dX12_init_131 : decode cX12_init 131 = .ok (.aload_n 0, 1) := by decide +kernel
theorem dX12_init_132 : decode cX12_init 132 = .ok (.bipush 16, 2) := by decide +kernel
theorem dX12_init_134 : decode cX12_init 134 = .ok (.newarray .int, 2) := by decide +kernel
theorem dX12_init_136 : decode cX12_init 136 = .ok (.putfield 58, 3) := by decide +kernel
theorem dX12_init_139 : decode cX12_init 139 = .ok (.aload_n 0, 1) := by decide +kernel
theorem dX12_init_140 : decode cX12_init 140 = .ok (.getfield 9, 3) := by decide +kernel
theorem dX12_init_143 : decode cX12_init 143 = .ok (.iconst 1, 1) := by decide +kernel
theorem dX12_init_144 : decode cX12_init 144 = .ok (.bipush 100, 2) := by decide +kernel
theorem dX12_init_146 : decode cX12_init 146 = .ok (.iastore, 1) := by decide +kernel
theorem dX12_init_147 : decode cX12_init 147 = .ok (.aload_n 0, 1) := by decide +kernel
theorem dX12_init_148 : decode cX12_init 148 = .ok (.getfield 9, 3) := by decide +kernel
theorem dX12_init_151 : decode cX12_init 151 = .ok (.iconst 4, 1) := by decide +kernel
theorem dX12_init_152 : decode cX12_init 152 = .ok (.bipush 10, 2) := by decide +kernel
theorem dX12_init_154 : decode cX12_init 154 = .ok (.iastore, 1) := by decide +kernel
theorem dX12_init_155 : decode cX12_init 155 = .ok (.return_, 1) := by decide +kernel
theorem dX12_thrown_0 : decode cX12_thrown 0 = .ok (.aload_n 0, 1) := by decide +kernel
theorem dX12_thrown_1 : decode cX12_thrown 1 = .ok (.getfield 61, 3) := by decide +kernel
theorem dX12_thrown_4 : decode cX12_thrown 4 = .ok (.ireturn, 1) := by decide +kernel
theorem dX12_isIn_0 : decode cX12_isIn 0 = .ok (.lload_n 0, 1) := by decide +kernel
theorem dX12_isIn_1 : decode cX12_isIn 1 = .ok (.lload_n 2, 1) := by decide +kernel
theorem dX12_isIn_2 : decode cX12_isIn 2 = .ok (.lcmp, 1) := by decide +kernel
theorem dX12_isIn_3 : decode cX12_isIn 3 = .ok (.ifCond .lt 14, 3) := by decide +kernel
theorem dX12_isIn_6 : decode cX12_isIn 6 = .ok (.lload_n 0, 1) := by decide +kernel
theorem dX12_isIn_7 : decode cX12_isIn 7 = .ok (.lload 4, 2) := by decide +kernel
theorem dX12_isIn_9 : decode cX12_isIn 9 = .ok (.lcmp, 1) := by decide +kernel
theorem dX12_isIn_10 : decode cX12_isIn 10 = .ok (.ifCond .gt 7, 3) := by decide +kernel
theorem dX12_isIn_13 : decode cX12_isIn 13 = .ok (.iconst 1, 1) := by decide +kernel
theorem dX12_isIn_14 : decode cX12_isIn 14 = .ok (.goto 4, 3) := by decide +kernel
theorem dX12_isIn_17 : decode cX12_isIn 17 = .ok (.iconst 0, 1) := by decide +kernel
theorem dX12_isIn_18 : decode cX12_isIn 18 = .ok (.ireturn, 1) := by decide +kernel
theorem dX12_isDeed_0 : decode cX12_isDeed 0 = .ok (.iload_n 1, 1) := by decide +kernel
theorem dX12_isDeed_1 : decode cX12_isDeed 1 = .ok (.i2l, 1) := by decide +kernel
theorem dX12_isDeed_2 : decode cX12_isDeed 2 = .ok (.lconst 0, 1) := by decide +kernel
theorem dX12_isDeed_3 : decode cX12_isDeed 3 = .ok (.aload_n 0, 1) := by decide +kernel
theorem dX12_isDeed_4 : decode cX12_isDeed 4 = .ok (.getfield 9, 3) := by decide +kernel
theorem dX12_isDeed_7 : decode cX12_isDeed 7 = .ok (.bipush 6, 2) := by decide +kernel
theorem dX12_isDeed_9 : decode cX12_isDeed 9 = .ok (.iaload, 1) := by decide +kernel
theorem dX12_isDeed_10 : decode cX12_isDeed 10 = .ok (.iconst 1, 1) := by decide +kernel
theorem dX12_isDeed_11 : decode cX12_isDeed 11 = .ok (.isub, 1) := by decide +kernel
theorem dX12_isDeed_12 : decode cX12_isDeed 12 = .ok (.i2l, 1) := by decide +kernel
theorem dX12_isDeed_13 : decode cX12_isDeed 13 = .ok (.invokestatic 65, 3) := by decide +kernel
theorem dX12_isDeed_16 : decode cX12_isDeed 16 = .ok (.ireturn, 1) := by decide +kernel
theorem dX12_isShelf_0 : decode cX12_isShelf 0 = .ok (.iload_n 0, 1) := by decide +kernel
theorem dX12_isShelf_1 : decode cX12_isShelf 1 = .ok (.i2l, 1) := by decide +kernel
theorem dX12_isShelf_2 : decode cX12_isShelf 2 = .ok (.lconst 0, 1) := by decide +kernel
theorem dX12_isShelf_3 : decode cX12_isShelf 3 = .ok (.ldc2_w 69, 3) := by decide +kernel
theorem dX12_isShelf_6 : decode cX12_isShelf 6 = .ok (.invokestatic 65, 3) := by decide +kernel
theorem dX12_isShelf_9 : decode cX12_isShelf 9 = .ok (.ireturn, 1) := by decide +kernel
theorem dX12_isMark_0 : decode cX12_isMark 0 = .ok (.iload_n 0, 1) := by decide +kernel
theorem dX12_isMark_1 : decode cX12_isMark 1 = .ok (.i2l, 1) := by decide +kernel
theorem dX12_isMark_2 : decode cX12_isMark 2 = .ok (.lconst 0, 1) := by decide +kernel
theorem dX12_isMark_3 : decode cX12_isMark 3 = .ok (.ldc2_w 71, 3) := by decide +kernel
theorem dX12_isMark_6 : decode cX12_isMark 6 = .ok (.invokestatic 65, 3) := by decide +kernel
theorem dX12_isMark_9 : decode cX12_isMark 9 = .ok (.ireturn, 1) := by decide +kernel
theorem dX12_get_0 : decode cX12_get 0 = .ok (.aload_n 0, 1) := by decide +kernel
theorem dX12_get_1 : decode cX12_get 1 = .ok (.getfield 9, 3) := by decide +kernel
theorem dX12_get_4 : decode cX12_get 4 = .ok (.bipush 7, 2) := by decide +kernel
theorem dX12_get_6 : decode cX12_get 6 = .ok (.iconst 5, 1) := by decide +kernel
theorem dX12_get_7 : decode cX12_get 7 = .ok (.iload_n 1, 1) := by decide +kernel
theorem dX12_get_8 : decode cX12_get 8 = .ok (.imul, 1) := by decide +kernel
theorem dX12_get_9 : decode cX12_get 9 = .ok (.iadd, 1) := by decide +kernel
theorem dX12_get_10 : decode cX12_get 10 = .ok (.iload_n 2, 1) := by decide +kernel
theorem dX12_get_11 : decode cX12_get 11 = .ok (.iadd, 1) := by decide +kernel
theorem dX12_get_12 : decode cX12_get 12 = .ok (.iaload, 1) := by decide +kernel
theorem dX12_get_13 : decode cX12_get 13 = .ok (.ireturn, 1) := by decide +kernel
theorem dX12_bits_0 : decode cX12_bits 0 = .ok (.iconst 0, 1) := by decide +kernel
theorem dX12_bits_1 : decode cX12_bits 1 = .ok (.istore_n 1, 1) := by decide +kernel
theorem dX12_bits_2 : decode cX12_bits 2 = .ok (.iload_n 0, 1) := by decide +kernel
theorem dX12_bits_3 : decode cX12_bits 3 = .ok (.istore_n 2, 1) := by decide +kernel
theorem dX12_bits_4 : decode cX12_bits 4 = .ok (.iload_n 2, 1) := by decide +kernel
theorem dX12_bits_5 : decode cX12_bits 5 = .ok (.ifCond .le 16, 3) := by decide +kernel
theorem dX12_bits_8 : decode cX12_bits 8 = .ok (.iload_n 1, 1) := by decide +kernel
theorem dX12_bits_9 : decode cX12_bits 9 = .ok (.iload_n 2, 1) := by decide +kernel
theorem dX12_bits_10 : decode cX12_bits 10 = .ok (.iconst 1, 1) := by decide +kernel
theorem dX12_bits_11 : decode cX12_bits 11 = .ok (.iand, 1) := by decide +kernel
theorem dX12_bits_12 : decode cX12_bits 12 = .ok (.iadd, 1) := by decide +kernel
theorem dX12_bits_13 : decode cX12_bits 13 = .ok (.istore_n 1, 1) := by decide +kernel
theorem dX12_bits_14 : decode cX12_bits 14 = .ok (.iload_n 2, 1) := by decide +kernel
theorem dX12_bits_15 : decode cX12_bits 15 = .ok (.iconst 1, 1) := by decide +kernel
theorem dX12_bits_16 : decode cX12_bits 16 = .ok (.ishr, 1) := by decide +kernel
theorem dX12_bits_17 : decode cX12_bits 17 = .ok (.istore_n 2, 1) := by decide +kernel
theorem dX12_bits_18 : decode cX12_bits 18 = .ok (.goto (-14), 3) := by decide +kernel
theorem dX12_bits_21 : decode cX12_bits 21 = .ok (.iload_n 1, 1) := by decide +kernel
theorem dX12_bits_22 : decode cX12_bits 22 = .ok (.ireturn, 1) := by decide +kernel
theorem dX12_here_0 : decode cX12_here 0 = .ok (.aload_n 0, 1) := by decide +kernel
theorem dX12_here_1 : decode cX12_here 1 = .ok (.getfield 73, 3) := by decide +kernel
theorem dX12_here_4 : decode cX12_here 4 = .ok (.aload_n 0, 1) := by decide +kernel
theorem dX12_here_5 : decode cX12_here 5 = .ok (.getfield 76, 3) := by decide +kernel
theorem dX12_here_8 : decode cX12_here 8 = .ok (.if_icmp .ge 20, 3) := by decide +kernel
theorem dX12_here_11 : decode cX12_here 11 = .ok (.aload_n 0, 1) := by decide +kernel
theorem dX12_here_12 : decode cX12_here 12 = .ok (.getfield 28, 3) := by decide +kernel
theorem dX12_here_15 : decode cX12_here 15 = .ok (.aload_n 0, 1) := by decide +kernel
theorem dX12_here_16 : decode cX12_here 16 = .ok (.getfield 79, 3) := by decide +kernel
theorem dX12_here_19 : decode cX12_here 19 = .ok (.aload_n 0, 1) := by decide +kernel
theorem dX12_here_20 : decode cX12_here 20 = .ok (.getfield 73, 3) := by decide +kernel
theorem dX12_here_23 : decode cX12_here 23 = .ok (.iadd, 1) := by decide +kernel
theorem dX12_here_24 : decode cX12_here 24 = .ok (.iaload, 1) := by decide +kernel
theorem dX12_here_25 : decode cX12_here 25 = .ok (.goto 6, 3) := by decide +kernel
theorem dX12_here_28 : decode cX12_here 28 = .ok (.sipush (-1000), 3) := by decide +kernel
theorem dX12_here_31 : decode cX12_here 31 = .ok (.ireturn, 1) := by decide +kernel
theorem dX12_isDigit_0 : decode cX12_isDigit 0 = .ok (.aload_n 0, 1) := by decide +kernel
theorem dX12_isDigit_1 : decode cX12_isDigit 1 = .ok (.invokevirtual 82, 3) := by decide +kernel
theorem dX12_isDigit_4 : decode cX12_isDigit 4 = .ok (.i2l, 1) := by decide +kernel
theorem dX12_isDigit_5 : decode cX12_isDigit 5 = .ok (.ldc2_w 86, 3) := by decide +kernel
theorem dX12_isDigit_8 : decode cX12_isDigit 8 = .ok (.ldc2_w 88, 3) := by decide +kernel
theorem dX12_isDigit_11 : decode cX12_isDigit 11 = .ok (.invokestatic 65, 3) := by decide +kernel
theorem dX12_isDigit_14 : decode cX12_isDigit 14 = .ok (.ireturn, 1) := by decide +kernel
theorem dX12_takes_0 : decode cX12_takes 0 = .ok (.aload_n 0, 1) := by decide +kernel
theorem dX12_takes_1 : decode cX12_takes 1 = .ok (.invokevirtual 82, 3) := by decide +kernel
theorem dX12_takes_4 : decode cX12_takes 4 = .ok (.iload_n 1, 1) := by decide +kernel
theorem dX12_takes_5 : decode cX12_takes 5 = .ok (.if_icmp .eq 5, 3) := by decide +kernel
theorem dX12_takes_8 : decode cX12_takes 8 = .ok (.iconst 0, 1) := by decide +kernel
theorem dX12_takes_9 : decode cX12_takes 9 = .ok (.ireturn, 1) := by decide +kernel
theorem dX12_takes_10 : decode cX12_takes 10 = .ok (.aload_n 0, 1) := by decide +kernel
theorem dX12_takes_11 : decode cX12_takes 11 = .ok (.dup, 1) := by decide +kernel
theorem dX12_takes_12 : decode cX12_takes 12 = .ok (.getfield 73, 3) := by decide +kernel
theorem dX12_takes_15 : decode cX12_takes 15 = .ok (.iconst 1, 1) := by decide +kernel
theorem dX12_takes_16 : decode cX12_takes 16 = .ok (.iadd, 1) := by decide +kernel
theorem dX12_takes_17 : decode cX12_takes 17 = .ok (.putfield 73, 3) := by decide +kernel
theorem dX12_takes_20 : decode cX12_takes 20 = .ok (.iconst 1, 1) := by decide +kernel
theorem dX12_takes_21 : decode cX12_takes 21 = .ok (.ireturn, 1) := by decide +kernel
theorem dX12_readsNumber_0 : decode cX12_readsNumber 0 = .ok (.aload_n 0, 1) := by decide +kernel
theorem dX12_readsNumber_1 : decode cX12_readsNumber 1 = .ok (.invokevirtual 90, 3) := by decide +kernel
theorem dX12_readsNumber_4 : decode cX12_readsNumber 4 = .ok (.ifCond .ne 5, 3) := by decide +kernel
theorem dX12_readsNumber_7 : decode cX12_readsNumber 7 = .ok (.iconst 0, 1) := by decide +kernel
theorem dX12_readsNumber_8 : decode cX12_readsNumber 8 = .ok (.ireturn, 1) := by decide +kernel
theorem dX12_readsNumber_9 : decode cX12_readsNumber 9 = .ok (.aload_n 0, 1) := by decide +kernel
theorem dX12_readsNumber_10 : decode cX12_readsNumber 10 = .ok (.invokevirtual 82, 3) := by decide +kernel
theorem dX12_readsNumber_13 : decode cX12_readsNumber 13 = .ok (.bipush 48, 2) := by decide +kernel
theorem dX12_readsNumber_15 : decode cX12_readsNumber 15 = .ok (.isub, 1) := by decide +kernel
theorem dX12_readsNumber_16 : decode cX12_readsNumber 16 = .ok (.istore_n 2, 1) := by decide +kernel
theorem dX12_readsNumber_17 : decode cX12_readsNumber 17 = .ok (.aload_n 0, 1) := by decide +kernel
theorem dX12_readsNumber_18 : decode cX12_readsNumber 18 = .ok (.dup, 1) := by decide +kernel
theorem dX12_readsNumber_19 : decode cX12_readsNumber 19 = .ok (.getfield 73, 3) := by decide +kernel
theorem dX12_readsNumber_22 : decode cX12_readsNumber 22 = .ok (.iconst 1, 1) := by decide +kernel
theorem dX12_readsNumber_23 : decode cX12_readsNumber 23 = .ok (.iadd, 1) := by decide +kernel
theorem dX12_readsNumber_24 : decode cX12_readsNumber 24 = .ok (.putfield 73, 3) := by decide +kernel
theorem dX12_readsNumber_27 : decode cX12_readsNumber 27 = .ok (.iconst 1, 1) := by decide +kernel
theorem dX12_readsNumber_28 : decode cX12_readsNumber 28 = .ok (.istore_n 3, 1) := by decide +kernel
theorem dX12_readsNumber_29 : decode cX12_readsNumber 29 = .ok (.iload_n 3, 1) := by decide +kernel
theorem dX12_readsNumber_30 : decode cX12_readsNumber 30 = .ok (.iload_n 1, 1) := by decide +kernel
theorem dX12_readsNumber_31 : decode cX12_readsNumber 31 = .ok (.if_icmp .ge 43, 3) := by decide +kernel
theorem dX12_readsNumber_34 : decode cX12_readsNumber 34 = .ok (.iload_n 2, 1) := by decide +kernel
theorem dX12_readsNumber_35 : decode cX12_readsNumber 35 = .ok (.ifCond .le 39, 3) := by decide +kernel
theorem dX12_readsNumber_38 : decode cX12_readsNumber 38 = .ok (.aload_n 0, 1) := by decide +kernel
theorem dX12_readsNumber_39 : decode cX12_readsNumber 39 = .ok (.invokevirtual 90, 3) := by decide +kernel
theorem dX12_readsNumber_42 : decode cX12_readsNumber 42 = .ok (.ifCond .eq 32, 3) := by decide +kernel
theorem dX12_readsNumber_45 : decode cX12_readsNumber 45 = .ok (.bipush 10, 2) := by decide +kernel
theorem dX12_readsNumber_47 : decode cX12_readsNumber 47 = .ok (.iload_n 2, 1) := by decide +kernel
theorem dX12_readsNumber_48 : decode cX12_readsNumber 48 = .ok (.imul, 1) := by decide +kernel
theorem dX12_readsNumber_49 : decode cX12_readsNumber 49 = .ok (.aload_n 0, 1) := by decide +kernel
theorem dX12_readsNumber_50 : decode cX12_readsNumber 50 = .ok (.invokevirtual 82, 3) := by decide +kernel
theorem dX12_readsNumber_53 : decode cX12_readsNumber 53 = .ok (.iadd, 1) := by decide +kernel
theorem dX12_readsNumber_54 : decode cX12_readsNumber 54 = .ok (.bipush 48, 2) := by decide +kernel
theorem dX12_readsNumber_56 : decode cX12_readsNumber 56 = .ok (.isub, 1) := by decide +kernel
theorem dX12_readsNumber_57 : decode cX12_readsNumber 57 = .ok (.istore_n 2, 1) := by decide +kernel
theorem dX12_readsNumber_58 : decode cX12_readsNumber 58 = .ok (.aload_n 0, 1) := by decide +kernel
theorem dX12_readsNumber_59 : decode cX12_readsNumber 59 = .ok (.dup, 1) := by decide +kernel
theorem dX12_readsNumber_60 : decode cX12_readsNumber 60 = .ok (.getfield 73, 3) := by decide +kernel
theorem dX12_readsNumber_63 : decode cX12_readsNumber 63 = .ok (.iconst 1, 1) := by decide +kernel
theorem dX12_readsNumber_64 : decode cX12_readsNumber 64 = .ok (.iadd, 1) := by decide +kernel
theorem dX12_readsNumber_65 : decode cX12_readsNumber 65 = .ok (.putfield 73, 3) := by decide +kernel
theorem dX12_readsNumber_68 : decode cX12_readsNumber 68 = .ok (.iinc 3 1, 3) := by decide +kernel
theorem dX12_readsNumber_71 : decode cX12_readsNumber 71 = .ok (.goto (-42), 3) := by decide +kernel
theorem dX12_readsNumber_74 : decode cX12_readsNumber 74 = .ok (.aload_n 0, 1) := by decide +kernel
theorem dX12_readsNumber_75 : decode cX12_readsNumber 75 = .ok (.getfield 37, 3) := by decide +kernel
theorem dX12_readsNumber_78 : decode cX12_readsNumber 78 = .ok (.aload_n 0, 1) := by decide +kernel
theorem dX12_readsNumber_79 : decode cX12_readsNumber 79 = .ok (.getfield 94, 3) := by decide +kernel
theorem dX12_readsNumber_82 : decode cX12_readsNumber 82 = .ok (.iload_n 2, 1) := by decide +kernel
theorem dX12_readsNumber_83 : decode cX12_readsNumber 83 = .ok (.iastore, 1) := by decide +kernel
theorem dX12_readsNumber_84 : decode cX12_readsNumber 84 = .ok (.aload_n 0, 1) := by decide +kernel
theorem dX12_readsNumber_85 : decode cX12_readsNumber 85 = .ok (.dup, 1) := by decide +kernel
theorem dX12_readsNumber_86 : decode cX12_readsNumber 86 = .ok (.getfield 94, 3) := by decide +kernel
theorem dX12_readsNumber_89 : decode cX12_readsNumber 89 = .ok (.iconst 1, 1) := by decide +kernel
theorem dX12_readsNumber_90 : decode cX12_readsNumber 90 = .ok (.iadd, 1) := by decide +kernel
theorem dX12_readsNumber_91 : decode cX12_readsNumber 91 = .ok (.putfield 94, 3) := by decide +kernel
theorem dX12_readsNumber_94 : decode cX12_readsNumber 94 = .ok (.iconst 1, 1) := by decide +kernel
theorem dX12_readsNumber_95 : decode cX12_readsNumber 95 = .ok (.ireturn, 1) := by decide +kernel
theorem dX12_readsMark_0 : decode cX12_readsMark 0 = .ok (.aload_n 0, 1) := by decide +kernel
theorem dX12_readsMark_1 : decode cX12_readsMark 1 = .ok (.invokevirtual 82, 3) := by decide +kernel
theorem dX12_readsMark_4 : decode cX12_readsMark 4 = .ok (.i2l, 1) := by decide +kernel
theorem dX12_readsMark_5 : decode cX12_readsMark 5 = .ok (.ldc2_w 97, 3) := by decide +kernel
theorem dX12_readsMark_8 : decode cX12_readsMark 8 = .ok (.ldc2_w 99, 3) := by decide +kernel
theorem dX12_readsMark_11 : decode cX12_readsMark 11 = .ok (.invokestatic 65, 3) := by decide +kernel
theorem dX12_readsMark_14 : decode cX12_readsMark 14 = .ok (.ifCond .ne 5, 3) := by decide +kernel
theorem dX12_readsMark_17 : decode cX12_readsMark 17 = .ok (.iconst 0, 1) := by decide +kernel
theorem dX12_readsMark_18 : decode cX12_readsMark 18 = .ok (.ireturn, 1) := by decide +kernel
theorem dX12_readsMark_19 : decode cX12_readsMark 19 = .ok (.aload_n 0, 1) := by decide +kernel
theorem dX12_readsMark_20 : decode cX12_readsMark 20 = .ok (.getfield 37, 3) := by decide +kernel
theorem dX12_readsMark_23 : decode cX12_readsMark 23 = .ok (.aload_n 0, 1) := by decide +kernel
theorem dX12_readsMark_24 : decode cX12_readsMark 24 = .ok (.getfield 94, 3) := by decide +kernel
theorem dX12_readsMark_27 : decode cX12_readsMark 27 = .ok (.aload_n 0, 1) := by decide +kernel
theorem dX12_readsMark_28 : decode cX12_readsMark 28 = .ok (.invokevirtual 82, 3) := by decide +kernel
theorem dX12_readsMark_31 : decode cX12_readsMark 31 = .ok (.bipush 97, 2) := by decide +kernel
theorem dX12_readsMark_33 : decode cX12_readsMark 33 = .ok (.isub, 1) := by decide +kernel
theorem dX12_readsMark_34 : decode cX12_readsMark 34 = .ok (.iastore, 1) := by decide +kernel
theorem dX12_readsMark_35 : decode cX12_readsMark 35 = .ok (.aload_n 0, 1) := by decide +kernel
theorem dX12_readsMark_36 : decode cX12_readsMark 36 = .ok (.dup, 1) := by decide +kernel
theorem dX12_readsMark_37 : decode cX12_readsMark 37 = .ok (.getfield 94, 3) := by decide +kernel
theorem dX12_readsMark_40 : decode cX12_readsMark 40 = .ok (.iconst 1, 1) := by decide +kernel
theorem dX12_readsMark_41 : decode cX12_readsMark 41 = .ok (.iadd, 1) := by decide +kernel
theorem dX12_readsMark_42 : decode cX12_readsMark 42 = .ok (.putfield 94, 3) := by decide +kernel
theorem dX12_readsMark_45 : decode cX12_readsMark 45 = .ok (.aload_n 0, 1) := by decide +kernel
theorem dX12_readsMark_46 : decode cX12_readsMark 46 = .ok (.dup, 1) := by decide +kernel
theorem dX12_readsMark_47 : decode cX12_readsMark 47 = .ok (.getfield 73, 3) := by decide +kernel
theorem dX12_readsMark_50 : decode cX12_readsMark 50 = .ok (.iconst 1, 1) := by decide +kernel
theorem dX12_readsMark_51 : decode cX12_readsMark 51 = .ok (.iadd, 1) := by decide +kernel
theorem dX12_readsMark_52 : decode cX12_readsMark 52 = .ok (.putfield 73, 3) := by decide +kernel
theorem dX12_readsMark_55 : decode cX12_readsMark 55 = .ok (.iconst 1, 1) := by decide +kernel
theorem dX12_readsMark_56 : decode cX12_readsMark 56 = .ok (.ireturn, 1) := by decide +kernel
theorem dX12_readsDeed_0 : decode cX12_readsDeed 0 = .ok (.aload_n 0, 1) := by decide +kernel
theorem dX12_readsDeed_1 : decode cX12_readsDeed 1 = .ok (.iconst 1, 1) := by decide +kernel
theorem dX12_readsDeed_2 : decode cX12_readsDeed 2 = .ok (.invokevirtual 101, 3) := by decide +kernel
theorem dX12_readsDeed_5 : decode cX12_readsDeed 5 = .ok (.ifCond .ne 5, 3) := by decide +kernel
theorem dX12_readsDeed_8 : decode cX12_readsDeed 8 = .ok (.iconst 0, 1) := by decide +kernel
theorem dX12_readsDeed_9 : decode cX12_readsDeed 9 = .ok (.ireturn, 1) := by decide +kernel
theorem dX12_readsDeed_10 : decode cX12_readsDeed 10 = .ok (.aload_n 0, 1) := by decide +kernel
theorem dX12_readsDeed_11 : decode cX12_readsDeed 11 = .ok (.aload_n 0, 1) := by decide +kernel
theorem dX12_readsDeed_12 : decode cX12_readsDeed 12 = .ok (.getfield 37, 3) := by decide +kernel
theorem dX12_readsDeed_15 : decode cX12_readsDeed 15 = .ok (.iconst 0, 1) := by decide +kernel
theorem dX12_readsDeed_16 : decode cX12_readsDeed 16 = .ok (.iaload, 1) := by decide +kernel
theorem dX12_readsDeed_17 : decode cX12_readsDeed 17 = .ok (.putfield 105, 3) := by decide +kernel
theorem dX12_readsDeed_20 : decode cX12_readsDeed 20 = .ok (.aload_n 0, 1) := by decide +kernel
theorem dX12_readsDeed_21 : decode cX12_readsDeed 21 = .ok (.iconst 0, 1) := by decide +kernel
theorem dX12_readsDeed_22 : decode cX12_readsDeed 22 = .ok (.putfield 108, 3) := by decide +kernel
theorem dX12_readsDeed_25 : decode cX12_readsDeed 25 = .ok (.iconst (-1), 1) := by decide +kernel
theorem dX12_readsDeed_26 : decode cX12_readsDeed 26 = .ok (.istore_n 1, 1) := by decide +kernel
theorem dX12_readsDeed_27 : decode cX12_readsDeed 27 = .ok (.aload_n 0, 1) := by decide +kernel
theorem dX12_readsDeed_28 : decode cX12_readsDeed 28 = .ok (.invokevirtual 82, 3) := by decide +kernel
theorem dX12_readsDeed_31 : decode cX12_readsDeed 31 = .ok (.i2l, 1) := by decide +kernel
theorem dX12_readsDeed_32 : decode cX12_readsDeed 32 = .ok (.bipush 97, 2) := by decide +kernel
theorem dX12_readsDeed_34 : decode cX12_readsDeed 34 = .ok (.iload_n 1, 1) := by decide +kernel
theorem dX12_readsDeed_35 : decode cX12_readsDeed 35 = .ok (.iadd, 1) := by decide +kernel
theorem dX12_readsDeed_36 : decode cX12_readsDeed 36 = .ok (.iconst 1, 1) := by decide +kernel
theorem dX12_readsDeed_37 : decode cX12_readsDeed 37 = .ok (.iadd, 1) := by decide +kernel
theorem dX12_readsDeed_38 : decode cX12_readsDeed 38 = .ok (.i2l, 1) := by decide +kernel
theorem dX12_readsDeed_39 : decode cX12_readsDeed 39 = .ok (.ldc2_w 99, 3) := by decide +kernel
theorem dX12_readsDeed_42 : decode cX12_readsDeed 42 = .ok (.invokestatic 65, 3) := by decide +kernel
theorem dX12_readsDeed_45 : decode cX12_readsDeed 45 = .ok (.ifCond .eq 36, 3) := by decide +kernel
theorem dX12_readsDeed_48 : decode cX12_readsDeed 48 = .ok (.aload_n 0, 1) := by decide +kernel
theorem dX12_readsDeed_49 : decode cX12_readsDeed 49 = .ok (.invokevirtual 82, 3) := by decide +kernel
theorem dX12_readsDeed_52 : decode cX12_readsDeed 52 = .ok (.bipush 97, 2) := by decide +kernel
theorem dX12_readsDeed_54 : decode cX12_readsDeed 54 = .ok (.isub, 1) := by decide +kernel
theorem dX12_readsDeed_55 : decode cX12_readsDeed 55 = .ok (.istore_n 1, 1) := by decide +kernel
theorem dX12_readsDeed_56 : decode cX12_readsDeed 56 = .ok (.aload_n 0, 1) := by decide +kernel
theorem dX12_readsDeed_57 : decode cX12_readsDeed 57 = .ok (.dup, 1) := by decide +kernel
theorem dX12_readsDeed_58 : decode cX12_readsDeed 58 = .ok (.getfield 108, 3) := by decide +kernel
theorem dX12_readsDeed_61 : decode cX12_readsDeed 61 = .ok (.iconst 1, 1) := by decide +kernel
theorem dX12_readsDeed_62 : decode cX12_readsDeed 62 = .ok (.iload_n 1, 1) := by decide +kernel
theorem dX12_readsDeed_63 : decode cX12_readsDeed 63 = .ok (.ishl, 1) := by decide +kernel
theorem dX12_readsDeed_64 : decode cX12_readsDeed 64 = .ok (.ior, 1) := by decide +kernel
theorem dX12_readsDeed_65 : decode cX12_readsDeed 65 = .ok (.putfield 108, 3) := by decide +kernel
theorem dX12_readsDeed_68 : decode cX12_readsDeed 68 = .ok (.aload_n 0, 1) := by decide +kernel
theorem dX12_readsDeed_69 : decode cX12_readsDeed 69 = .ok (.dup, 1) := by decide +kernel
theorem dX12_readsDeed_70 : decode cX12_readsDeed 70 = .ok (.getfield 73, 3) := by decide +kernel
theorem dX12_readsDeed_73 : decode cX12_readsDeed 73 = .ok (.iconst 1, 1) := by decide +kernel
theorem dX12_readsDeed_74 : decode cX12_readsDeed 74 = .ok (.iadd, 1) := by decide +kernel
theorem dX12_readsDeed_75 : decode cX12_readsDeed 75 = .ok (.putfield 73, 3) := by decide +kernel
theorem dX12_readsDeed_78 : decode cX12_readsDeed 78 = .ok (.goto (-51), 3) := by decide +kernel
theorem dX12_readsDeed_81 : decode cX12_readsDeed 81 = .ok (.aload_n 0, 1) := by decide +kernel
theorem dX12_readsDeed_82 : decode cX12_readsDeed 82 = .ok (.iconst 0, 1) := by decide +kernel
theorem dX12_readsDeed_83 : decode cX12_readsDeed 83 = .ok (.putfield 94, 3) := by decide +kernel
theorem dX12_readsDeed_86 : decode cX12_readsDeed 86 = .ok (.aload_n 0, 1) := by decide +kernel
theorem dX12_readsDeed_87 : decode cX12_readsDeed 87 = .ok (.bipush 32, 2) := by decide +kernel
theorem dX12_readsDeed_89 : decode cX12_readsDeed 89 = .ok (.invokevirtual 111, 3) := by decide +kernel
theorem dX12_readsDeed_92 : decode cX12_readsDeed 92 = .ok (.ifCond .eq 35, 3) := by decide +kernel
theorem dX12_readsDeed_95 : decode cX12_readsDeed 95 = .ok (.aload_n 0, 1) := by decide +kernel
theorem dX12_readsDeed_96 : decode cX12_readsDeed 96 = .ok (.invokevirtual 114, 3) := by decide +kernel
theorem dX12_readsDeed_99 : decode cX12_readsDeed 99 = .ok (.ifCond .eq 28, 3) := by decide +kernel
theorem dX12_readsDeed_102 : decode cX12_readsDeed 102 = .ok (.aload_n 0, 1) := by decide +kernel
theorem dX12_readsDeed_103 : decode cX12_readsDeed 103 = .ok (.iconst 2, 1) := by decide +kernel
theorem dX12_readsDeed_104 : decode cX12_readsDeed 104 = .ok (.invokevirtual 101, 3) := by decide +kernel
theorem dX12_readsDeed_107 : decode cX12_readsDeed 107 = .ok (.ifCond .eq 20, 3) := by decide +kernel
theorem dX12_readsDeed_110 : decode cX12_readsDeed 110 = .ok (.aload_n 0, 1) := by decide +kernel
theorem dX12_readsDeed_111 : decode cX12_readsDeed 111 = .ok (.bipush 32, 2) := by decide +kernel
theorem dX12_readsDeed_113 : decode cX12_readsDeed 113 = .ok (.invokevirtual 111, 3) := by decide +kernel
theorem dX12_readsDeed_116 : decode cX12_readsDeed 116 = .ok (.ifCond .eq 11, 3) := by decide +kernel
theorem dX12_readsDeed_119 : decode cX12_readsDeed 119 = .ok (.aload_n 0, 1) := by decide +kernel
theorem dX12_readsDeed_120 : decode cX12_readsDeed 120 = .ok (.iconst 1, 1) := by decide +kernel
theorem dX12_readsDeed_121 : decode cX12_readsDeed 121 = .ok (.invokevirtual 101, 3) := by decide +kernel
theorem dX12_readsDeed_124 : decode cX12_readsDeed 124 = .ok (.ifCond .ne 5, 3) := by decide +kernel
theorem dX12_readsDeed_127 : decode cX12_readsDeed 127 = .ok (.iconst 0, 1) := by decide +kernel
theorem dX12_readsDeed_128 : decode cX12_readsDeed 128 = .ok (.ireturn, 1) := by decide +kernel
theorem dX12_readsDeed_129 : decode cX12_readsDeed 129 = .ok (.aload_n 0, 1) := by decide +kernel
theorem dX12_readsDeed_130 : decode cX12_readsDeed 130 = .ok (.aload_n 0, 1) := by decide +kernel
theorem dX12_readsDeed_131 : decode cX12_readsDeed 131 = .ok (.getfield 37, 3) := by decide +kernel
theorem dX12_readsDeed_134 : decode cX12_readsDeed 134 = .ok (.iconst 2, 1) := by decide +kernel
theorem dX12_readsDeed_135 : decode cX12_readsDeed 135 = .ok (.iaload, 1) := by decide +kernel
theorem dX12_readsDeed_136 : decode cX12_readsDeed 136 = .ok (.putfield 117, 3) := by decide +kernel
theorem dX12_readsDeed_139 : decode cX12_readsDeed 139 = .ok (.iconst 1, 1) := by decide +kernel
theorem dX12_readsDeed_140 : decode cX12_readsDeed 140 = .ok (.ireturn, 1) := by decide +kernel
theorem dX12_readsStatement_0 : decode cX12_readsStatement 0 = .ok (.aload_n 0, 1) := by decide +kernel
theorem dX12_readsStatement_1 : decode cX12_readsStatement 1 = .ok (.invokevirtual 82, 3) := by decide +kernel
theorem dX12_readsStatement_4 : decode cX12_readsStatement 4 = .ok (.istore_n 1, 1) := by decide +kernel
theorem dX12_readsStatement_5 : decode cX12_readsStatement 5 = .ok (.aload_n 0, 1) := by decide +kernel
theorem dX12_readsStatement_6 : decode cX12_readsStatement 6 = .ok (.iconst 0, 1) := by decide +kernel
theorem dX12_readsStatement_7 : decode cX12_readsStatement 7 = .ok (.putfield 94, 3) := by decide +kernel
theorem dX12_readsStatement_10 : decode cX12_readsStatement 10 = .ok (.iload_n 1, 1) := by decide +kernel
theorem dX12_readsStatement_11 : decode cX12_readsStatement 11 = .ok (.bipush 100, 2) := by decide +kernel
theorem dX12_readsStatement_13 : decode cX12_readsStatement 13 = .ok (.if_icmp .eq 29, 3) := by decide +kernel
theorem dX12_readsStatement_16 : decode cX12_readsStatement 16 = .ok (.iload_n 1, 1) := by decide +kernel
theorem dX12_readsStatement_17 : decode cX12_readsStatement 17 = .ok (.bipush 109, 2) := by decide +kernel
theorem dX12_readsStatement_19 : decode cX12_readsStatement 19 = .ok (.if_icmp .eq 23, 3) := by decide +kernel
theorem dX12_readsStatement_22 : decode cX12_readsStatement 22 = .ok (.iload_n 1, 1) := by decide +kernel
theorem dX12_readsStatement_23 : decode cX12_readsStatement 23 = .ok (.bipush 99, 2) := by decide +kernel
theorem dX12_readsStatement_25 : decode cX12_readsStatement 25 = .ok (.if_icmp .eq 17, 3) := by decide +kernel
theorem dX12_readsStatement_28 : decode cX12_readsStatement 28 = .ok (.iload_n 1, 1) := by decide +kernel
theorem dX12_readsStatement_29 : decode cX12_readsStatement 29 = .ok (.bipush 110, 2) := by decide +kernel
theorem dX12_readsStatement_31 : decode cX12_readsStatement 31 = .ok (.if_icmp .eq 11, 3) := by decide +kernel
theorem dX12_readsStatement_34 : decode cX12_readsStatement 34 = .ok (.iload_n 1, 1) := by decide +kernel
theorem dX12_readsStatement_35 : decode cX12_readsStatement 35 = .ok (.bipush 108, 2) := by decide +kernel
theorem dX12_readsStatement_37 : decode cX12_readsStatement 37 = .ok (.if_icmp .eq 5, 3) := by decide +kernel
theorem dX12_readsStatement_40 : decode cX12_readsStatement 40 = .ok (.iconst 0, 1) := by decide +kernel
theorem dX12_readsStatement_41 : decode cX12_readsStatement 41 = .ok (.ireturn, 1) := by decide +kernel
theorem dX12_readsStatement_42 : decode cX12_readsStatement 42 = .ok (.aload_n 0, 1) := by decide +kernel
theorem dX12_readsStatement_43 : decode cX12_readsStatement 43 = .ok (.dup, 1) := by decide +kernel
theorem dX12_readsStatement_44 : decode cX12_readsStatement 44 = .ok (.getfield 73, 3) := by decide +kernel
theorem dX12_readsStatement_47 : decode cX12_readsStatement 47 = .ok (.iconst 1, 1) := by decide +kernel
theorem dX12_readsStatement_48 : decode cX12_readsStatement 48 = .ok (.iadd, 1) := by decide +kernel
theorem dX12_readsStatement_49 : decode cX12_readsStatement 49 = .ok (.putfield 73, 3) := by decide +kernel
theorem dX12_readsStatement_52 : decode cX12_readsStatement 52 = .ok (.iconst 0, 1) := by decide +kernel
theorem dX12_readsStatement_53 : decode cX12_readsStatement 53 = .ok (.istore_n 2, 1) := by decide +kernel
theorem dX12_readsStatement_54 : decode cX12_readsStatement 54 = .ok (.iload_n 1, 1) := by decide +kernel
theorem dX12_readsStatement_55 : decode cX12_readsStatement 55 = .ok (.lookupswitch 75 #[(99, 57), (100, 41), (108, 66), (109, 49)], 41) := by decide +kernel
theorem dX12_readsStatement_96 : decode cX12_readsStatement 96 = .ok (.aload_n 0, 1) := by decide +kernel
theorem dX12_readsStatement_97 : decode cX12_readsStatement 97 = .ok (.invokevirtual 120, 3) := by decide +kernel
theorem dX12_readsStatement_100 : decode cX12_readsStatement 100 = .ok (.istore_n 2, 1) := by decide +kernel
theorem dX12_readsStatement_101 : decode cX12_readsStatement 101 = .ok (.goto 110, 3) := by decide +kernel
theorem dX12_readsStatement_104 : decode cX12_readsStatement 104 = .ok (.aload_n 0, 1) := by decide +kernel
theorem dX12_readsStatement_105 : decode cX12_readsStatement 105 = .ok (.invokevirtual 114, 3) := by decide +kernel
theorem dX12_readsStatement_108 : decode cX12_readsStatement 108 = .ok (.istore_n 2, 1) := by decide +kernel
theorem dX12_readsStatement_109 : decode cX12_readsStatement 109 = .ok (.goto 102, 3) := by decide +kernel
theorem dX12_readsStatement_112 : decode cX12_readsStatement 112 = .ok (.aload_n 0, 1) := by decide +kernel
theorem dX12_readsStatement_113 : decode cX12_readsStatement 113 = .ok (.iconst 4, 1) := by decide +kernel
theorem dX12_readsStatement_114 : decode cX12_readsStatement 114 = .ok (.invokevirtual 101, 3) := by decide +kernel
theorem dX12_readsStatement_117 : decode cX12_readsStatement 117 = .ok (.istore_n 2, 1) := by decide +kernel
theorem dX12_readsStatement_118 : decode cX12_readsStatement 118 = .ok (.goto 93, 3) := by decide +kernel
theorem dX12_readsStatement_121 : decode cX12_readsStatement 121 = .ok (.aload_n 0, 1) := by decide +kernel
theorem dX12_readsStatement_122 : decode cX12_readsStatement 122 = .ok (.iconst 1, 1) := by decide +kernel
theorem dX12_readsStatement_123 : decode cX12_readsStatement 123 = .ok (.invokevirtual 101, 3) := by decide +kernel
theorem dX12_readsStatement_126 : decode cX12_readsStatement 126 = .ok (.istore_n 2, 1) := by decide +kernel
theorem dX12_readsStatement_127 : decode cX12_readsStatement 127 = .ok (.goto 84, 3) := by decide +kernel
theorem dX12_readsStatement_130 : decode cX12_readsStatement 130 = .ok (.aload_n 0, 1) := by decide +kernel
theorem dX12_readsStatement_131 : decode cX12_readsStatement 131 = .ok (.iconst 2, 1) := by decide +kernel
theorem dX12_readsStatement_132 : decode cX12_readsStatement 132 = .ok (.invokevirtual 101, 3) := by decide +kernel
theorem dX12_readsStatement_135 : decode cX12_readsStatement 135 = .ok (.ifCond .eq 12, 3) := by decide +kernel
theorem dX12_readsStatement_138 : decode cX12_readsStatement 138 = .ok (.aload_n 0, 1) := by decide +kernel
theorem dX12_readsStatement_139 : decode cX12_readsStatement 139 = .ok (.bipush 32, 2) := by decide +kernel
theorem dX12_readsStatement_141 : decode cX12_readsStatement 141 = .ok (.invokevirtual 111, 3) := by decide +kernel
theorem dX12_readsStatement_144 : decode cX12_readsStatement 144 = .ok (.ifCond .ne 5, 3) := by decide +kernel
theorem dX12_readsStatement_147 : decode cX12_readsStatement 147 = .ok (.iconst 0, 1) := by decide +kernel
theorem dX12_readsStatement_148 : decode cX12_readsStatement 148 = .ok (.ireturn, 1) := by decide +kernel
theorem dX12_readsStatement_149 : decode cX12_readsStatement 149 = .ok (.aload_n 0, 1) := by decide +kernel
theorem dX12_readsStatement_150 : decode cX12_readsStatement 150 = .ok (.invokevirtual 82, 3) := by decide +kernel
theorem dX12_readsStatement_153 : decode cX12_readsStatement 153 = .ok (.bipush 45, 2) := by decide +kernel
theorem dX12_readsStatement_155 : decode cX12_readsStatement 155 = .ok (.if_icmp .ne 7, 3) := by decide +kernel
theorem dX12_readsStatement_158 : decode cX12_readsStatement 158 = .ok (.iconst 1, 1) := by decide +kernel
theorem dX12_readsStatement_159 : decode cX12_readsStatement 159 = .ok (.goto 4, 3) := by decide +kernel
theorem dX12_readsStatement_162 : decode cX12_readsStatement 162 = .ok (.iconst 0, 1) := by decide +kernel
theorem dX12_readsStatement_163 : decode cX12_readsStatement 163 = .ok (.istore_n 3, 1) := by decide +kernel
theorem dX12_readsStatement_164 : decode cX12_readsStatement 164 = .ok (.aload_n 0, 1) := by decide +kernel
theorem dX12_readsStatement_165 : decode cX12_readsStatement 165 = .ok (.bipush 43, 2) := by decide +kernel
theorem dX12_readsStatement_167 : decode cX12_readsStatement 167 = .ok (.invokevirtual 111, 3) := by decide +kernel
theorem dX12_readsStatement_170 : decode cX12_readsStatement 170 = .ok (.ifCond .ne 14, 3) := by decide +kernel
theorem dX12_readsStatement_173 : decode cX12_readsStatement 173 = .ok (.aload_n 0, 1) := by decide +kernel
theorem dX12_readsStatement_174 : decode cX12_readsStatement 174 = .ok (.bipush 45, 2) := by decide +kernel
theorem dX12_readsStatement_176 : decode cX12_readsStatement 176 = .ok (.invokevirtual 111, 3) := by decide +kernel
theorem dX12_readsStatement_179 : decode cX12_readsStatement 179 = .ok (.ifCond .ne 5, 3) := by decide +kernel
theorem dX12_readsStatement_182 : decode cX12_readsStatement 182 = .ok (.iconst 0, 1) := by decide +kernel
theorem dX12_readsStatement_183 : decode cX12_readsStatement 183 = .ok (.ireturn, 1) := by decide +kernel
theorem dX12_readsStatement_184 : decode cX12_readsStatement 184 = .ok (.aload_n 0, 1) := by decide +kernel
theorem dX12_readsStatement_185 : decode cX12_readsStatement 185 = .ok (.iconst 1, 1) := by decide +kernel
theorem dX12_readsStatement_186 : decode cX12_readsStatement 186 = .ok (.invokevirtual 101, 3) := by decide +kernel
theorem dX12_readsStatement_189 : decode cX12_readsStatement 189 = .ok (.istore_n 2, 1) := by decide +kernel
theorem dX12_readsStatement_190 : decode cX12_readsStatement 190 = .ok (.iload_n 2, 1) := by decide +kernel
theorem dX12_readsStatement_191 : decode cX12_readsStatement 191 = .ok (.ifCond .eq 20, 3) := by decide +kernel
theorem dX12_readsStatement_194 : decode cX12_readsStatement 194 = .ok (.iload_n 3, 1) := by decide +kernel
theorem dX12_readsStatement_195 : decode cX12_readsStatement 195 = .ok (.ifCond .eq 16, 3) := by decide +kernel
theorem dX12_readsStatement_198 : decode cX12_readsStatement 198 = .ok (.aload_n 0, 1) := by decide +kernel
theorem dX12_readsStatement_199 : decode cX12_readsStatement 199 = .ok (.getfield 37, 3) := by decide +kernel
theorem dX12_readsStatement_202 : decode cX12_readsStatement 202 = .ok (.iconst 1, 1) := by decide +kernel
theorem dX12_readsStatement_203 : decode cX12_readsStatement 203 = .ok (.aload_n 0, 1) := by decide +kernel
theorem dX12_readsStatement_204 : decode cX12_readsStatement 204 = .ok (.getfield 37, 3) := by decide +kernel
theorem dX12_readsStatement_207 : decode cX12_readsStatement 207 = .ok (.iconst 1, 1) := by decide +kernel
theorem dX12_readsStatement_208 : decode cX12_readsStatement 208 = .ok (.iaload, 1) := by decide +kernel
theorem dX12_readsStatement_209 : decode cX12_readsStatement 209 = .ok (.ineg, 1) := by decide +kernel
theorem dX12_readsStatement_210 : decode cX12_readsStatement 210 = .ok (.iastore, 1) := by decide +kernel
theorem dX12_readsStatement_211 : decode cX12_readsStatement 211 = .ok (.iload_n 2, 1) := by decide +kernel
theorem dX12_readsStatement_212 : decode cX12_readsStatement 212 = .ok (.ifCond .eq 16, 3) := by decide +kernel
theorem dX12_readsStatement_215 : decode cX12_readsStatement 215 = .ok (.aload_n 0, 1) := by decide +kernel
theorem dX12_readsStatement_216 : decode cX12_readsStatement 216 = .ok (.bipush 59, 2) := by decide +kernel
theorem dX12_readsStatement_218 : decode cX12_readsStatement 218 = .ok (.invokevirtual 111, 3) := by decide +kernel
theorem dX12_readsStatement_221 : decode cX12_readsStatement 221 = .ok (.ifCond .eq 7, 3) := by decide +kernel
theorem dX12_readsStatement_224 : decode cX12_readsStatement 224 = .ok (.iconst 1, 1) := by decide +kernel
theorem dX12_readsStatement_225 : decode cX12_readsStatement 225 = .ok (.goto 4, 3) := by decide +kernel
theorem dX12_readsStatement_228 : decode cX12_readsStatement 228 = .ok (.iconst 0, 1) := by decide +kernel
theorem dX12_readsStatement_229 : decode cX12_readsStatement 229 = .ok (.ireturn, 1) := by decide +kernel
theorem dX12_comes_0 : decode cX12_comes 0 = .ok (.aload_n 0, 1) := by decide +kernel
theorem dX12_comes_1 : decode cX12_comes 1 = .ok (.getfield 37, 3) := by decide +kernel
theorem dX12_comes_4 : decode cX12_comes 4 = .ok (.iconst 0, 1) := by decide +kernel
theorem dX12_comes_5 : decode cX12_comes 5 = .ok (.iaload, 1) := by decide +kernel
theorem dX12_comes_6 : decode cX12_comes 6 = .ok (.istore_n 2, 1) := by decide +kernel
theorem dX12_comes_7 : decode cX12_comes 7 = .ok (.iload_n 1, 1) := by decide +kernel
theorem dX12_comes_8 : decode cX12_comes 8 = .ok (.lookupswitch 209 #[(99, 182), (100, 44), (108, 191), (109, 152)], 44) := by decide +kernel
theorem dX12_comes_52 : decode cX12_comes 52 = .ok (.aload_n 0, 1) := by decide +kernel
theorem dX12_comes_53 : decode cX12_comes 53 = .ok (.getfield 105, 3) := by decide +kernel
theorem dX12_comes_56 : decode cX12_comes 56 = .ok (.bipush 7, 2) := by decide +kernel
theorem dX12_comes_58 : decode cX12_comes 58 = .ok (.if_icmp .gt 15, 3) := by decide +kernel
theorem dX12_comes_61 : decode cX12_comes 61 = .ok (.aload_n 0, 1) := by decide +kernel
theorem dX12_comes_62 : decode cX12_comes 62 = .ok (.getfield 16, 3) := by decide +kernel
theorem dX12_comes_65 : decode cX12_comes 65 = .ok (.bipush 6, 2) := by decide +kernel
theorem dX12_comes_67 : decode cX12_comes 67 = .ok (.iaload, 1) := by decide +kernel
theorem dX12_comes_68 : decode cX12_comes 68 = .ok (.bipush 8, 2) := by decide +kernel
theorem dX12_comes_70 : decode cX12_comes 70 = .ok (.if_icmp .ne 5, 3) := by decide +kernel
theorem dX12_comes_73 : decode cX12_comes 73 = .ok (.iconst 0, 1) := by decide +kernel
theorem dX12_comes_74 : decode cX12_comes 74 = .ok (.ireturn, 1) := by decide +kernel
theorem dX12_comes_75 : decode cX12_comes 75 = .ok (.bipush 7, 2) := by decide +kernel
theorem dX12_comes_77 : decode cX12_comes 77 = .ok (.iconst 5, 1) := by decide +kernel
theorem dX12_comes_78 : decode cX12_comes 78 = .ok (.aload_n 0, 1) := by decide +kernel
theorem dX12_comes_79 : decode cX12_comes 79 = .ok (.getfield 16, 3) := by decide +kernel
theorem dX12_comes_82 : decode cX12_comes 82 = .ok (.bipush 6, 2) := by decide +kernel
theorem dX12_comes_84 : decode cX12_comes 84 = .ok (.iaload, 1) := by decide +kernel
theorem dX12_comes_85 : decode cX12_comes 85 = .ok (.imul, 1) := by decide +kernel
theorem dX12_comes_86 : decode cX12_comes 86 = .ok (.iadd, 1) := by decide +kernel
theorem dX12_comes_87 : decode cX12_comes 87 = .ok (.istore_n 3, 1) := by decide +kernel
theorem dX12_comes_88 : decode cX12_comes 88 = .ok (.aload_n 0, 1) := by decide +kernel
theorem dX12_comes_89 : decode cX12_comes 89 = .ok (.getfield 16, 3) := by decide +kernel
theorem dX12_comes_92 : decode cX12_comes 92 = .ok (.iload_n 3, 1) := by decide +kernel
theorem dX12_comes_93 : decode cX12_comes 93 = .ok (.iconst 0, 1) := by decide +kernel
theorem dX12_comes_94 : decode cX12_comes 94 = .ok (.iadd, 1) := by decide +kernel
theorem dX12_comes_95 : decode cX12_comes 95 = .ok (.aload_n 0, 1) := by decide +kernel
theorem dX12_comes_96 : decode cX12_comes 96 = .ok (.getfield 105, 3) := by decide +kernel
theorem dX12_comes_99 : decode cX12_comes 99 = .ok (.iastore, 1) := by decide +kernel
theorem dX12_comes_100 : decode cX12_comes 100 = .ok (.aload_n 0, 1) := by decide +kernel
theorem dX12_comes_101 : decode cX12_comes 101 = .ok (.getfield 16, 3) := by decide +kernel
theorem dX12_comes_104 : decode cX12_comes 104 = .ok (.iload_n 3, 1) := by decide +kernel
theorem dX12_comes_105 : decode cX12_comes 105 = .ok (.iconst 1, 1) := by decide +kernel
theorem dX12_comes_106 : decode cX12_comes 106 = .ok (.iadd, 1) := by decide +kernel
theorem dX12_comes_107 : decode cX12_comes 107 = .ok (.aload_n 0, 1) := by decide +kernel
theorem dX12_comes_108 : decode cX12_comes 108 = .ok (.getfield 108, 3) := by decide +kernel
theorem dX12_comes_111 : decode cX12_comes 111 = .ok (.iastore, 1) := by decide +kernel
theorem dX12_comes_112 : decode cX12_comes 112 = .ok (.aload_n 0, 1) := by decide +kernel
theorem dX12_comes_113 : decode cX12_comes 113 = .ok (.getfield 16, 3) := by decide +kernel
theorem dX12_comes_116 : decode cX12_comes 116 = .ok (.iload_n 3, 1) := by decide +kernel
theorem dX12_comes_117 : decode cX12_comes 117 = .ok (.iconst 2, 1) := by decide +kernel
theorem dX12_comes_118 : decode cX12_comes 118 = .ok (.iadd, 1) := by decide +kernel
theorem dX12_comes_119 : decode cX12_comes 119 = .ok (.iload_n 2, 1) := by decide +kernel
theorem dX12_comes_120 : decode cX12_comes 120 = .ok (.iastore, 1) := by decide +kernel
theorem dX12_comes_121 : decode cX12_comes 121 = .ok (.aload_n 0, 1) := by decide +kernel
theorem dX12_comes_122 : decode cX12_comes 122 = .ok (.getfield 16, 3) := by decide +kernel
theorem dX12_comes_125 : decode cX12_comes 125 = .ok (.iload_n 3, 1) := by decide +kernel
theorem dX12_comes_126 : decode cX12_comes 126 = .ok (.iconst 3, 1) := by decide +kernel
theorem dX12_comes_127 : decode cX12_comes 127 = .ok (.iadd, 1) := by decide +kernel
theorem dX12_comes_128 : decode cX12_comes 128 = .ok (.aload_n 0, 1) := by decide +kernel
theorem dX12_comes_129 : decode cX12_comes 129 = .ok (.getfield 37, 3) := by decide +kernel
theorem dX12_comes_132 : decode cX12_comes 132 = .ok (.iconst 1, 1) := by decide +kernel
theorem dX12_comes_133 : decode cX12_comes 133 = .ok (.iaload, 1) := by decide +kernel
theorem dX12_comes_134 : decode cX12_comes 134 = .ok (.iastore, 1) := by decide +kernel
theorem dX12_comes_135 : decode cX12_comes 135 = .ok (.aload_n 0, 1) := by decide +kernel
theorem dX12_comes_136 : decode cX12_comes 136 = .ok (.getfield 16, 3) := by decide +kernel
theorem dX12_comes_139 : decode cX12_comes 139 = .ok (.iload_n 3, 1) := by decide +kernel
theorem dX12_comes_140 : decode cX12_comes 140 = .ok (.iconst 4, 1) := by decide +kernel
theorem dX12_comes_141 : decode cX12_comes 141 = .ok (.iadd, 1) := by decide +kernel
theorem dX12_comes_142 : decode cX12_comes 142 = .ok (.aload_n 0, 1) := by decide +kernel
theorem dX12_comes_143 : decode cX12_comes 143 = .ok (.getfield 117, 3) := by decide +kernel
theorem dX12_comes_146 : decode cX12_comes 146 = .ok (.iastore, 1) := by decide +kernel
theorem dX12_comes_147 : decode cX12_comes 147 = .ok (.aload_n 0, 1) := by decide +kernel
theorem dX12_comes_148 : decode cX12_comes 148 = .ok (.getfield 16, 3) := by decide +kernel
theorem dX12_comes_151 : decode cX12_comes 151 = .ok (.bipush 6, 2) := by decide +kernel
theorem dX12_comes_153 : decode cX12_comes 153 = .ok (.dup2, 1) := by decide +kernel
theorem dX12_comes_154 : decode cX12_comes 154 = .ok (.iaload, 1) := by decide +kernel
theorem dX12_comes_155 : decode cX12_comes 155 = .ok (.iconst 1, 1) := by decide +kernel
theorem dX12_comes_156 : decode cX12_comes 156 = .ok (.iadd, 1) := by decide +kernel
theorem dX12_comes_157 : decode cX12_comes 157 = .ok (.iastore, 1) := by decide +kernel
theorem dX12_comes_158 : decode cX12_comes 158 = .ok (.iconst 1, 1) := by decide +kernel
theorem dX12_comes_159 : decode cX12_comes 159 = .ok (.ireturn, 1) := by decide +kernel
theorem dX12_comes_160 : decode cX12_comes 160 = .ok (.aload_n 0, 1) := by decide +kernel
theorem dX12_comes_161 : decode cX12_comes 161 = .ok (.getfield 16, 3) := by decide +kernel
theorem dX12_comes_164 : decode cX12_comes 164 = .ok (.iconst 0, 1) := by decide +kernel
theorem dX12_comes_165 : decode cX12_comes 165 = .ok (.iaload, 1) := by decide +kernel
theorem dX12_comes_166 : decode cX12_comes 166 = .ok (.iload_n 2, 1) := by decide +kernel
theorem dX12_comes_167 : decode cX12_comes 167 = .ok (.ishr, 1) := by decide +kernel
theorem dX12_comes_168 : decode cX12_comes 168 = .ok (.iconst 1, 1) := by decide +kernel
theorem dX12_comes_169 : decode cX12_comes 169 = .ok (.iand, 1) := by decide +kernel
theorem dX12_comes_170 : decode cX12_comes 170 = .ok (.iconst 1, 1) := by decide +kernel
theorem dX12_comes_171 : decode cX12_comes 171 = .ok (.if_icmp .ne 5, 3) := by decide +kernel
theorem dX12_comes_174 : decode cX12_comes 174 = .ok (.iconst 0, 1) := by decide +kernel
theorem dX12_comes_175 : decode cX12_comes 175 = .ok (.ireturn, 1) := by decide +kernel
theorem dX12_comes_176 : decode cX12_comes 176 = .ok (.aload_n 0, 1) := by decide +kernel
theorem dX12_comes_177 : decode cX12_comes 177 = .ok (.getfield 16, 3) := by decide +kernel
theorem dX12_comes_180 : decode cX12_comes 180 = .ok (.iconst 0, 1) := by decide +kernel
theorem dX12_comes_181 : decode cX12_comes 181 = .ok (.dup2, 1) := by decide +kernel
theorem dX12_comes_182 : decode cX12_comes 182 = .ok (.iaload, 1) := by decide +kernel
theorem dX12_comes_183 : decode cX12_comes 183 = .ok (.iconst 1, 1) := by decide +kernel
theorem dX12_comes_184 : decode cX12_comes 184 = .ok (.iload_n 2, 1) := by decide +kernel
theorem dX12_comes_185 : decode cX12_comes 185 = .ok (.ishl, 1) := by decide +kernel
theorem dX12_comes_186 : decode cX12_comes 186 = .ok (.ior, 1) := by decide +kernel
theorem dX12_comes_187 : decode cX12_comes 187 = .ok (.iastore, 1) := by decide +kernel
theorem dX12_comes_188 : decode cX12_comes 188 = .ok (.iconst 1, 1) := by decide +kernel
theorem dX12_comes_189 : decode cX12_comes 189 = .ok (.ireturn, 1) := by decide +kernel
theorem dX12_comes_190 : decode cX12_comes 190 = .ok (.aload_n 0, 1) := by decide +kernel
theorem dX12_comes_191 : decode cX12_comes 191 = .ok (.getfield 16, 3) := by decide +kernel
theorem dX12_comes_194 : decode cX12_comes 194 = .ok (.iconst 1, 1) := by decide +kernel
theorem dX12_comes_195 : decode cX12_comes 195 = .ok (.iload_n 2, 1) := by decide +kernel
theorem dX12_comes_196 : decode cX12_comes 196 = .ok (.iastore, 1) := by decide +kernel
theorem dX12_comes_197 : decode cX12_comes 197 = .ok (.iconst 1, 1) := by decide +kernel
theorem dX12_comes_198 : decode cX12_comes 198 = .ok (.ireturn, 1) := by decide +kernel
theorem dX12_comes_199 : decode cX12_comes 199 = .ok (.aload_n 0, 1) := by decide +kernel
theorem dX12_comes_200 : decode cX12_comes 200 = .ok (.getfield 16, 3) := by decide +kernel
theorem dX12_comes_203 : decode cX12_comes 203 = .ok (.iconst 3, 1) := by decide +kernel
theorem dX12_comes_204 : decode cX12_comes 204 = .ok (.iload_n 2, 1) := by decide +kernel
theorem dX12_comes_205 : decode cX12_comes 205 = .ok (.iastore, 1) := by decide +kernel
theorem dX12_comes_206 : decode cX12_comes 206 = .ok (.iload_n 2, 1) := by decide +kernel
theorem dX12_comes_207 : decode cX12_comes 207 = .ok (.iconst 3, 1) := by decide +kernel
theorem dX12_comes_208 : decode cX12_comes 208 = .ok (.if_icmp .ge 7, 3) := by decide +kernel
theorem dX12_comes_211 : decode cX12_comes 211 = .ok (.iconst 1, 1) := by decide +kernel
theorem dX12_comes_212 : decode cX12_comes 212 = .ok (.goto 4, 3) := by decide +kernel
theorem dX12_comes_215 : decode cX12_comes 215 = .ok (.iconst 0, 1) := by decide +kernel
theorem dX12_comes_216 : decode cX12_comes 216 = .ok (.ireturn, 1) := by decide +kernel
theorem dX12_comes_217 : decode cX12_comes 217 = .ok (.aload_n 0, 1) := by decide +kernel
theorem dX12_comes_218 : decode cX12_comes 218 = .ok (.getfield 16, 3) := by decide +kernel
theorem dX12_comes_221 : decode cX12_comes 221 = .ok (.iconst 4, 1) := by decide +kernel
theorem dX12_comes_222 : decode cX12_comes 222 = .ok (.iload_n 2, 1) := by decide +kernel
theorem dX12_comes_223 : decode cX12_comes 223 = .ok (.iastore, 1) := by decide +kernel
theorem dX12_comes_224 : decode cX12_comes 224 = .ok (.aload_n 0, 1) := by decide +kernel
theorem dX12_comes_225 : decode cX12_comes 225 = .ok (.getfield 16, 3) := by decide +kernel
theorem dX12_comes_228 : decode cX12_comes 228 = .ok (.iconst 5, 1) := by decide +kernel
theorem dX12_comes_229 : decode cX12_comes 229 = .ok (.aload_n 0, 1) := by decide +kernel
theorem dX12_comes_230 : decode cX12_comes 230 = .ok (.getfield 37, 3) := by decide +kernel
theorem dX12_comes_233 : decode cX12_comes 233 = .ok (.iconst 1, 1) := by decide +kernel
theorem dX12_comes_234 : decode cX12_comes 234 = .ok (.iaload, 1) := by decide +kernel
theorem dX12_comes_235 : decode cX12_comes 235 = .ok (.iastore, 1) := by decide +kernel
theorem dX12_comes_236 : decode cX12_comes 236 = .ok (.iconst 1, 1) := by decide +kernel
theorem dX12_comes_237 : decode cX12_comes 237 = .ok (.ireturn, 1) := by decide +kernel
theorem dX12_wrongRow_0 : decode cX12_wrongRow 0 = .ok (.iload_n 1, 1) := by decide +kernel
theorem dX12_wrongRow_1 : decode cX12_wrongRow 1 = .ok (.invokestatic 123, 3) := by decide +kernel
theorem dX12_wrongRow_4 : decode cX12_wrongRow 4 = .ok (.ifCond .ne 7, 3) := by decide +kernel
theorem dX12_wrongRow_7 : decode cX12_wrongRow 7 = .ok (.iconst (-1), 1) := by decide +kernel
theorem dX12_wrongRow_8 : decode cX12_wrongRow 8 = .ok (.goto 47, 3) := by decide +kernel
theorem dX12_wrongRow_11 : decode cX12_wrongRow 11 = .ok (.aload_n 0, 1) := by decide +kernel
theorem dX12_wrongRow_12 : decode cX12_wrongRow 12 = .ok (.getfield 19, 3) := by decide +kernel
theorem dX12_wrongRow_15 : decode cX12_wrongRow 15 = .ok (.iload_n 1, 1) := by decide +kernel
theorem dX12_wrongRow_16 : decode cX12_wrongRow 16 = .ok (.iaload, 1) := by decide +kernel
theorem dX12_wrongRow_17 : decode cX12_wrongRow 17 = .ok (.ifCond .ne 8, 3) := by decide +kernel
theorem dX12_wrongRow_20 : decode cX12_wrongRow 20 = .ok (.bipush (-11), 2) := by decide +kernel
theorem dX12_wrongRow_22 : decode cX12_wrongRow 22 = .ok (.goto 33, 3) := by decide +kernel
theorem dX12_wrongRow_25 : decode cX12_wrongRow 25 = .ok (.aload_n 0, 1) := by decide +kernel
theorem dX12_wrongRow_26 : decode cX12_wrongRow 26 = .ok (.getfield 19, 3) := by decide +kernel
theorem dX12_wrongRow_29 : decode cX12_wrongRow 29 = .ok (.iload_n 1, 1) := by decide +kernel
theorem dX12_wrongRow_30 : decode cX12_wrongRow 30 = .ok (.iaload, 1) := by decide +kernel
theorem dX12_wrongRow_31 : decode cX12_wrongRow 31 = .ok (.iconst 2, 1) := by decide +kernel
theorem dX12_wrongRow_32 : decode cX12_wrongRow 32 = .ok (.if_icmp .ne 17, 3) := by decide +kernel
theorem dX12_wrongRow_35 : decode cX12_wrongRow 35 = .ok (.iload_n 2, 1) := by decide +kernel
theorem dX12_wrongRow_36 : decode cX12_wrongRow 36 = .ok (.ifCond .lt 18, 3) := by decide +kernel
theorem dX12_wrongRow_39 : decode cX12_wrongRow 39 = .ok (.aload_n 0, 1) := by decide +kernel
theorem dX12_wrongRow_40 : decode cX12_wrongRow 40 = .ok (.getfield 22, 3) := by decide +kernel
theorem dX12_wrongRow_43 : decode cX12_wrongRow 43 = .ok (.iload_n 1, 1) := by decide +kernel
theorem dX12_wrongRow_44 : decode cX12_wrongRow 44 = .ok (.iaload, 1) := by decide +kernel
theorem dX12_wrongRow_45 : decode cX12_wrongRow 45 = .ok (.iload_n 2, 1) := by decide +kernel
theorem dX12_wrongRow_46 : decode cX12_wrongRow 46 = .ok (.if_icmp .eq 8, 3) := by decide +kernel
theorem dX12_wrongRow_49 : decode cX12_wrongRow 49 = .ok (.bipush (-12), 2) := by decide +kernel
theorem dX12_wrongRow_51 : decode cX12_wrongRow 51 = .ok (.goto 4, 3) := by decide +kernel
theorem dX12_wrongRow_54 : decode cX12_wrongRow 54 = .ok (.iconst 0, 1) := by decide +kernel
theorem dX12_wrongRow_55 : decode cX12_wrongRow 55 = .ok (.ireturn, 1) := by decide +kernel
theorem dX12_town_0 : decode cX12_town 0 = .ok (.aload_n 0, 1) := by decide +kernel
theorem dX12_town_1 : decode cX12_town 1 = .ok (.iload_n 1, 1) := by decide +kernel
theorem dX12_town_2 : decode cX12_town 2 = .ok (.iconst 0, 1) := by decide +kernel
theorem dX12_town_3 : decode cX12_town 3 = .ok (.invokevirtual 126, 3) := by decide +kernel
theorem dX12_town_6 : decode cX12_town 6 = .ok (.istore_n 2, 1) := by decide +kernel
theorem dX12_town_7 : decode cX12_town 7 = .ok (.iload_n 2, 1) := by decide +kernel
theorem dX12_town_8 : decode cX12_town 8 = .ok (.ifCond .eq 5, 3) := by decide +kernel
theorem dX12_town_11 : decode cX12_town 11 = .ok (.iload_n 2, 1) := by decide +kernel
theorem dX12_town_12 : decode cX12_town 12 = .ok (.ireturn, 1) := by decide +kernel
theorem dX12_town_13 : decode cX12_town 13 = .ok (.aload_n 0, 1) := by decide +kernel
theorem dX12_town_14 : decode cX12_town 14 = .ok (.bipush 100, 2) := by decide +kernel
theorem dX12_town_16 : decode cX12_town 16 = .ok (.iload_n 1, 1) := by decide +kernel
theorem dX12_town_17 : decode cX12_town 17 = .ok (.imul, 1) := by decide +kernel
theorem dX12_town_18 : decode cX12_town 18 = .ok (.putfield 79, 3) := by decide +kernel
theorem dX12_town_21 : decode cX12_town 21 = .ok (.aload_n 0, 1) := by decide +kernel
theorem dX12_town_22 : decode cX12_town 22 = .ok (.aload_n 0, 1) := by decide +kernel
theorem dX12_town_23 : decode cX12_town 23 = .ok (.getfield 25, 3) := by decide +kernel
theorem dX12_town_26 : decode cX12_town 26 = .ok (.iload_n 1, 1) := by decide +kernel
theorem dX12_town_27 : decode cX12_town 27 = .ok (.iaload, 1) := by decide +kernel
theorem dX12_town_28 : decode cX12_town 28 = .ok (.putfield 76, 3) := by decide +kernel
theorem dX12_town_31 : decode cX12_town 31 = .ok (.aload_n 0, 1) := by decide +kernel
theorem dX12_town_32 : decode cX12_town 32 = .ok (.iconst 0, 1) := by decide +kernel
theorem dX12_town_33 : decode cX12_town 33 = .ok (.putfield 73, 3) := by decide +kernel
theorem dX12_town_36 : decode cX12_town 36 = .ok (.iconst 0, 1) := by decide +kernel
theorem dX12_town_37 : decode cX12_town 37 = .ok (.istore_n 3, 1) := by decide +kernel
theorem dX12_town_38 : decode cX12_town 38 = .ok (.aload_n 0, 1) := by decide +kernel
theorem dX12_town_39 : decode cX12_town 39 = .ok (.invokevirtual 130, 3) := by decide +kernel
theorem dX12_town_42 : decode cX12_town 42 = .ok (.ifCond .ne 12, 3) := by decide +kernel
theorem dX12_town_45 : decode cX12_town 45 = .ok (.sipush (-1000), 3) := by decide +kernel
theorem dX12_town_48 : decode cX12_town 48 = .ok (.aload_n 0, 1) := by decide +kernel
theorem dX12_town_49 : decode cX12_town 49 = .ok (.getfield 73, 3) := by decide +kernel
theorem dX12_town_52 : decode cX12_town 52 = .ok (.isub, 1) := by decide +kernel
theorem dX12_town_53 : decode cX12_town 53 = .ok (.ireturn, 1) := by decide +kernel
theorem dX12_town_54 : decode cX12_town 54 = .ok (.iinc 3 1, 3) := by decide +kernel
theorem dX12_town_57 : decode cX12_town 57 = .ok (.aload_n 0, 1) := by decide +kernel
theorem dX12_town_58 : decode cX12_town 58 = .ok (.getfield 73, 3) := by decide +kernel
theorem dX12_town_61 : decode cX12_town 61 = .ok (.aload_n 0, 1) := by decide +kernel
theorem dX12_town_62 : decode cX12_town 62 = .ok (.getfield 76, 3) := by decide +kernel
theorem dX12_town_65 : decode cX12_town 65 = .ok (.if_icmp .lt (-27), 3) := by decide +kernel
theorem dX12_town_68 : decode cX12_town 68 = .ok (.iconst 0, 1) := by decide +kernel
theorem dX12_town_69 : decode cX12_town 69 = .ok (.istore 4, 2) := by decide +kernel
theorem dX12_town_71 : decode cX12_town 71 = .ok (.iload 4, 2) := by decide +kernel
theorem dX12_town_73 : decode cX12_town 73 = .ok (.bipush 47, 2) := by decide +kernel
theorem dX12_town_75 : decode cX12_town 75 = .ok (.if_icmp .ge 23, 3) := by decide +kernel
theorem dX12_town_78 : decode cX12_town 78 = .ok (.aload_n 0, 1) := by decide +kernel
theorem dX12_town_79 : decode cX12_town 79 = .ok (.getfield 16, 3) := by decide +kernel
theorem dX12_town_82 : decode cX12_town 82 = .ok (.iload 4, 2) := by decide +kernel
theorem dX12_town_84 : decode cX12_town 84 = .ok (.aload_n 0, 1) := by decide +kernel
theorem dX12_town_85 : decode cX12_town 85 = .ok (.getfield 9, 3) := by decide +kernel
theorem dX12_town_88 : decode cX12_town 88 = .ok (.iload 4, 2) := by decide +kernel
theorem dX12_town_90 : decode cX12_town 90 = .ok (.iaload, 1) := by decide +kernel
theorem dX12_town_91 : decode cX12_town 91 = .ok (.iastore, 1) := by decide +kernel
theorem dX12_town_92 : decode cX12_town 92 = .ok (.iinc 4 1, 3) := by decide +kernel
theorem dX12_town_95 : decode cX12_town 95 = .ok (.goto (-24), 3) := by decide +kernel
theorem dX12_town_98 : decode cX12_town 98 = .ok (.aload_n 0, 1) := by decide +kernel
theorem dX12_town_99 : decode cX12_town 99 = .ok (.iconst 0, 1) := by decide +kernel
theorem dX12_town_100 : decode cX12_town 100 = .ok (.putfield 73, 3) := by decide +kernel
theorem dX12_town_103 : decode cX12_town 103 = .ok (.aload_n 0, 1) := by decide +kernel
theorem dX12_town_104 : decode cX12_town 104 = .ok (.getfield 73, 3) := by decide +kernel
theorem dX12_town_107 : decode cX12_town 107 = .ok (.aload_n 0, 1) := by decide +kernel
theorem dX12_town_108 : decode cX12_town 108 = .ok (.getfield 76, 3) := by decide +kernel
theorem dX12_town_111 : decode cX12_town 111 = .ok (.if_icmp .ge 40, 3) := by decide +kernel
theorem dX12_town_114 : decode cX12_town 114 = .ok (.aload_n 0, 1) := by decide +kernel
theorem dX12_town_115 : decode cX12_town 115 = .ok (.getfield 73, 3) := by decide +kernel
theorem dX12_town_118 : decode cX12_town 118 = .ok (.istore 4, 2) := by decide +kernel
theorem dX12_town_120 : decode cX12_town 120 = .ok (.aload_n 0, 1) := by decide +kernel
theorem dX12_town_121 : decode cX12_town 121 = .ok (.invokevirtual 82, 3) := by decide +kernel
theorem dX12_town_124 : decode cX12_town 124 = .ok (.istore 5, 2) := by decide +kernel
theorem dX12_town_126 : decode cX12_town 126 = .ok (.aload_n 0, 1) := by decide +kernel
theorem dX12_town_127 : decode cX12_town 127 = .ok (.invokevirtual 130, 3) := by decide +kernel
theorem dX12_town_130 : decode cX12_town 130 = .ok (.istore 6, 2) := by decide +kernel
theorem dX12_town_132 : decode cX12_town 132 = .ok (.aload_n 0, 1) := by decide +kernel
theorem dX12_town_133 : decode cX12_town 133 = .ok (.iload 5, 2) := by decide +kernel
theorem dX12_town_135 : decode cX12_town 135 = .ok (.invokevirtual 133, 3) := by decide +kernel
theorem dX12_town_138 : decode cX12_town 138 = .ok (.ifCond .ne 10, 3) := by decide +kernel
theorem dX12_town_141 : decode cX12_town 141 = .ok (.sipush (-2000), 3) := by decide +kernel
theorem dX12_town_144 : decode cX12_town 144 = .ok (.iload 4, 2) := by decide +kernel
theorem dX12_town_146 : decode cX12_town 146 = .ok (.isub, 1) := by decide +kernel
theorem dX12_town_147 : decode cX12_town 147 = .ok (.ireturn, 1) := by decide +kernel
theorem dX12_town_148 : decode cX12_town 148 = .ok (.goto (-45), 3) := by decide +kernel
theorem dX12_town_151 : decode cX12_town 151 = .ok (.iconst 0, 1) := by decide +kernel
theorem dX12_town_152 : decode cX12_town 152 = .ok (.istore 4, 2) := by decide +kernel
theorem dX12_town_154 : decode cX12_town 154 = .ok (.iload 4, 2) := by decide +kernel
theorem dX12_town_156 : decode cX12_town 156 = .ok (.bipush 47, 2) := by decide +kernel
theorem dX12_town_158 : decode cX12_town 158 = .ok (.if_icmp .ge 23, 3) := by decide +kernel
theorem dX12_town_161 : decode cX12_town 161 = .ok (.aload_n 0, 1) := by decide +kernel
theorem dX12_town_162 : decode cX12_town 162 = .ok (.getfield 9, 3) := by decide +kernel
theorem dX12_town_165 : decode cX12_town 165 = .ok (.iload 4, 2) := by decide +kernel
theorem dX12_town_167 : decode cX12_town 167 = .ok (.aload_n 0, 1) := by decide +kernel
theorem dX12_town_168 : decode cX12_town 168 = .ok (.getfield 16, 3) := by decide +kernel
theorem dX12_town_171 : decode cX12_town 171 = .ok (.iload 4, 2) := by decide +kernel
theorem dX12_town_173 : decode cX12_town 173 = .ok (.iaload, 1) := by decide +kernel
theorem dX12_town_174 : decode cX12_town 174 = .ok (.iastore, 1) := by decide +kernel
theorem dX12_town_175 : decode cX12_town 175 = .ok (.iinc 4 1, 3) := by decide +kernel
theorem dX12_town_178 : decode cX12_town 178 = .ok (.goto (-24), 3) := by decide +kernel
theorem dX12_town_181 : decode cX12_town 181 = .ok (.iload_n 3, 1) := by decide +kernel
theorem dX12_town_182 : decode cX12_town 182 = .ok (.ireturn, 1) := by decide +kernel
theorem dX12_costOf_0 : decode cX12_costOf 0 = .ok (.aload_n 0, 1) := by decide +kernel
theorem dX12_costOf_1 : decode cX12_costOf 1 = .ok (.iload_n 1, 1) := by decide +kernel
theorem dX12_costOf_2 : decode cX12_costOf 2 = .ok (.iconst 3, 1) := by decide +kernel
theorem dX12_costOf_3 : decode cX12_costOf 3 = .ok (.invokevirtual 136, 3) := by decide +kernel
theorem dX12_costOf_6 : decode cX12_costOf 6 = .ok (.istore_n 2, 1) := by decide +kernel
theorem dX12_costOf_7 : decode cX12_costOf 7 = .ok (.aload_n 0, 1) := by decide +kernel
theorem dX12_costOf_8 : decode cX12_costOf 8 = .ok (.iload_n 1, 1) := by decide +kernel
theorem dX12_costOf_9 : decode cX12_costOf 9 = .ok (.iconst 0, 1) := by decide +kernel
theorem dX12_costOf_10 : decode cX12_costOf 10 = .ok (.invokevirtual 136, 3) := by decide +kernel
theorem dX12_costOf_13 : decode cX12_costOf 13 = .ok (.tableswitch 69 1 7 #[43, 69, 52, 56, 58, 69, 56], 43) := by decide +kernel
theorem dX12_costOf_56 : decode cX12_costOf 56 = .ok (.iload_n 2, 1) := by decide +kernel
theorem dX12_costOf_57 : decode cX12_costOf 57 = .ok (.aload_n 0, 1) := by decide +kernel
theorem dX12_costOf_58 : decode cX12_costOf 58 = .ok (.iload_n 1, 1) := by decide +kernel
theorem dX12_costOf_59 : decode cX12_costOf 59 = .ok (.iconst 4, 1) := by decide +kernel
theorem dX12_costOf_60 : decode cX12_costOf 60 = .ok (.invokevirtual 136, 3) := by decide +kernel
theorem dX12_costOf_63 : decode cX12_costOf 63 = .ok (.iadd, 1) := by decide +kernel
theorem dX12_costOf_64 : decode cX12_costOf 64 = .ok (.ireturn, 1) := by decide +kernel
theorem dX12_costOf_65 : decode cX12_costOf 65 = .ok (.iload_n 2, 1) := by decide +kernel
theorem dX12_costOf_66 : decode cX12_costOf 66 = .ok (.iconst 2, 1) := by decide +kernel
theorem dX12_costOf_67 : decode cX12_costOf 67 = .ok (.idiv, 1) := by decide +kernel
theorem dX12_costOf_68 : decode cX12_costOf 68 = .ok (.ireturn, 1) := by decide +kernel
theorem dX12_costOf_69 : decode cX12_costOf 69 = .ok (.iconst 0, 1) := by decide +kernel
theorem dX12_costOf_70 : decode cX12_costOf 70 = .ok (.ireturn, 1) := by decide +kernel
theorem dX12_costOf_71 : decode cX12_costOf 71 = .ok (.iload_n 2, 1) := by decide +kernel
theorem dX12_costOf_72 : decode cX12_costOf 72 = .ok (.aload_n 0, 1) := by decide +kernel
theorem dX12_costOf_73 : decode cX12_costOf 73 = .ok (.iload_n 1, 1) := by decide +kernel
theorem dX12_costOf_74 : decode cX12_costOf 74 = .ok (.iconst 4, 1) := by decide +kernel
theorem dX12_costOf_75 : decode cX12_costOf 75 = .ok (.invokevirtual 136, 3) := by decide +kernel
theorem dX12_costOf_78 : decode cX12_costOf 78 = .ok (.iadd, 1) := by decide +kernel
theorem dX12_costOf_79 : decode cX12_costOf 79 = .ok (.iconst 5, 1) := by decide +kernel
theorem dX12_costOf_80 : decode cX12_costOf 80 = .ok (.iadd, 1) := by decide +kernel
theorem dX12_costOf_81 : decode cX12_costOf 81 = .ok (.ireturn, 1) := by decide +kernel
theorem dX12_costOf_82 : decode cX12_costOf 82 = .ok (.iload_n 2, 1) := by decide +kernel
theorem dX12_costOf_83 : decode cX12_costOf 83 = .ok (.ireturn, 1) := by decide +kernel
theorem dX12_backOf_0 : decode cX12_backOf 0 = .ok (.aload_n 0, 1) := by decide +kernel
theorem dX12_backOf_1 : decode cX12_backOf 1 = .ok (.iload_n 1, 1) := by decide +kernel
theorem dX12_backOf_2 : decode cX12_backOf 2 = .ok (.iconst 0, 1) := by decide +kernel
theorem dX12_backOf_3 : decode cX12_backOf 3 = .ok (.invokevirtual 136, 3) := by decide +kernel
theorem dX12_backOf_6 : decode cX12_backOf 6 = .ok (.tableswitch 59 1 7 #[42, 50, 52, 50, 42, 59, 50], 42) := by decide +kernel
theorem dX12_backOf_48 : decode cX12_backOf 48 = .ok (.aload_n 0, 1) := by decide +kernel
theorem dX12_backOf_49 : decode cX12_backOf 49 = .ok (.iload_n 1, 1) := by decide +kernel
theorem dX12_backOf_50 : decode cX12_backOf 50 = .ok (.invokevirtual 139, 3) := by decide +kernel
theorem dX12_backOf_53 : decode cX12_backOf 53 = .ok (.iconst 2, 1) := by decide +kernel
theorem dX12_backOf_54 : decode cX12_backOf 54 = .ok (.idiv, 1) := by decide +kernel
theorem dX12_backOf_55 : decode cX12_backOf 55 = .ok (.ireturn, 1) := by decide +kernel
theorem dX12_backOf_56 : decode cX12_backOf 56 = .ok (.iconst 0, 1) := by decide +kernel
theorem dX12_backOf_57 : decode cX12_backOf 57 = .ok (.ireturn, 1) := by decide +kernel
theorem dX12_backOf_58 : decode cX12_backOf 58 = .ok (.aload_n 0, 1) := by decide +kernel
theorem dX12_backOf_59 : decode cX12_backOf 59 = .ok (.iload_n 1, 1) := by decide +kernel
theorem dX12_backOf_60 : decode cX12_backOf 60 = .ok (.iconst 4, 1) := by decide +kernel
theorem dX12_backOf_61 : decode cX12_backOf 61 = .ok (.invokevirtual 136, 3) := by decide +kernel
theorem dX12_backOf_64 : decode cX12_backOf 64 = .ok (.ireturn, 1) := by decide +kernel
theorem dX12_backOf_65 : decode cX12_backOf 65 = .ok (.aload_n 0, 1) := by decide +kernel
theorem dX12_backOf_66 : decode cX12_backOf 66 = .ok (.iload_n 1, 1) := by decide +kernel
theorem dX12_backOf_67 : decode cX12_backOf 67 = .ok (.invokevirtual 139, 3) := by decide +kernel
theorem dX12_backOf_70 : decode cX12_backOf 70 = .ok (.ireturn, 1) := by decide +kernel
theorem dX12_isKept_0 : decode cX12_isKept 0 = .ok (.aload_n 0, 1) := by decide +kernel
theorem dX12_isKept_1 : decode cX12_isKept 1 = .ok (.iload_n 1, 1) := by decide +kernel
theorem dX12_isKept_2 : decode cX12_isKept 2 = .ok (.iconst 0, 1) := by decide +kernel
theorem dX12_isKept_3 : decode cX12_isKept 3 = .ok (.invokevirtual 136, 3) := by decide +kernel
theorem dX12_isKept_6 : decode cX12_isKept 6 = .ok (.istore_n 2, 1) := by decide +kernel
theorem dX12_isKept_7 : decode cX12_isKept 7 = .ok (.iload_n 2, 1) := by decide +kernel
theorem dX12_isKept_8 : decode cX12_isKept 8 = .ok (.iconst 5, 1) := by decide +kernel
theorem dX12_isKept_9 : decode cX12_isKept 9 = .ok (.if_icmp .ne 22, 3) := by decide +kernel
theorem dX12_isKept_12 : decode cX12_isKept 12 = .ok (.aload_n 0, 1) := by decide +kernel
theorem dX12_isKept_13 : decode cX12_isKept 13 = .ok (.iload_n 1, 1) := by decide +kernel
theorem dX12_isKept_14 : decode cX12_isKept 14 = .ok (.iconst 4, 1) := by decide +kernel
theorem dX12_isKept_15 : decode cX12_isKept 15 = .ok (.invokevirtual 136, 3) := by decide +kernel
theorem dX12_isKept_18 : decode cX12_isKept 18 = .ok (.bipush 9, 2) := by decide +kernel
theorem dX12_isKept_20 : decode cX12_isKept 20 = .ok (.if_icmp .ne 7, 3) := by decide +kernel
theorem dX12_isKept_23 : decode cX12_isKept 23 = .ok (.iconst 1, 1) := by decide +kernel
theorem dX12_isKept_24 : decode cX12_isKept 24 = .ok (.goto 33, 3) := by decide +kernel
theorem dX12_isKept_27 : decode cX12_isKept 27 = .ok (.iconst 0, 1) := by decide +kernel
theorem dX12_isKept_28 : decode cX12_isKept 28 = .ok (.goto 29, 3) := by decide +kernel
theorem dX12_isKept_31 : decode cX12_isKept 31 = .ok (.iload_n 2, 1) := by decide +kernel
theorem dX12_isKept_32 : decode cX12_isKept 32 = .ok (.iconst 4, 1) := by decide +kernel
theorem dX12_isKept_33 : decode cX12_isKept 33 = .ok (.if_icmp .eq 9, 3) := by decide +kernel
theorem dX12_isKept_36 : decode cX12_isKept 36 = .ok (.iload_n 2, 1) := by decide +kernel
theorem dX12_isKept_37 : decode cX12_isKept 37 = .ok (.bipush 7, 2) := by decide +kernel
theorem dX12_isKept_39 : decode cX12_isKept 39 = .ok (.if_icmp .ne 17, 3) := by decide +kernel
theorem dX12_isKept_42 : decode cX12_isKept 42 = .ok (.aload_n 0, 1) := by decide +kernel
theorem dX12_isKept_43 : decode cX12_isKept 43 = .ok (.iload_n 1, 1) := by decide +kernel
theorem dX12_isKept_44 : decode cX12_isKept 44 = .ok (.iconst 4, 1) := by decide +kernel
theorem dX12_isKept_45 : decode cX12_isKept 45 = .ok (.invokevirtual 136, 3) := by decide +kernel
theorem dX12_isKept_48 : decode cX12_isKept 48 = .ok (.iconst 5, 1) := by decide +kernel
theorem dX12_isKept_49 : decode cX12_isKept 49 = .ok (.if_icmp .lt 7, 3) := by decide +kernel
theorem dX12_isKept_52 : decode cX12_isKept 52 = .ok (.iconst 1, 1) := by decide +kernel
theorem dX12_isKept_53 : decode cX12_isKept 53 = .ok (.goto 4, 3) := by decide +kernel
theorem dX12_isKept_56 : decode cX12_isKept 56 = .ok (.iconst 0, 1) := by decide +kernel
theorem dX12_isKept_57 : decode cX12_isKept 57 = .ok (.ireturn, 1) := by decide +kernel
theorem dX12_marksBy_0 : decode cX12_marksBy 0 = .ok (.iconst 1, 1) := by decide +kernel
theorem dX12_marksBy_1 : decode cX12_marksBy 1 = .ok (.aload_n 0, 1) := by decide +kernel
theorem dX12_marksBy_2 : decode cX12_marksBy 2 = .ok (.iload_n 1, 1) := by decide +kernel
theorem dX12_marksBy_3 : decode cX12_marksBy 3 = .ok (.iconst 2, 1) := by decide +kernel
theorem dX12_marksBy_4 : decode cX12_marksBy 4 = .ok (.invokevirtual 136, 3) := by decide +kernel
theorem dX12_marksBy_7 : decode cX12_marksBy 7 = .ok (.ishl, 1) := by decide +kernel
theorem dX12_marksBy_8 : decode cX12_marksBy 8 = .ok (.istore_n 3, 1) := by decide +kernel
theorem dX12_marksBy_9 : decode cX12_marksBy 9 = .ok (.aload_n 0, 1) := by decide +kernel
theorem dX12_marksBy_10 : decode cX12_marksBy 10 = .ok (.iload_n 1, 1) := by decide +kernel
theorem dX12_marksBy_11 : decode cX12_marksBy 11 = .ok (.iconst 0, 1) := by decide +kernel
theorem dX12_marksBy_12 : decode cX12_marksBy 12 = .ok (.invokevirtual 136, 3) := by decide +kernel
theorem dX12_marksBy_15 : decode cX12_marksBy 15 = .ok (.lookupswitch 44 #[(6, 25), (7, 31)], 25) := by decide +kernel
theorem dX12_marksBy_40 : decode cX12_marksBy 40 = .ok (.iload_n 2, 1) := by decide +kernel
theorem dX12_marksBy_41 : decode cX12_marksBy 41 = .ok (.iload_n 3, 1) := by decide +kernel
theorem dX12_marksBy_42 : decode cX12_marksBy 42 = .ok (.iconst (-1), 1) := by decide +kernel
theorem dX12_marksBy_43 : decode cX12_marksBy 43 = .ok (.ixor, 1) := by decide +kernel
theorem dX12_marksBy_44 : decode cX12_marksBy 44 = .ok (.iand, 1) := by decide +kernel
theorem dX12_marksBy_45 : decode cX12_marksBy 45 = .ok (.ireturn, 1) := by decide +kernel
theorem dX12_marksBy_46 : decode cX12_marksBy 46 = .ok (.iload_n 2, 1) := by decide +kernel
theorem dX12_marksBy_47 : decode cX12_marksBy 47 = .ok (.iload_n 3, 1) := by decide +kernel
theorem dX12_marksBy_48 : decode cX12_marksBy 48 = .ok (.ior, 1) := by decide +kernel
theorem dX12_marksBy_49 : decode cX12_marksBy 49 = .ok (.iconst 1, 1) := by decide +kernel
theorem dX12_marksBy_50 : decode cX12_marksBy 50 = .ok (.aload_n 0, 1) := by decide +kernel
theorem dX12_marksBy_51 : decode cX12_marksBy 51 = .ok (.iload_n 1, 1) := by decide +kernel
theorem dX12_marksBy_52 : decode cX12_marksBy 52 = .ok (.iconst 4, 1) := by decide +kernel
theorem dX12_marksBy_53 : decode cX12_marksBy 53 = .ok (.invokevirtual 136, 3) := by decide +kernel
theorem dX12_marksBy_56 : decode cX12_marksBy 56 = .ok (.ishl, 1) := by decide +kernel
theorem dX12_marksBy_57 : decode cX12_marksBy 57 = .ok (.ior, 1) := by decide +kernel
theorem dX12_marksBy_58 : decode cX12_marksBy 58 = .ok (.ireturn, 1) := by decide +kernel
theorem dX12_marksBy_59 : decode cX12_marksBy 59 = .ok (.iload_n 2, 1) := by decide +kernel
theorem dX12_marksBy_60 : decode cX12_marksBy 60 = .ok (.iload_n 3, 1) := by decide +kernel
theorem dX12_marksBy_61 : decode cX12_marksBy 61 = .ok (.ior, 1) := by decide +kernel
theorem dX12_marksBy_62 : decode cX12_marksBy 62 = .ok (.ireturn, 1) := by decide +kernel
theorem dX12_mayBy_0 : decode cX12_mayBy 0 = .ok (.aload_n 0, 1) := by decide +kernel
theorem dX12_mayBy_1 : decode cX12_mayBy 1 = .ok (.iload_n 1, 1) := by decide +kernel
theorem dX12_mayBy_2 : decode cX12_mayBy 2 = .ok (.iconst 1, 1) := by decide +kernel
theorem dX12_mayBy_3 : decode cX12_mayBy 3 = .ok (.invokevirtual 136, 3) := by decide +kernel
theorem dX12_mayBy_6 : decode cX12_mayBy 6 = .ok (.iload_n 2, 1) := by decide +kernel
theorem dX12_mayBy_7 : decode cX12_mayBy 7 = .ok (.iconst (-1), 1) := by decide +kernel
theorem dX12_mayBy_8 : decode cX12_mayBy 8 = .ok (.ixor, 1) := by decide +kernel
theorem dX12_mayBy_9 : decode cX12_mayBy 9 = .ok (.iand, 1) := by decide +kernel
theorem dX12_mayBy_10 : decode cX12_mayBy 10 = .ok (.ifCond .ne 16, 3) := by decide +kernel
theorem dX12_mayBy_13 : decode cX12_mayBy 13 = .ok (.iload_n 3, 1) := by decide +kernel
theorem dX12_mayBy_14 : decode cX12_mayBy 14 = .ok (.aload_n 0, 1) := by decide +kernel
theorem dX12_mayBy_15 : decode cX12_mayBy 15 = .ok (.iload_n 1, 1) := by decide +kernel
theorem dX12_mayBy_16 : decode cX12_mayBy 16 = .ok (.invokevirtual 139, 3) := by decide +kernel
theorem dX12_mayBy_19 : decode cX12_mayBy 19 = .ok (.if_icmp .lt 7, 3) := by decide +kernel
theorem dX12_mayBy_22 : decode cX12_mayBy 22 = .ok (.iconst 1, 1) := by decide +kernel
theorem dX12_mayBy_23 : decode cX12_mayBy 23 = .ok (.goto 4, 3) := by decide +kernel
theorem dX12_mayBy_26 : decode cX12_mayBy 26 = .ok (.iconst 0, 1) := by decide +kernel
theorem dX12_mayBy_27 : decode cX12_mayBy 27 = .ok (.ireturn, 1) := by decide +kernel
theorem dX12_deed_0 : decode cX12_deed 0 = .ok (.aload_n 0, 1) := by decide +kernel
theorem dX12_deed_1 : decode cX12_deed 1 = .ok (.iload_n 1, 1) := by decide +kernel
theorem dX12_deed_2 : decode cX12_deed 2 = .ok (.invokevirtual 143, 3) := by decide +kernel
theorem dX12_deed_5 : decode cX12_deed 5 = .ok (.ifCond .ne 5, 3) := by decide +kernel
theorem dX12_deed_8 : decode cX12_deed 8 = .ok (.iconst (-1), 1) := by decide +kernel
theorem dX12_deed_9 : decode cX12_deed 9 = .ok (.ireturn, 1) := by decide +kernel
theorem dX12_deed_10 : decode cX12_deed 10 = .ok (.iload_n 2, 1) := by decide +kernel
theorem dX12_deed_11 : decode cX12_deed 11 = .ok (.i2l, 1) := by decide +kernel
theorem dX12_deed_12 : decode cX12_deed 12 = .ok (.lconst 0, 1) := by decide +kernel
theorem dX12_deed_13 : decode cX12_deed 13 = .ok (.ldc2_w 146, 3) := by decide +kernel
theorem dX12_deed_16 : decode cX12_deed 16 = .ok (.invokestatic 65, 3) := by decide +kernel
theorem dX12_deed_19 : decode cX12_deed 19 = .ok (.ifCond .eq 10, 3) := by decide +kernel
theorem dX12_deed_22 : decode cX12_deed 22 = .ok (.aload_n 0, 1) := by decide +kernel
theorem dX12_deed_23 : decode cX12_deed 23 = .ok (.iload_n 1, 1) := by decide +kernel
theorem dX12_deed_24 : decode cX12_deed 24 = .ok (.iload_n 2, 1) := by decide +kernel
theorem dX12_deed_25 : decode cX12_deed 25 = .ok (.invokevirtual 136, 3) := by decide +kernel
theorem dX12_deed_28 : decode cX12_deed 28 = .ok (.ireturn, 1) := by decide +kernel
theorem dX12_deed_29 : decode cX12_deed 29 = .ok (.iload_n 2, 1) := by decide +kernel
theorem dX12_deed_30 : decode cX12_deed 30 = .ok (.iconst 5, 1) := by decide +kernel
theorem dX12_deed_31 : decode cX12_deed 31 = .ok (.if_icmp .ne 11, 3) := by decide +kernel
theorem dX12_deed_34 : decode cX12_deed 34 = .ok (.aload_n 0, 1) := by decide +kernel
theorem dX12_deed_35 : decode cX12_deed 35 = .ok (.iload_n 1, 1) := by decide +kernel
theorem dX12_deed_36 : decode cX12_deed 36 = .ok (.invokevirtual 139, 3) := by decide +kernel
theorem dX12_deed_39 : decode cX12_deed 39 = .ok (.goto 40, 3) := by decide +kernel
theorem dX12_deed_42 : decode cX12_deed 42 = .ok (.iload_n 2, 1) := by decide +kernel
theorem dX12_deed_43 : decode cX12_deed 43 = .ok (.bipush 6, 2) := by decide +kernel
theorem dX12_deed_45 : decode cX12_deed 45 = .ok (.if_icmp .ne 11, 3) := by decide +kernel
theorem dX12_deed_48 : decode cX12_deed 48 = .ok (.aload_n 0, 1) := by decide +kernel
theorem dX12_deed_49 : decode cX12_deed 49 = .ok (.iload_n 1, 1) := by decide +kernel
theorem dX12_deed_50 : decode cX12_deed 50 = .ok (.invokevirtual 148, 3) := by decide +kernel
theorem dX12_deed_53 : decode cX12_deed 53 = .ok (.goto 26, 3) := by decide +kernel
theorem dX12_deed_56 : decode cX12_deed 56 = .ok (.iload_n 2, 1) := by decide +kernel
theorem dX12_deed_57 : decode cX12_deed 57 = .ok (.bipush 7, 2) := by decide +kernel
theorem dX12_deed_59 : decode cX12_deed 59 = .ok (.if_icmp .ne 19, 3) := by decide +kernel
theorem dX12_deed_62 : decode cX12_deed 62 = .ok (.aload_n 0, 1) := by decide +kernel
theorem dX12_deed_63 : decode cX12_deed 63 = .ok (.iload_n 1, 1) := by decide +kernel
theorem dX12_deed_64 : decode cX12_deed 64 = .ok (.invokevirtual 151, 3) := by decide +kernel
theorem dX12_deed_67 : decode cX12_deed 67 = .ok (.ifCond .eq 7, 3) := by decide +kernel
theorem dX12_deed_70 : decode cX12_deed 70 = .ok (.iconst 1, 1) := by decide +kernel
theorem dX12_deed_71 : decode cX12_deed 71 = .ok (.goto 8, 3) := by decide +kernel
theorem dX12_deed_74 : decode cX12_deed 74 = .ok (.iconst 0, 1) := by decide +kernel
theorem dX12_deed_75 : decode cX12_deed 75 = .ok (.goto 4, 3) := by decide +kernel
theorem dX12_deed_78 : decode cX12_deed 78 = .ok (.iconst (-1), 1) := by decide +kernel
theorem dX12_deed_79 : decode cX12_deed 79 = .ok (.ireturn, 1) := by decide +kernel
theorem dX12_marks_0 : decode cX12_marks 0 = .ok (.aload_n 0, 1) := by decide +kernel
theorem dX12_marks_1 : decode cX12_marks 1 = .ok (.getfield 9, 3) := by decide +kernel
theorem dX12_marks_4 : decode cX12_marks 4 = .ok (.iconst 0, 1) := by decide +kernel
theorem dX12_marks_5 : decode cX12_marks 5 = .ok (.iaload, 1) := by decide +kernel
theorem dX12_marks_6 : decode cX12_marks 6 = .ok (.ireturn, 1) := by decide +kernel
theorem dX12_state_0 : decode cX12_state 0 = .ok (.iload_n 1, 1) := by decide +kernel
theorem dX12_state_1 : decode cX12_state 1 = .ok (.i2l, 1) := by decide +kernel
theorem dX12_state_2 : decode cX12_state 2 = .ok (.lconst 0, 1) := by decide +kernel
theorem dX12_state_3 : decode cX12_state 3 = .ok (.ldc2_w 154, 3) := by decide +kernel
theorem dX12_state_6 : decode cX12_state 6 = .ok (.invokestatic 65, 3) := by decide +kernel
theorem dX12_state_9 : decode cX12_state 9 = .ok (.ifCond .eq 14, 3) := by decide +kernel
theorem dX12_state_12 : decode cX12_state 12 = .ok (.aload_n 0, 1) := by decide +kernel
theorem dX12_state_13 : decode cX12_state 13 = .ok (.getfield 9, 3) := by decide +kernel
theorem dX12_state_16 : decode cX12_state 16 = .ok (.iconst 1, 1) := by decide +kernel
theorem dX12_state_17 : decode cX12_state 17 = .ok (.iload_n 1, 1) := by decide +kernel
theorem dX12_state_18 : decode cX12_state 18 = .ok (.iadd, 1) := by decide +kernel
theorem dX12_state_19 : decode cX12_state 19 = .ok (.iaload, 1) := by decide +kernel
theorem dX12_state_20 : decode cX12_state 20 = .ok (.goto 4, 3) := by decide +kernel
theorem dX12_state_23 : decode cX12_state 23 = .ok (.iconst (-1), 1) := by decide +kernel
theorem dX12_state_24 : decode cX12_state 24 = .ok (.ireturn, 1) := by decide +kernel
theorem dX12_rise_0 : decode cX12_rise 0 = .ok (.aload_n 0, 1) := by decide +kernel
theorem dX12_rise_1 : decode cX12_rise 1 = .ok (.getfield 9, 3) := by decide +kernel
theorem dX12_rise_4 : decode cX12_rise 4 = .ok (.iconst 5, 1) := by decide +kernel
theorem dX12_rise_5 : decode cX12_rise 5 = .ok (.iaload, 1) := by decide +kernel
theorem dX12_rise_6 : decode cX12_rise 6 = .ok (.ireturn, 1) := by decide +kernel
theorem dX12_set_0 : decode cX12_set 0 = .ok (.iload_n 1, 1) := by decide +kernel
theorem dX12_set_1 : decode cX12_set 1 = .ok (.i2l, 1) := by decide +kernel
theorem dX12_set_2 : decode cX12_set 2 = .ok (.lconst 0, 1) := by decide +kernel
theorem dX12_set_3 : decode cX12_set 3 = .ok (.ldc2_w 156, 3) := by decide +kernel
theorem dX12_set_6 : decode cX12_set 6 = .ok (.invokestatic 65, 3) := by decide +kernel
theorem dX12_set_9 : decode cX12_set 9 = .ok (.ifCond .eq 36, 3) := by decide +kernel
theorem dX12_set_12 : decode cX12_set 12 = .ok (.iload_n 2, 1) := by decide +kernel
theorem dX12_set_13 : decode cX12_set 13 = .ok (.i2l, 1) := by decide +kernel
theorem dX12_set_14 : decode cX12_set 14 = .ok (.lconst 0, 1) := by decide +kernel
theorem dX12_set_15 : decode cX12_set 15 = .ok (.iload_n 1, 1) := by decide +kernel
theorem dX12_set_16 : decode cX12_set 16 = .ok (.ifCond .ne 9, 3) := by decide +kernel
theorem dX12_set_19 : decode cX12_set 19 = .ok (.ldc2_w 156, 3) := by decide +kernel
theorem dX12_set_22 : decode cX12_set 22 = .ok (.goto 17, 3) := by decide +kernel
theorem dX12_set_25 : decode cX12_set 25 = .ok (.iload_n 1, 1) := by decide +kernel
theorem dX12_set_26 : decode cX12_set 26 = .ok (.iconst 1, 1) := by decide +kernel
theorem dX12_set_27 : decode cX12_set 27 = .ok (.if_icmp .ne 9, 3) := by decide +kernel
theorem dX12_set_30 : decode cX12_set 30 = .ok (.ldc2_w 158, 3) := by decide +kernel
theorem dX12_set_33 : decode cX12_set 33 = .ok (.goto 6, 3) := by decide +kernel
theorem dX12_set_36 : decode cX12_set 36 = .ok (.ldc2_w 160, 3) := by decide +kernel
theorem dX12_set_39 : decode cX12_set 39 = .ok (.invokestatic 65, 3) := by decide +kernel
theorem dX12_set_42 : decode cX12_set 42 = .ok (.ifCond .ne 5, 3) := by decide +kernel
theorem dX12_set_45 : decode cX12_set 45 = .ok (.iconst (-1), 1) := by decide +kernel
theorem dX12_set_46 : decode cX12_set 46 = .ok (.ireturn, 1) := by decide +kernel
theorem dX12_set_47 : decode cX12_set 47 = .ok (.iload_n 1, 1) := by decide +kernel
theorem dX12_set_48 : decode cX12_set 48 = .ok (.ifCond .ne 7, 3) := by decide +kernel
theorem dX12_set_51 : decode cX12_set 51 = .ok (.iconst 3, 1) := by decide +kernel
theorem dX12_set_52 : decode cX12_set 52 = .ok (.goto 13, 3) := by decide +kernel
theorem dX12_set_55 : decode cX12_set 55 = .ok (.iload_n 1, 1) := by decide +kernel
theorem dX12_set_56 : decode cX12_set 56 = .ok (.iconst 1, 1) := by decide +kernel
theorem dX12_set_57 : decode cX12_set 57 = .ok (.if_icmp .ne 7, 3) := by decide +kernel
theorem dX12_set_60 : decode cX12_set 60 = .ok (.iconst 4, 1) := by decide +kernel
theorem dX12_set_61 : decode cX12_set 61 = .ok (.goto 4, 3) := by decide +kernel
theorem dX12_set_64 : decode cX12_set 64 = .ok (.iconst 1, 1) := by decide +kernel
theorem dX12_set_65 : decode cX12_set 65 = .ok (.istore_n 3, 1) := by decide +kernel
theorem dX12_set_66 : decode cX12_set 66 = .ok (.aload_n 0, 1) := by decide +kernel
theorem dX12_set_67 : decode cX12_set 67 = .ok (.getfield 9, 3) := by decide +kernel
theorem dX12_set_70 : decode cX12_set 70 = .ok (.iload_n 3, 1) := by decide +kernel
theorem dX12_set_71 : decode cX12_set 71 = .ok (.iaload, 1) := by decide +kernel
theorem dX12_set_72 : decode cX12_set 72 = .ok (.istore 4, 2) := by decide +kernel
theorem dX12_set_74 : decode cX12_set 74 = .ok (.aload_n 0, 1) := by decide +kernel
theorem dX12_set_75 : decode cX12_set 75 = .ok (.getfield 9, 3) := by decide +kernel
theorem dX12_set_78 : decode cX12_set 78 = .ok (.iload_n 3, 1) := by decide +kernel
theorem dX12_set_79 : decode cX12_set 79 = .ok (.iload_n 2, 1) := by decide +kernel
theorem dX12_set_80 : decode cX12_set 80 = .ok (.iastore, 1) := by decide +kernel
theorem dX12_set_81 : decode cX12_set 81 = .ok (.iload 4, 2) := by decide +kernel
theorem dX12_set_83 : decode cX12_set 83 = .ok (.ireturn, 1) := by decide +kernel
theorem dX12_may_0 : decode cX12_may 0 = .ok (.aload_n 0, 1) := by decide +kernel
theorem dX12_may_1 : decode cX12_may 1 = .ok (.iload_n 1, 1) := by decide +kernel
theorem dX12_may_2 : decode cX12_may 2 = .ok (.invokevirtual 143, 3) := by decide +kernel
theorem dX12_may_5 : decode cX12_may 5 = .ok (.ifCond .ne 7, 3) := by decide +kernel
theorem dX12_may_8 : decode cX12_may 8 = .ok (.iconst (-1), 1) := by decide +kernel
theorem dX12_may_9 : decode cX12_may 9 = .ok (.goto 28, 3) := by decide +kernel
theorem dX12_may_12 : decode cX12_may 12 = .ok (.aload_n 0, 1) := by decide +kernel
theorem dX12_may_13 : decode cX12_may 13 = .ok (.iload_n 1, 1) := by decide +kernel
theorem dX12_may_14 : decode cX12_may 14 = .ok (.aload_n 0, 1) := by decide +kernel
theorem dX12_may_15 : decode cX12_may 15 = .ok (.getfield 9, 3) := by decide +kernel
theorem dX12_may_18 : decode cX12_may 18 = .ok (.iconst 0, 1) := by decide +kernel
theorem dX12_may_19 : decode cX12_may 19 = .ok (.iaload, 1) := by decide +kernel
theorem dX12_may_20 : decode cX12_may 20 = .ok (.aload_n 0, 1) := by decide +kernel
theorem dX12_may_21 : decode cX12_may 21 = .ok (.getfield 9, 3) := by decide +kernel
theorem dX12_may_24 : decode cX12_may 24 = .ok (.iconst 1, 1) := by decide +kernel
theorem dX12_may_25 : decode cX12_may 25 = .ok (.iaload, 1) := by decide +kernel
theorem dX12_may_26 : decode cX12_may 26 = .ok (.invokevirtual 162, 3) := by decide +kernel
theorem dX12_may_29 : decode cX12_may 29 = .ok (.ifCond .eq 7, 3) := by decide +kernel
theorem dX12_may_32 : decode cX12_may 32 = .ok (.iconst 1, 1) := by decide +kernel
theorem dX12_may_33 : decode cX12_may 33 = .ok (.goto 4, 3) := by decide +kernel
theorem dX12_may_36 : decode cX12_may 36 = .ok (.iconst 0, 1) := by decide +kernel
theorem dX12_may_37 : decode cX12_may 37 = .ok (.ireturn, 1) := by decide +kernel
theorem dX12_priceOf_0 : decode cX12_priceOf 0 = .ok (.aload_n 0, 1) := by decide +kernel
theorem dX12_priceOf_1 : decode cX12_priceOf 1 = .ok (.getfield 9, 3) := by decide +kernel
theorem dX12_priceOf_4 : decode cX12_priceOf 4 = .ok (.iconst 4, 1) := by decide +kernel
theorem dX12_priceOf_5 : decode cX12_priceOf 5 = .ok (.iaload, 1) := by decide +kernel
theorem dX12_priceOf_6 : decode cX12_priceOf 6 = .ok (.iload_n 1, 1) := by decide +kernel
theorem dX12_priceOf_7 : decode cX12_priceOf 7 = .ok (.aload_n 0, 1) := by decide +kernel
theorem dX12_priceOf_8 : decode cX12_priceOf 8 = .ok (.getfield 9, 3) := by decide +kernel
theorem dX12_priceOf_11 : decode cX12_priceOf 11 = .ok (.iconst 5, 1) := by decide +kernel
theorem dX12_priceOf_12 : decode cX12_priceOf 12 = .ok (.iaload, 1) := by decide +kernel
theorem dX12_priceOf_13 : decode cX12_priceOf 13 = .ok (.imul, 1) := by decide +kernel
theorem dX12_priceOf_14 : decode cX12_priceOf 14 = .ok (.iadd, 1) := by decide +kernel
theorem dX12_priceOf_15 : decode cX12_priceOf 15 = .ok (.istore_n 2, 1) := by decide +kernel
theorem dX12_priceOf_16 : decode cX12_priceOf 16 = .ok (.iload_n 2, 1) := by decide +kernel
theorem dX12_priceOf_17 : decode cX12_priceOf 17 = .ok (.ifCond .ge 7, 3) := by decide +kernel
theorem dX12_priceOf_20 : decode cX12_priceOf 20 = .ok (.iconst 0, 1) := by decide +kernel
theorem dX12_priceOf_21 : decode cX12_priceOf 21 = .ok (.goto 4, 3) := by decide +kernel
theorem dX12_priceOf_24 : decode cX12_priceOf 24 = .ok (.iload_n 2, 1) := by decide +kernel
theorem dX12_priceOf_25 : decode cX12_priceOf 25 = .ok (.ireturn, 1) := by decide +kernel
theorem dX12_wrongList_0 : decode cX12_wrongList 0 = .ok (.aload_n 0, 1) := by decide +kernel
theorem dX12_wrongList_1 : decode cX12_wrongList 1 = .ok (.iload_n 1, 1) := by decide +kernel
theorem dX12_wrongList_2 : decode cX12_wrongList 2 = .ok (.iconst 0, 1) := by decide +kernel
theorem dX12_wrongList_3 : decode cX12_wrongList 3 = .ok (.invokevirtual 126, 3) := by decide +kernel
theorem dX12_wrongList_6 : decode cX12_wrongList 6 = .ok (.istore_n 2, 1) := by decide +kernel
theorem dX12_wrongList_7 : decode cX12_wrongList 7 = .ok (.iload_n 2, 1) := by decide +kernel
theorem dX12_wrongList_8 : decode cX12_wrongList 8 = .ok (.ifCond .eq 5, 3) := by decide +kernel
theorem dX12_wrongList_11 : decode cX12_wrongList 11 = .ok (.iload_n 2, 1) := by decide +kernel
theorem dX12_wrongList_12 : decode cX12_wrongList 12 = .ok (.ireturn, 1) := by decide +kernel
theorem dX12_wrongList_13 : decode cX12_wrongList 13 = .ok (.aload_n 0, 1) := by decide +kernel
theorem dX12_wrongList_14 : decode cX12_wrongList 14 = .ok (.getfield 25, 3) := by decide +kernel
theorem dX12_wrongList_17 : decode cX12_wrongList 17 = .ok (.iload_n 1, 1) := by decide +kernel
theorem dX12_wrongList_18 : decode cX12_wrongList 18 = .ok (.iaload, 1) := by decide +kernel
theorem dX12_wrongList_19 : decode cX12_wrongList 19 = .ok (.bipush 8, 2) := by decide +kernel
theorem dX12_wrongList_21 : decode cX12_wrongList 21 = .ok (.if_icmp .le 6, 3) := by decide +kernel
theorem dX12_wrongList_24 : decode cX12_wrongList 24 = .ok (.bipush (-13), 2) := by decide +kernel
theorem dX12_wrongList_26 : decode cX12_wrongList 26 = .ok (.ireturn, 1) := by decide +kernel
theorem dX12_wrongList_27 : decode cX12_wrongList 27 = .ok (.iconst 0, 1) := by decide +kernel
theorem dX12_wrongList_28 : decode cX12_wrongList 28 = .ok (.istore_n 3, 1) := by decide +kernel
theorem dX12_wrongList_29 : decode cX12_wrongList 29 = .ok (.iload_n 3, 1) := by decide +kernel
theorem dX12_wrongList_30 : decode cX12_wrongList 30 = .ok (.aload_n 0, 1) := by decide +kernel
theorem dX12_wrongList_31 : decode cX12_wrongList 31 = .ok (.getfield 25, 3) := by decide +kernel
theorem dX12_wrongList_34 : decode cX12_wrongList 34 = .ok (.iload_n 1, 1) := by decide +kernel
theorem dX12_wrongList_35 : decode cX12_wrongList 35 = .ok (.iaload, 1) := by decide +kernel
theorem dX12_wrongList_36 : decode cX12_wrongList 36 = .ok (.if_icmp .ge 30, 3) := by decide +kernel
theorem dX12_wrongList_39 : decode cX12_wrongList 39 = .ok (.aload_n 0, 1) := by decide +kernel
theorem dX12_wrongList_40 : decode cX12_wrongList 40 = .ok (.aload_n 0, 1) := by decide +kernel
theorem dX12_wrongList_41 : decode cX12_wrongList 41 = .ok (.getfield 28, 3) := by decide +kernel
theorem dX12_wrongList_44 : decode cX12_wrongList 44 = .ok (.bipush 100, 2) := by decide +kernel
theorem dX12_wrongList_46 : decode cX12_wrongList 46 = .ok (.iload_n 1, 1) := by decide +kernel
theorem dX12_wrongList_47 : decode cX12_wrongList 47 = .ok (.imul, 1) := by decide +kernel
theorem dX12_wrongList_48 : decode cX12_wrongList 48 = .ok (.iload_n 3, 1) := by decide +kernel
theorem dX12_wrongList_49 : decode cX12_wrongList 49 = .ok (.iadd, 1) := by decide +kernel
theorem dX12_wrongList_50 : decode cX12_wrongList 50 = .ok (.iaload, 1) := by decide +kernel
theorem dX12_wrongList_51 : decode cX12_wrongList 51 = .ok (.invokevirtual 143, 3) := by decide +kernel
theorem dX12_wrongList_54 : decode cX12_wrongList 54 = .ok (.ifCond .ne 6, 3) := by decide +kernel
theorem dX12_wrongList_57 : decode cX12_wrongList 57 = .ok (.bipush (-13), 2) := by decide +kernel
theorem dX12_wrongList_59 : decode cX12_wrongList 59 = .ok (.ireturn, 1) := by decide +kernel
theorem dX12_wrongList_60 : decode cX12_wrongList 60 = .ok (.iinc 3 1, 3) := by decide +kernel
theorem dX12_wrongList_63 : decode cX12_wrongList 63 = .ok (.goto (-34), 3) := by decide +kernel
theorem dX12_wrongList_66 : decode cX12_wrongList 66 = .ok (.iconst 0, 1) := by decide +kernel
theorem dX12_wrongList_67 : decode cX12_wrongList 67 = .ok (.ireturn, 1) := by decide +kernel
theorem dX12_lays_0 : decode cX12_lays 0 = .ok (.aload_n 0, 1) := by decide +kernel
theorem dX12_lays_1 : decode cX12_lays 1 = .ok (.aload_n 0, 1) := by decide +kernel
theorem dX12_lays_2 : decode cX12_lays 2 = .ok (.getfield 25, 3) := by decide +kernel
theorem dX12_lays_5 : decode cX12_lays 5 = .ok (.iload_n 1, 1) := by decide +kernel
theorem dX12_lays_6 : decode cX12_lays 6 = .ok (.iaload, 1) := by decide +kernel
theorem dX12_lays_7 : decode cX12_lays 7 = .ok (.putfield 166, 3) := by decide +kernel
theorem dX12_lays_10 : decode cX12_lays 10 = .ok (.iconst 0, 1) := by decide +kernel
theorem dX12_lays_11 : decode cX12_lays 11 = .ok (.istore_n 3, 1) := by decide +kernel
theorem dX12_lays_12 : decode cX12_lays 12 = .ok (.iload_n 3, 1) := by decide +kernel
theorem dX12_lays_13 : decode cX12_lays 13 = .ok (.aload_n 0, 1) := by decide +kernel
theorem dX12_lays_14 : decode cX12_lays 14 = .ok (.getfield 166, 3) := by decide +kernel
theorem dX12_lays_17 : decode cX12_lays 17 = .ok (.if_icmp .ge 26, 3) := by decide +kernel
theorem dX12_lays_20 : decode cX12_lays 20 = .ok (.aload_n 0, 1) := by decide +kernel
theorem dX12_lays_21 : decode cX12_lays 21 = .ok (.getfield 40, 3) := by decide +kernel
theorem dX12_lays_24 : decode cX12_lays 24 = .ok (.iload_n 3, 1) := by decide +kernel
theorem dX12_lays_25 : decode cX12_lays 25 = .ok (.aload_n 0, 1) := by decide +kernel
theorem dX12_lays_26 : decode cX12_lays 26 = .ok (.getfield 28, 3) := by decide +kernel
theorem dX12_lays_29 : decode cX12_lays 29 = .ok (.bipush 100, 2) := by decide +kernel
theorem dX12_lays_31 : decode cX12_lays 31 = .ok (.iload_n 1, 1) := by decide +kernel
theorem dX12_lays_32 : decode cX12_lays 32 = .ok (.imul, 1) := by decide +kernel
theorem dX12_lays_33 : decode cX12_lays 33 = .ok (.iload_n 3, 1) := by decide +kernel
theorem dX12_lays_34 : decode cX12_lays 34 = .ok (.iadd, 1) := by decide +kernel
theorem dX12_lays_35 : decode cX12_lays 35 = .ok (.iaload, 1) := by decide +kernel
theorem dX12_lays_36 : decode cX12_lays 36 = .ok (.iastore, 1) := by decide +kernel
theorem dX12_lays_37 : decode cX12_lays 37 = .ok (.iinc 3 1, 3) := by decide +kernel
theorem dX12_lays_40 : decode cX12_lays 40 = .ok (.goto (-28), 3) := by decide +kernel
theorem dX12_lays_43 : decode cX12_lays 43 = .ok (.aload_n 0, 1) := by decide +kernel
theorem dX12_lays_44 : decode cX12_lays 44 = .ok (.iload_n 2, 1) := by decide +kernel
theorem dX12_lays_45 : decode cX12_lays 45 = .ok (.putfield 169, 3) := by decide +kernel
theorem dX12_lays_48 : decode cX12_lays 48 = .ok (.aload_n 0, 1) := by decide +kernel
theorem dX12_lays_49 : decode cX12_lays 49 = .ok (.invokevirtual 172, 3) := by decide +kernel
theorem dX12_lays_52 : decode cX12_lays 52 = .ok (.return_, 1) := by decide +kernel
theorem dX12_begins_0 : decode cX12_begins 0 = .ok (.aload_n 0, 1) := by decide +kernel
theorem dX12_begins_1 : decode cX12_begins 1 = .ok (.aload_n 0, 1) := by decide +kernel
theorem dX12_begins_2 : decode cX12_begins 2 = .ok (.getfield 9, 3) := by decide +kernel
theorem dX12_begins_5 : decode cX12_begins 5 = .ok (.iconst 0, 1) := by decide +kernel
theorem dX12_begins_6 : decode cX12_begins 6 = .ok (.iaload, 1) := by decide +kernel
theorem dX12_begins_7 : decode cX12_begins 7 = .ok (.putfield 175, 3) := by decide +kernel
theorem dX12_begins_10 : decode cX12_begins 10 = .ok (.aload_n 0, 1) := by decide +kernel
theorem dX12_begins_11 : decode cX12_begins 11 = .ok (.aload_n 0, 1) := by decide +kernel
theorem dX12_begins_12 : decode cX12_begins 12 = .ok (.getfield 9, 3) := by decide +kernel
theorem dX12_begins_15 : decode cX12_begins 15 = .ok (.iconst 1, 1) := by decide +kernel
theorem dX12_begins_16 : decode cX12_begins 16 = .ok (.iaload, 1) := by decide +kernel
theorem dX12_begins_17 : decode cX12_begins 17 = .ok (.putfield 178, 3) := by decide +kernel
theorem dX12_begins_20 : decode cX12_begins 20 = .ok (.aload_n 0, 1) := by decide +kernel
theorem dX12_begins_21 : decode cX12_begins 21 = .ok (.iconst 0, 1) := by decide +kernel
theorem dX12_begins_22 : decode cX12_begins 22 = .ok (.putfield 181, 3) := by decide +kernel
theorem dX12_begins_25 : decode cX12_begins 25 = .ok (.aload_n 0, 1) := by decide +kernel
theorem dX12_begins_26 : decode cX12_begins 26 = .ok (.iconst 0, 1) := by decide +kernel
theorem dX12_begins_27 : decode cX12_begins 27 = .ok (.putfield 184, 3) := by decide +kernel
theorem dX12_begins_30 : decode cX12_begins 30 = .ok (.return_, 1) := by decide +kernel
theorem dX12_evenYear_0 : decode cX12_evenYear 0 = .ok (.iconst 0, 1) := by decide +kernel
theorem dX12_evenYear_1 : decode cX12_evenYear 1 = .ok (.istore_n 1, 1) := by decide +kernel
theorem dX12_evenYear_2 : decode cX12_evenYear 2 = .ok (.iload_n 1, 1) := by decide +kernel
theorem dX12_evenYear_3 : decode cX12_evenYear 3 = .ok (.aload_n 0, 1) := by decide +kernel
theorem dX12_evenYear_4 : decode cX12_evenYear 4 = .ok (.getfield 166, 3) := by decide +kernel
theorem dX12_evenYear_7 : decode cX12_evenYear 7 = .ok (.if_icmp .ge 192, 3) := by decide +kernel
theorem dX12_evenYear_10 : decode cX12_evenYear 10 = .ok (.aload_n 0, 1) := by decide +kernel
theorem dX12_evenYear_11 : decode cX12_evenYear 11 = .ok (.getfield 40, 3) := by decide +kernel
theorem dX12_evenYear_14 : decode cX12_evenYear 14 = .ok (.iload_n 1, 1) := by decide +kernel
theorem dX12_evenYear_15 : decode cX12_evenYear 15 = .ok (.iaload, 1) := by decide +kernel
theorem dX12_evenYear_16 : decode cX12_evenYear 16 = .ok (.istore_n 2, 1) := by decide +kernel
theorem dX12_evenYear_17 : decode cX12_evenYear 17 = .ok (.aload_n 0, 1) := by decide +kernel
theorem dX12_evenYear_18 : decode cX12_evenYear 18 = .ok (.getfield 49, 3) := by decide +kernel
theorem dX12_evenYear_21 : decode cX12_evenYear 21 = .ok (.iload_n 1, 1) := by decide +kernel
theorem dX12_evenYear_22 : decode cX12_evenYear 22 = .ok (.iconst 0, 1) := by decide +kernel
theorem dX12_evenYear_23 : decode cX12_evenYear 23 = .ok (.iastore, 1) := by decide +kernel
theorem dX12_evenYear_24 : decode cX12_evenYear 24 = .ok (.aload_n 0, 1) := by decide +kernel
theorem dX12_evenYear_25 : decode cX12_evenYear 25 = .ok (.getfield 43, 3) := by decide +kernel
theorem dX12_evenYear_28 : decode cX12_evenYear 28 = .ok (.iload_n 1, 1) := by decide +kernel
theorem dX12_evenYear_29 : decode cX12_evenYear 29 = .ok (.iconst 0, 1) := by decide +kernel
theorem dX12_evenYear_30 : decode cX12_evenYear 30 = .ok (.iastore, 1) := by decide +kernel
theorem dX12_evenYear_31 : decode cX12_evenYear 31 = .ok (.aload_n 0, 1) := by decide +kernel
theorem dX12_evenYear_32 : decode cX12_evenYear 32 = .ok (.iload_n 2, 1) := by decide +kernel
theorem dX12_evenYear_33 : decode cX12_evenYear 33 = .ok (.aload_n 0, 1) := by decide +kernel
theorem dX12_evenYear_34 : decode cX12_evenYear 34 = .ok (.getfield 175, 3) := by decide +kernel
theorem dX12_evenYear_37 : decode cX12_evenYear 37 = .ok (.aload_n 0, 1) := by decide +kernel
theorem dX12_evenYear_38 : decode cX12_evenYear 38 = .ok (.getfield 178, 3) := by decide +kernel
theorem dX12_evenYear_41 : decode cX12_evenYear 41 = .ok (.invokevirtual 162, 3) := by decide +kernel
theorem dX12_evenYear_44 : decode cX12_evenYear 44 = .ok (.ifCond .eq 139, 3) := by decide +kernel
theorem dX12_evenYear_47 : decode cX12_evenYear 47 = .ok (.aload_n 0, 1) := by decide +kernel
theorem dX12_evenYear_48 : decode cX12_evenYear 48 = .ok (.iload_n 2, 1) := by decide +kernel
theorem dX12_evenYear_49 : decode cX12_evenYear 49 = .ok (.aload_n 0, 1) := by decide +kernel
theorem dX12_evenYear_50 : decode cX12_evenYear 50 = .ok (.getfield 175, 3) := by decide +kernel
theorem dX12_evenYear_53 : decode cX12_evenYear 53 = .ok (.invokevirtual 187, 3) := by decide +kernel
theorem dX12_evenYear_56 : decode cX12_evenYear 56 = .ok (.istore_n 3, 1) := by decide +kernel
theorem dX12_evenYear_57 : decode cX12_evenYear 57 = .ok (.aload_n 0, 1) := by decide +kernel
theorem dX12_evenYear_58 : decode cX12_evenYear 58 = .ok (.getfield 43, 3) := by decide +kernel
theorem dX12_evenYear_61 : decode cX12_evenYear 61 = .ok (.iload_n 1, 1) := by decide +kernel
theorem dX12_evenYear_62 : decode cX12_evenYear 62 = .ok (.iload_n 3, 1) := by decide +kernel
theorem dX12_evenYear_63 : decode cX12_evenYear 63 = .ok (.aload_n 0, 1) := by decide +kernel
theorem dX12_evenYear_64 : decode cX12_evenYear 64 = .ok (.getfield 175, 3) := by decide +kernel
theorem dX12_evenYear_67 : decode cX12_evenYear 67 = .ok (.ixor, 1) := by decide +kernel
theorem dX12_evenYear_68 : decode cX12_evenYear 68 = .ok (.iastore, 1) := by decide +kernel
theorem dX12_evenYear_69 : decode cX12_evenYear 69 = .ok (.aload_n 0, 1) := by decide +kernel
theorem dX12_evenYear_70 : decode cX12_evenYear 70 = .ok (.getfield 46, 3) := by decide +kernel
theorem dX12_evenYear_73 : decode cX12_evenYear 73 = .ok (.iload_n 1, 1) := by decide +kernel
theorem dX12_evenYear_74 : decode cX12_evenYear 74 = .ok (.aload_n 0, 1) := by decide +kernel
theorem dX12_evenYear_75 : decode cX12_evenYear 75 = .ok (.getfield 175, 3) := by decide +kernel
theorem dX12_evenYear_78 : decode cX12_evenYear 78 = .ok (.aload_n 0, 1) := by decide +kernel
theorem dX12_evenYear_79 : decode cX12_evenYear 79 = .ok (.getfield 43, 3) := by decide +kernel
theorem dX12_evenYear_82 : decode cX12_evenYear 82 = .ok (.iload_n 1, 1) := by decide +kernel
theorem dX12_evenYear_83 : decode cX12_evenYear 83 = .ok (.iaload, 1) := by decide +kernel
theorem dX12_evenYear_84 : decode cX12_evenYear 84 = .ok (.iand, 1) := by decide +kernel
theorem dX12_evenYear_85 : decode cX12_evenYear 85 = .ok (.iastore, 1) := by decide +kernel
theorem dX12_evenYear_86 : decode cX12_evenYear 86 = .ok (.aload_n 0, 1) := by decide +kernel
theorem dX12_evenYear_87 : decode cX12_evenYear 87 = .ok (.iload_n 3, 1) := by decide +kernel
theorem dX12_evenYear_88 : decode cX12_evenYear 88 = .ok (.putfield 175, 3) := by decide +kernel
theorem dX12_evenYear_91 : decode cX12_evenYear 91 = .ok (.aload_n 0, 1) := by decide +kernel
theorem dX12_evenYear_92 : decode cX12_evenYear 92 = .ok (.dup, 1) := by decide +kernel
theorem dX12_evenYear_93 : decode cX12_evenYear 93 = .ok (.getfield 178, 3) := by decide +kernel
theorem dX12_evenYear_96 : decode cX12_evenYear 96 = .ok (.aload_n 0, 1) := by decide +kernel
theorem dX12_evenYear_97 : decode cX12_evenYear 97 = .ok (.iload_n 2, 1) := by decide +kernel
theorem dX12_evenYear_98 : decode cX12_evenYear 98 = .ok (.invokevirtual 139, 3) := by decide +kernel
theorem dX12_evenYear_101 : decode cX12_evenYear 101 = .ok (.isub, 1) := by decide +kernel
theorem dX12_evenYear_102 : decode cX12_evenYear 102 = .ok (.putfield 178, 3) := by decide +kernel
theorem dX12_evenYear_105 : decode cX12_evenYear 105 = .ok (.aload_n 0, 1) := by decide +kernel
theorem dX12_evenYear_106 : decode cX12_evenYear 106 = .ok (.getfield 49, 3) := by decide +kernel
theorem dX12_evenYear_109 : decode cX12_evenYear 109 = .ok (.iload_n 1, 1) := by decide +kernel
theorem dX12_evenYear_110 : decode cX12_evenYear 110 = .ok (.aload_n 0, 1) := by decide +kernel
theorem dX12_evenYear_111 : decode cX12_evenYear 111 = .ok (.iload_n 2, 1) := by decide +kernel
theorem dX12_evenYear_112 : decode cX12_evenYear 112 = .ok (.invokevirtual 151, 3) := by decide +kernel
theorem dX12_evenYear_115 : decode cX12_evenYear 115 = .ok (.ifCond .eq 7, 3) := by decide +kernel
theorem dX12_evenYear_118 : decode cX12_evenYear 118 = .ok (.iconst 3, 1) := by decide +kernel
theorem dX12_evenYear_119 : decode cX12_evenYear 119 = .ok (.goto 4, 3) := by decide +kernel
theorem dX12_evenYear_122 : decode cX12_evenYear 122 = .ok (.iconst 1, 1) := by decide +kernel
theorem dX12_evenYear_123 : decode cX12_evenYear 123 = .ok (.iastore, 1) := by decide +kernel
theorem dX12_evenYear_124 : decode cX12_evenYear 124 = .ok (.aload_n 0, 1) := by decide +kernel
theorem dX12_evenYear_125 : decode cX12_evenYear 125 = .ok (.getfield 169, 3) := by decide +kernel
theorem dX12_evenYear_128 : decode cX12_evenYear 128 = .ok (.iload_n 1, 1) := by decide +kernel
theorem dX12_evenYear_129 : decode cX12_evenYear 129 = .ok (.ishr, 1) := by decide +kernel
theorem dX12_evenYear_130 : decode cX12_evenYear 130 = .ok (.iconst 1, 1) := by decide +kernel
theorem dX12_evenYear_131 : decode cX12_evenYear 131 = .ok (.iand, 1) := by decide +kernel
theorem dX12_evenYear_132 : decode cX12_evenYear 132 = .ok (.iconst 1, 1) := by decide +kernel
theorem dX12_evenYear_133 : decode cX12_evenYear 133 = .ok (.if_icmp .ne 50, 3) := by decide +kernel
theorem dX12_evenYear_136 : decode cX12_evenYear 136 = .ok (.aload_n 0, 1) := by decide +kernel
theorem dX12_evenYear_137 : decode cX12_evenYear 137 = .ok (.getfield 178, 3) := by decide +kernel
theorem dX12_evenYear_140 : decode cX12_evenYear 140 = .ok (.aload_n 0, 1) := by decide +kernel
theorem dX12_evenYear_141 : decode cX12_evenYear 141 = .ok (.iload_n 1, 1) := by decide +kernel
theorem dX12_evenYear_142 : decode cX12_evenYear 142 = .ok (.invokevirtual 190, 3) := by decide +kernel
theorem dX12_evenYear_145 : decode cX12_evenYear 145 = .ok (.if_icmp .lt 38, 3) := by decide +kernel
theorem dX12_evenYear_148 : decode cX12_evenYear 148 = .ok (.aload_n 0, 1) := by decide +kernel
theorem dX12_evenYear_149 : decode cX12_evenYear 149 = .ok (.dup, 1) := by decide +kernel
theorem dX12_evenYear_150 : decode cX12_evenYear 150 = .ok (.getfield 178, 3) := by decide +kernel
theorem dX12_evenYear_153 : decode cX12_evenYear 153 = .ok (.aload_n 0, 1) := by decide +kernel
theorem dX12_evenYear_154 : decode cX12_evenYear 154 = .ok (.iload_n 1, 1) := by decide +kernel
theorem dX12_evenYear_155 : decode cX12_evenYear 155 = .ok (.invokevirtual 190, 3) := by decide +kernel
theorem dX12_evenYear_158 : decode cX12_evenYear 158 = .ok (.isub, 1) := by decide +kernel
theorem dX12_evenYear_159 : decode cX12_evenYear 159 = .ok (.putfield 178, 3) := by decide +kernel
theorem dX12_evenYear_162 : decode cX12_evenYear 162 = .ok (.aload_n 0, 1) := by decide +kernel
theorem dX12_evenYear_163 : decode cX12_evenYear 163 = .ok (.dup, 1) := by decide +kernel
theorem dX12_evenYear_164 : decode cX12_evenYear 164 = .ok (.getfield 181, 3) := by decide +kernel
theorem dX12_evenYear_167 : decode cX12_evenYear 167 = .ok (.aload_n 0, 1) := by decide +kernel
theorem dX12_evenYear_168 : decode cX12_evenYear 168 = .ok (.iload_n 1, 1) := by decide +kernel
theorem dX12_evenYear_169 : decode cX12_evenYear 169 = .ok (.invokevirtual 190, 3) := by decide +kernel
theorem dX12_evenYear_172 : decode cX12_evenYear 172 = .ok (.iadd, 1) := by decide +kernel
theorem dX12_evenYear_173 : decode cX12_evenYear 173 = .ok (.putfield 181, 3) := by decide +kernel
theorem dX12_evenYear_176 : decode cX12_evenYear 176 = .ok (.aload_n 0, 1) := by decide +kernel
theorem dX12_evenYear_177 : decode cX12_evenYear 177 = .ok (.getfield 49, 3) := by decide +kernel
theorem dX12_evenYear_180 : decode cX12_evenYear 180 = .ok (.iload_n 1, 1) := by decide +kernel
theorem dX12_evenYear_181 : decode cX12_evenYear 181 = .ok (.iconst 2, 1) := by decide +kernel
theorem dX12_evenYear_182 : decode cX12_evenYear 182 = .ok (.iastore, 1) := by decide +kernel
theorem dX12_evenYear_183 : decode cX12_evenYear 183 = .ok (.aload_n 0, 1) := by decide +kernel
theorem dX12_evenYear_184 : decode cX12_evenYear 184 = .ok (.getfield 52, 3) := by decide +kernel
theorem dX12_evenYear_187 : decode cX12_evenYear 187 = .ok (.iload_n 1, 1) := by decide +kernel
theorem dX12_evenYear_188 : decode cX12_evenYear 188 = .ok (.aload_n 0, 1) := by decide +kernel
theorem dX12_evenYear_189 : decode cX12_evenYear 189 = .ok (.getfield 175, 3) := by decide +kernel
theorem dX12_evenYear_192 : decode cX12_evenYear 192 = .ok (.iastore, 1) := by decide +kernel
theorem dX12_evenYear_193 : decode cX12_evenYear 193 = .ok (.iinc 1 1, 3) := by decide +kernel
theorem dX12_evenYear_196 : decode cX12_evenYear 196 = .ok (.goto (-194), 3) := by decide +kernel
theorem dX12_evenYear_199 : decode cX12_evenYear 199 = .ok (.return_, 1) := by decide +kernel
theorem dX12_undoes_0 : decode cX12_undoes 0 = .ok (.aload_n 0, 1) := by decide +kernel
theorem dX12_undoes_1 : decode cX12_undoes 1 = .ok (.aload_n 0, 1) := by decide +kernel
theorem dX12_undoes_2 : decode cX12_undoes 2 = .ok (.getfield 175, 3) := by decide +kernel
theorem dX12_undoes_5 : decode cX12_undoes 5 = .ok (.aload_n 0, 1) := by decide +kernel
theorem dX12_undoes_6 : decode cX12_undoes 6 = .ok (.getfield 43, 3) := by decide +kernel
theorem dX12_undoes_9 : decode cX12_undoes 9 = .ok (.iload_n 1, 1) := by decide +kernel
theorem dX12_undoes_10 : decode cX12_undoes 10 = .ok (.iaload, 1) := by decide +kernel
theorem dX12_undoes_11 : decode cX12_undoes 11 = .ok (.iconst (-1), 1) := by decide +kernel
theorem dX12_undoes_12 : decode cX12_undoes 12 = .ok (.ixor, 1) := by decide +kernel
theorem dX12_undoes_13 : decode cX12_undoes 13 = .ok (.iand, 1) := by decide +kernel
theorem dX12_undoes_14 : decode cX12_undoes 14 = .ok (.aload_n 0, 1) := by decide +kernel
theorem dX12_undoes_15 : decode cX12_undoes 15 = .ok (.getfield 46, 3) := by decide +kernel
theorem dX12_undoes_18 : decode cX12_undoes 18 = .ok (.iload_n 1, 1) := by decide +kernel
theorem dX12_undoes_19 : decode cX12_undoes 19 = .ok (.iaload, 1) := by decide +kernel
theorem dX12_undoes_20 : decode cX12_undoes 20 = .ok (.ior, 1) := by decide +kernel
theorem dX12_undoes_21 : decode cX12_undoes 21 = .ok (.putfield 175, 3) := by decide +kernel
theorem dX12_undoes_24 : decode cX12_undoes 24 = .ok (.aload_n 0, 1) := by decide +kernel
theorem dX12_undoes_25 : decode cX12_undoes 25 = .ok (.dup, 1) := by decide +kernel
theorem dX12_undoes_26 : decode cX12_undoes 26 = .ok (.getfield 178, 3) := by decide +kernel
theorem dX12_undoes_29 : decode cX12_undoes 29 = .ok (.aload_n 0, 1) := by decide +kernel
theorem dX12_undoes_30 : decode cX12_undoes 30 = .ok (.aload_n 0, 1) := by decide +kernel
theorem dX12_undoes_31 : decode cX12_undoes 31 = .ok (.getfield 40, 3) := by decide +kernel
theorem dX12_undoes_34 : decode cX12_undoes 34 = .ok (.iload_n 1, 1) := by decide +kernel
theorem dX12_undoes_35 : decode cX12_undoes 35 = .ok (.iaload, 1) := by decide +kernel
theorem dX12_undoes_36 : decode cX12_undoes 36 = .ok (.invokevirtual 148, 3) := by decide +kernel
theorem dX12_undoes_39 : decode cX12_undoes 39 = .ok (.iadd, 1) := by decide +kernel
theorem dX12_undoes_40 : decode cX12_undoes 40 = .ok (.putfield 178, 3) := by decide +kernel
theorem dX12_undoes_43 : decode cX12_undoes 43 = .ok (.aload_n 0, 1) := by decide +kernel
theorem dX12_undoes_44 : decode cX12_undoes 44 = .ok (.aload_n 0, 1) := by decide +kernel
theorem dX12_undoes_45 : decode cX12_undoes 45 = .ok (.getfield 178, 3) := by decide +kernel
theorem dX12_undoes_48 : decode cX12_undoes 48 = .ok (.sipush 9999, 3) := by decide +kernel
theorem dX12_undoes_51 : decode cX12_undoes 51 = .ok (.if_icmp .le 9, 3) := by decide +kernel
theorem dX12_undoes_54 : decode cX12_undoes 54 = .ok (.sipush 9999, 3) := by decide +kernel
theorem dX12_undoes_57 : decode cX12_undoes 57 = .ok (.goto 7, 3) := by decide +kernel
theorem dX12_undoes_60 : decode cX12_undoes 60 = .ok (.aload_n 0, 1) := by decide +kernel
theorem dX12_undoes_61 : decode cX12_undoes 61 = .ok (.getfield 178, 3) := by decide +kernel
theorem dX12_undoes_64 : decode cX12_undoes 64 = .ok (.putfield 178, 3) := by decide +kernel
theorem dX12_undoes_67 : decode cX12_undoes 67 = .ok (.aload_n 0, 1) := by decide +kernel
theorem dX12_undoes_68 : decode cX12_undoes 68 = .ok (.getfield 49, 3) := by decide +kernel
theorem dX12_undoes_71 : decode cX12_undoes 71 = .ok (.iload_n 1, 1) := by decide +kernel
theorem dX12_undoes_72 : decode cX12_undoes 72 = .ok (.iload_n 2, 1) := by decide +kernel
theorem dX12_undoes_73 : decode cX12_undoes 73 = .ok (.iastore, 1) := by decide +kernel
theorem dX12_undoes_74 : decode cX12_undoes 74 = .ok (.aload_n 0, 1) := by decide +kernel
theorem dX12_undoes_75 : decode cX12_undoes 75 = .ok (.dup, 1) := by decide +kernel
theorem dX12_undoes_76 : decode cX12_undoes 76 = .ok (.getfield 184, 3) := by decide +kernel
theorem dX12_undoes_79 : decode cX12_undoes 79 = .ok (.iconst 1, 1) := by decide +kernel
theorem dX12_undoes_80 : decode cX12_undoes 80 = .ok (.iadd, 1) := by decide +kernel
theorem dX12_undoes_81 : decode cX12_undoes 81 = .ok (.putfield 184, 3) := by decide +kernel
theorem dX12_undoes_84 : decode cX12_undoes 84 = .ok (.return_, 1) := by decide +kernel
theorem dX12_holds_0 : decode cX12_holds 0 = .ok (.aload_n 0, 1) := by decide +kernel
theorem dX12_holds_1 : decode cX12_holds 1 = .ok (.getfield 49, 3) := by decide +kernel
theorem dX12_holds_4 : decode cX12_holds 4 = .ok (.iload_n 1, 1) := by decide +kernel
theorem dX12_holds_5 : decode cX12_holds 5 = .ok (.iaload, 1) := by decide +kernel
theorem dX12_holds_6 : decode cX12_holds 6 = .ok (.iconst 2, 1) := by decide +kernel
theorem dX12_holds_7 : decode cX12_holds 7 = .ok (.if_icmp .eq 13, 3) := by decide +kernel
theorem dX12_holds_10 : decode cX12_holds 10 = .ok (.aload_n 0, 1) := by decide +kernel
theorem dX12_holds_11 : decode cX12_holds 11 = .ok (.getfield 49, 3) := by decide +kernel
theorem dX12_holds_14 : decode cX12_holds 14 = .ok (.iload_n 1, 1) := by decide +kernel
theorem dX12_holds_15 : decode cX12_holds 15 = .ok (.iaload, 1) := by decide +kernel
theorem dX12_holds_16 : decode cX12_holds 16 = .ok (.iconst 3, 1) := by decide +kernel
theorem dX12_holds_17 : decode cX12_holds 17 = .ok (.if_icmp .ne 7, 3) := by decide +kernel
theorem dX12_holds_20 : decode cX12_holds 20 = .ok (.iconst 1, 1) := by decide +kernel
theorem dX12_holds_21 : decode cX12_holds 21 = .ok (.goto 4, 3) := by decide +kernel
theorem dX12_holds_24 : decode cX12_holds 24 = .ok (.iconst 0, 1) := by decide +kernel
theorem dX12_holds_25 : decode cX12_holds 25 = .ok (.ireturn, 1) := by decide +kernel
theorem dX12_isHeld_0 : decode cX12_isHeld 0 = .ok (.iload_n 1, 1) := by decide +kernel
theorem dX12_isHeld_1 : decode cX12_isHeld 1 = .ok (.iconst 1, 1) := by decide +kernel
theorem dX12_isHeld_2 : decode cX12_isHeld 2 = .ok (.iadd, 1) := by decide +kernel
theorem dX12_isHeld_3 : decode cX12_isHeld 3 = .ok (.istore_n 2, 1) := by decide +kernel
theorem dX12_isHeld_4 : decode cX12_isHeld 4 = .ok (.iload_n 2, 1) := by decide +kernel
theorem dX12_isHeld_5 : decode cX12_isHeld 5 = .ok (.aload_n 0, 1) := by decide +kernel
theorem dX12_isHeld_6 : decode cX12_isHeld 6 = .ok (.getfield 166, 3) := by decide +kernel
theorem dX12_isHeld_9 : decode cX12_isHeld 9 = .ok (.if_icmp .ge 40, 3) := by decide +kernel
theorem dX12_isHeld_12 : decode cX12_isHeld 12 = .ok (.aload_n 0, 1) := by decide +kernel
theorem dX12_isHeld_13 : decode cX12_isHeld 13 = .ok (.iload_n 2, 1) := by decide +kernel
theorem dX12_isHeld_14 : decode cX12_isHeld 14 = .ok (.invokevirtual 193, 3) := by decide +kernel
theorem dX12_isHeld_17 : decode cX12_isHeld 17 = .ok (.ifCond .eq 26, 3) := by decide +kernel
theorem dX12_isHeld_20 : decode cX12_isHeld 20 = .ok (.aload_n 0, 1) := by decide +kernel
theorem dX12_isHeld_21 : decode cX12_isHeld 21 = .ok (.aload_n 0, 1) := by decide +kernel
theorem dX12_isHeld_22 : decode cX12_isHeld 22 = .ok (.getfield 40, 3) := by decide +kernel
theorem dX12_isHeld_25 : decode cX12_isHeld 25 = .ok (.iload_n 2, 1) := by decide +kernel
theorem dX12_isHeld_26 : decode cX12_isHeld 26 = .ok (.iaload, 1) := by decide +kernel
theorem dX12_isHeld_27 : decode cX12_isHeld 27 = .ok (.iconst 1, 1) := by decide +kernel
theorem dX12_isHeld_28 : decode cX12_isHeld 28 = .ok (.invokevirtual 136, 3) := by decide +kernel
theorem dX12_isHeld_31 : decode cX12_isHeld 31 = .ok (.aload_n 0, 1) := by decide +kernel
theorem dX12_isHeld_32 : decode cX12_isHeld 32 = .ok (.getfield 43, 3) := by decide +kernel
theorem dX12_isHeld_35 : decode cX12_isHeld 35 = .ok (.iload_n 1, 1) := by decide +kernel
theorem dX12_isHeld_36 : decode cX12_isHeld 36 = .ok (.iaload, 1) := by decide +kernel
theorem dX12_isHeld_37 : decode cX12_isHeld 37 = .ok (.iand, 1) := by decide +kernel
theorem dX12_isHeld_38 : decode cX12_isHeld 38 = .ok (.ifCond .eq 5, 3) := by decide +kernel
theorem dX12_isHeld_41 : decode cX12_isHeld 41 = .ok (.iconst 1, 1) := by decide +kernel
theorem dX12_isHeld_42 : decode cX12_isHeld 42 = .ok (.ireturn, 1) := by decide +kernel
theorem dX12_isHeld_43 : decode cX12_isHeld 43 = .ok (.iinc 2 1, 3) := by decide +kernel
theorem dX12_isHeld_46 : decode cX12_isHeld 46 = .ok (.goto (-42), 3) := by decide +kernel
theorem dX12_isHeld_49 : decode cX12_isHeld 49 = .ok (.iconst 0, 1) := by decide +kernel
theorem dX12_isHeld_50 : decode cX12_isHeld 50 = .ok (.ireturn, 1) := by decide +kernel
theorem dX12_falls_0 : decode cX12_falls 0 = .ok (.iconst 1, 1) := by decide +kernel
theorem dX12_falls_1 : decode cX12_falls 1 = .ok (.istore_n 1, 1) := by decide +kernel
theorem dX12_falls_2 : decode cX12_falls 2 = .ok (.iload_n 1, 1) := by decide +kernel
theorem dX12_falls_3 : decode cX12_falls 3 = .ok (.ifCond .eq 65, 3) := by decide +kernel
theorem dX12_falls_6 : decode cX12_falls 6 = .ok (.iconst 0, 1) := by decide +kernel
theorem dX12_falls_7 : decode cX12_falls 7 = .ok (.istore_n 1, 1) := by decide +kernel
theorem dX12_falls_8 : decode cX12_falls 8 = .ok (.aload_n 0, 1) := by decide +kernel
theorem dX12_falls_9 : decode cX12_falls 9 = .ok (.getfield 166, 3) := by decide +kernel
theorem dX12_falls_12 : decode cX12_falls 12 = .ok (.iconst 1, 1) := by decide +kernel
theorem dX12_falls_13 : decode cX12_falls 13 = .ok (.isub, 1) := by decide +kernel
theorem dX12_falls_14 : decode cX12_falls 14 = .ok (.istore_n 2, 1) := by decide +kernel
theorem dX12_falls_15 : decode cX12_falls 15 = .ok (.iload_n 2, 1) := by decide +kernel
theorem dX12_falls_16 : decode cX12_falls 16 = .ok (.ifCond .lt 49, 3) := by decide +kernel
theorem dX12_falls_19 : decode cX12_falls 19 = .ok (.aload_n 0, 1) := by decide +kernel
theorem dX12_falls_20 : decode cX12_falls 20 = .ok (.iload_n 2, 1) := by decide +kernel
theorem dX12_falls_21 : decode cX12_falls 21 = .ok (.invokevirtual 193, 3) := by decide +kernel
theorem dX12_falls_24 : decode cX12_falls 24 = .ok (.ifCond .eq 35, 3) := by decide +kernel
theorem dX12_falls_27 : decode cX12_falls 27 = .ok (.aload_n 0, 1) := by decide +kernel
theorem dX12_falls_28 : decode cX12_falls 28 = .ok (.aload_n 0, 1) := by decide +kernel
theorem dX12_falls_29 : decode cX12_falls 29 = .ok (.getfield 40, 3) := by decide +kernel
theorem dX12_falls_32 : decode cX12_falls 32 = .ok (.iload_n 2, 1) := by decide +kernel
theorem dX12_falls_33 : decode cX12_falls 33 = .ok (.iaload, 1) := by decide +kernel
theorem dX12_falls_34 : decode cX12_falls 34 = .ok (.iconst 1, 1) := by decide +kernel
theorem dX12_falls_35 : decode cX12_falls 35 = .ok (.invokevirtual 136, 3) := by decide +kernel
theorem dX12_falls_38 : decode cX12_falls 38 = .ok (.aload_n 0, 1) := by decide +kernel
theorem dX12_falls_39 : decode cX12_falls 39 = .ok (.getfield 175, 3) := by decide +kernel
theorem dX12_falls_42 : decode cX12_falls 42 = .ok (.iconst (-1), 1) := by decide +kernel
theorem dX12_falls_43 : decode cX12_falls 43 = .ok (.ixor, 1) := by decide +kernel
theorem dX12_falls_44 : decode cX12_falls 44 = .ok (.iand, 1) := by decide +kernel
theorem dX12_falls_45 : decode cX12_falls 45 = .ok (.ifCond .ne 6, 3) := by decide +kernel
theorem dX12_falls_48 : decode cX12_falls 48 = .ok (.goto 11, 3) := by decide +kernel
theorem dX12_falls_51 : decode cX12_falls 51 = .ok (.aload_n 0, 1) := by decide +kernel
theorem dX12_falls_52 : decode cX12_falls 52 = .ok (.iload_n 2, 1) := by decide +kernel
theorem dX12_falls_53 : decode cX12_falls 53 = .ok (.iconst 5, 1) := by decide +kernel
theorem dX12_falls_54 : decode cX12_falls 54 = .ok (.invokevirtual 196, 3) := by decide +kernel
theorem dX12_falls_57 : decode cX12_falls 57 = .ok (.iconst 1, 1) := by decide +kernel
theorem dX12_falls_58 : decode cX12_falls 58 = .ok (.istore_n 1, 1) := by decide +kernel
theorem dX12_falls_59 : decode cX12_falls 59 = .ok (.iinc 2 (-1), 3) := by decide +kernel
theorem dX12_falls_62 : decode cX12_falls 62 = .ok (.goto (-47), 3) := by decide +kernel
theorem dX12_falls_65 : decode cX12_falls 65 = .ok (.goto (-63), 3) := by decide +kernel
theorem dX12_falls_68 : decode cX12_falls 68 = .ok (.return_, 1) := by decide +kernel
theorem dX12_oddYear_0 : decode cX12_oddYear 0 = .ok (.aload_n 0, 1) := by decide +kernel
theorem dX12_oddYear_1 : decode cX12_oddYear 1 = .ok (.getfield 166, 3) := by decide +kernel
theorem dX12_oddYear_4 : decode cX12_oddYear 4 = .ok (.iconst 1, 1) := by decide +kernel
theorem dX12_oddYear_5 : decode cX12_oddYear 5 = .ok (.isub, 1) := by decide +kernel
theorem dX12_oddYear_6 : decode cX12_oddYear 6 = .ok (.istore_n 1, 1) := by decide +kernel
theorem dX12_oddYear_7 : decode cX12_oddYear 7 = .ok (.iload_n 1, 1) := by decide +kernel
theorem dX12_oddYear_8 : decode cX12_oddYear 8 = .ok (.ifCond .lt 69, 3) := by decide +kernel
theorem dX12_oddYear_11 : decode cX12_oddYear 11 = .ok (.aload_n 0, 1) := by decide +kernel
theorem dX12_oddYear_12 : decode cX12_oddYear 12 = .ok (.getfield 49, 3) := by decide +kernel
theorem dX12_oddYear_15 : decode cX12_oddYear 15 = .ok (.iload_n 1, 1) := by decide +kernel
theorem dX12_oddYear_16 : decode cX12_oddYear 16 = .ok (.iaload, 1) := by decide +kernel
theorem dX12_oddYear_17 : decode cX12_oddYear 17 = .ok (.iconst 1, 1) := by decide +kernel
theorem dX12_oddYear_18 : decode cX12_oddYear 18 = .ok (.if_icmp .eq 6, 3) := by decide +kernel
theorem dX12_oddYear_21 : decode cX12_oddYear 21 = .ok (.goto 50, 3) := by decide +kernel
theorem dX12_oddYear_24 : decode cX12_oddYear 24 = .ok (.aload_n 0, 1) := by decide +kernel
theorem dX12_oddYear_25 : decode cX12_oddYear 25 = .ok (.getfield 9, 3) := by decide +kernel
theorem dX12_oddYear_28 : decode cX12_oddYear 28 = .ok (.iconst 3, 1) := by decide +kernel
theorem dX12_oddYear_29 : decode cX12_oddYear 29 = .ok (.iaload, 1) := by decide +kernel
theorem dX12_oddYear_30 : decode cX12_oddYear 30 = .ok (.iconst 1, 1) := by decide +kernel
theorem dX12_oddYear_31 : decode cX12_oddYear 31 = .ok (.if_icmp .ne 21, 3) := by decide +kernel
theorem dX12_oddYear_34 : decode cX12_oddYear 34 = .ok (.aload_n 0, 1) := by decide +kernel
theorem dX12_oddYear_35 : decode cX12_oddYear 35 = .ok (.iload_n 1, 1) := by decide +kernel
theorem dX12_oddYear_36 : decode cX12_oddYear 36 = .ok (.invokevirtual 200, 3) := by decide +kernel
theorem dX12_oddYear_39 : decode cX12_oddYear 39 = .ok (.ifCond .eq 13, 3) := by decide +kernel
theorem dX12_oddYear_42 : decode cX12_oddYear 42 = .ok (.aload_n 0, 1) := by decide +kernel
theorem dX12_oddYear_43 : decode cX12_oddYear 43 = .ok (.getfield 49, 3) := by decide +kernel
theorem dX12_oddYear_46 : decode cX12_oddYear 46 = .ok (.iload_n 1, 1) := by decide +kernel
theorem dX12_oddYear_47 : decode cX12_oddYear 47 = .ok (.iconst 4, 1) := by decide +kernel
theorem dX12_oddYear_48 : decode cX12_oddYear 48 = .ok (.iastore, 1) := by decide +kernel
theorem dX12_oddYear_49 : decode cX12_oddYear 49 = .ok (.goto 22, 3) := by decide +kernel
theorem dX12_oddYear_52 : decode cX12_oddYear 52 = .ok (.aload_n 0, 1) := by decide +kernel
theorem dX12_oddYear_53 : decode cX12_oddYear 53 = .ok (.iload_n 1, 1) := by decide +kernel
theorem dX12_oddYear_54 : decode cX12_oddYear 54 = .ok (.iconst 1, 1) := by decide +kernel
theorem dX12_oddYear_55 : decode cX12_oddYear 55 = .ok (.invokevirtual 196, 3) := by decide +kernel
theorem dX12_oddYear_58 : decode cX12_oddYear 58 = .ok (.aload_n 0, 1) := by decide +kernel
theorem dX12_oddYear_59 : decode cX12_oddYear 59 = .ok (.getfield 9, 3) := by decide +kernel
theorem dX12_oddYear_62 : decode cX12_oddYear 62 = .ok (.iconst 3, 1) := by decide +kernel
theorem dX12_oddYear_63 : decode cX12_oddYear 63 = .ok (.iaload, 1) := by decide +kernel
theorem dX12_oddYear_64 : decode cX12_oddYear 64 = .ok (.ifCond .ne 7, 3) := by decide +kernel
theorem dX12_oddYear_67 : decode cX12_oddYear 67 = .ok (.aload_n 0, 1) := by decide +kernel
theorem dX12_oddYear_68 : decode cX12_oddYear 68 = .ok (.invokevirtual 203, 3) := by decide +kernel
theorem dX12_oddYear_71 : decode cX12_oddYear 71 = .ok (.iinc 1 (-1), 3) := by decide +kernel
theorem dX12_oddYear_74 : decode cX12_oddYear 74 = .ok (.goto (-67), 3) := by decide +kernel
theorem dX12_oddYear_77 : decode cX12_oddYear 77 = .ok (.return_, 1) := by decide +kernel
theorem dX12_pairOf_0 : decode cX12_pairOf 0 = .ok (.aload_n 0, 1) := by decide +kernel
theorem dX12_pairOf_1 : decode cX12_pairOf 1 = .ok (.invokevirtual 206, 3) := by decide +kernel
theorem dX12_pairOf_4 : decode cX12_pairOf 4 = .ok (.aload_n 0, 1) := by decide +kernel
theorem dX12_pairOf_5 : decode cX12_pairOf 5 = .ok (.invokevirtual 209, 3) := by decide +kernel
theorem dX12_pairOf_8 : decode cX12_pairOf 8 = .ok (.return_, 1) := by decide +kernel
theorem dX12_standing_0 : decode cX12_standing 0 = .ok (.iconst 0, 1) := by decide +kernel
theorem dX12_standing_1 : decode cX12_standing 1 = .ok (.istore_n 1, 1) := by decide +kernel
theorem dX12_standing_2 : decode cX12_standing 2 = .ok (.iconst 0, 1) := by decide +kernel
theorem dX12_standing_3 : decode cX12_standing 3 = .ok (.istore_n 2, 1) := by decide +kernel
theorem dX12_standing_4 : decode cX12_standing 4 = .ok (.iload_n 2, 1) := by decide +kernel
theorem dX12_standing_5 : decode cX12_standing 5 = .ok (.aload_n 0, 1) := by decide +kernel
theorem dX12_standing_6 : decode cX12_standing 6 = .ok (.getfield 166, 3) := by decide +kernel
theorem dX12_standing_9 : decode cX12_standing 9 = .ok (.if_icmp .ge 47, 3) := by decide +kernel
theorem dX12_standing_12 : decode cX12_standing 12 = .ok (.iload_n 1, 1) := by decide +kernel
theorem dX12_standing_13 : decode cX12_standing 13 = .ok (.aload_n 0, 1) := by decide +kernel
theorem dX12_standing_14 : decode cX12_standing 14 = .ok (.getfield 49, 3) := by decide +kernel
theorem dX12_standing_17 : decode cX12_standing 17 = .ok (.iload_n 2, 1) := by decide +kernel
theorem dX12_standing_18 : decode cX12_standing 18 = .ok (.iaload, 1) := by decide +kernel
theorem dX12_standing_19 : decode cX12_standing 19 = .ok (.iconst 2, 1) := by decide +kernel
theorem dX12_standing_20 : decode cX12_standing 20 = .ok (.if_icmp .eq 23, 3) := by decide +kernel
theorem dX12_standing_23 : decode cX12_standing 23 = .ok (.aload_n 0, 1) := by decide +kernel
theorem dX12_standing_24 : decode cX12_standing 24 = .ok (.getfield 49, 3) := by decide +kernel
theorem dX12_standing_27 : decode cX12_standing 27 = .ok (.iload_n 2, 1) := by decide +kernel
theorem dX12_standing_28 : decode cX12_standing 28 = .ok (.iaload, 1) := by decide +kernel
theorem dX12_standing_29 : decode cX12_standing 29 = .ok (.iconst 3, 1) := by decide +kernel
theorem dX12_standing_30 : decode cX12_standing 30 = .ok (.if_icmp .eq 13, 3) := by decide +kernel
theorem dX12_standing_33 : decode cX12_standing 33 = .ok (.aload_n 0, 1) := by decide +kernel
theorem dX12_standing_34 : decode cX12_standing 34 = .ok (.getfield 49, 3) := by decide +kernel
theorem dX12_standing_37 : decode cX12_standing 37 = .ok (.iload_n 2, 1) := by decide +kernel
theorem dX12_standing_38 : decode cX12_standing 38 = .ok (.iaload, 1) := by decide +kernel
theorem dX12_standing_39 : decode cX12_standing 39 = .ok (.iconst 4, 1) := by decide +kernel
theorem dX12_standing_40 : decode cX12_standing 40 = .ok (.if_icmp .ne 7, 3) := by decide +kernel
theorem dX12_standing_43 : decode cX12_standing 43 = .ok (.iconst 1, 1) := by decide +kernel
theorem dX12_standing_44 : decode cX12_standing 44 = .ok (.goto 4, 3) := by decide +kernel
theorem dX12_standing_47 : decode cX12_standing 47 = .ok (.iconst 0, 1) := by decide +kernel
theorem dX12_standing_48 : decode cX12_standing 48 = .ok (.iadd, 1) := by decide +kernel
theorem dX12_standing_49 : decode cX12_standing 49 = .ok (.istore_n 1, 1) := by decide +kernel
theorem dX12_standing_50 : decode cX12_standing 50 = .ok (.iinc 2 1, 3) := by decide +kernel
theorem dX12_standing_53 : decode cX12_standing 53 = .ok (.goto (-49), 3) := by decide +kernel
theorem dX12_standing_56 : decode cX12_standing 56 = .ok (.iload_n 1, 1) := by decide +kernel
theorem dX12_standing_57 : decode cX12_standing 57 = .ok (.ireturn, 1) := by decide +kernel
theorem dX12_areNails_0 : decode cX12_areNails 0 = .ok (.iload_n 0, 1) := by decide +kernel
theorem dX12_areNails_1 : decode cX12_areNails 1 = .ok (.i2l, 1) := by decide +kernel
theorem dX12_areNails_2 : decode cX12_areNails 2 = .ok (.lconst 0, 1) := by decide +kernel
theorem dX12_areNails_3 : decode cX12_areNails 3 = .ok (.ldc2_w 212, 3) := by decide +kernel
theorem dX12_areNails_6 : decode cX12_areNails 6 = .ok (.invokestatic 65, 3) := by decide +kernel
theorem dX12_areNails_9 : decode cX12_areNails 9 = .ok (.ireturn, 1) := by decide +kernel
theorem dX12_pair_0 : decode cX12_pair 0 = .ok (.iload_n 1, 1) := by decide +kernel
theorem dX12_pair_1 : decode cX12_pair 1 = .ok (.invokestatic 123, 3) := by decide +kernel
theorem dX12_pair_4 : decode cX12_pair 4 = .ok (.ifCond .eq 10, 3) := by decide +kernel
theorem dX12_pair_7 : decode cX12_pair 7 = .ok (.iload_n 2, 1) := by decide +kernel
theorem dX12_pair_8 : decode cX12_pair 8 = .ok (.invokestatic 214, 3) := by decide +kernel
theorem dX12_pair_11 : decode cX12_pair 11 = .ok (.ifCond .ne 5, 3) := by decide +kernel
theorem dX12_pair_14 : decode cX12_pair 14 = .ok (.iconst (-1), 1) := by decide +kernel
theorem dX12_pair_15 : decode cX12_pair 15 = .ok (.ireturn, 1) := by decide +kernel
theorem dX12_pair_16 : decode cX12_pair 16 = .ok (.aload_n 0, 1) := by decide +kernel
theorem dX12_pair_17 : decode cX12_pair 17 = .ok (.iload_n 1, 1) := by decide +kernel
theorem dX12_pair_18 : decode cX12_pair 18 = .ok (.invokevirtual 217, 3) := by decide +kernel
theorem dX12_pair_21 : decode cX12_pair 21 = .ok (.istore_n 3, 1) := by decide +kernel
theorem dX12_pair_22 : decode cX12_pair 22 = .ok (.iload_n 3, 1) := by decide +kernel
theorem dX12_pair_23 : decode cX12_pair 23 = .ok (.ifCond .eq 5, 3) := by decide +kernel
theorem dX12_pair_26 : decode cX12_pair 26 = .ok (.iload_n 3, 1) := by decide +kernel
theorem dX12_pair_27 : decode cX12_pair 27 = .ok (.ireturn, 1) := by decide +kernel
theorem dX12_pair_28 : decode cX12_pair 28 = .ok (.aload_n 0, 1) := by decide +kernel
theorem dX12_pair_29 : decode cX12_pair 29 = .ok (.iload_n 1, 1) := by decide +kernel
theorem dX12_pair_30 : decode cX12_pair 30 = .ok (.iload_n 2, 1) := by decide +kernel
theorem dX12_pair_31 : decode cX12_pair 31 = .ok (.invokevirtual 220, 3) := by decide +kernel
theorem dX12_pair_34 : decode cX12_pair 34 = .ok (.aload_n 0, 1) := by decide +kernel
theorem dX12_pair_35 : decode cX12_pair 35 = .ok (.invokevirtual 223, 3) := by decide +kernel
theorem dX12_pair_38 : decode cX12_pair 38 = .ok (.aload_n 0, 1) := by decide +kernel
theorem dX12_pair_39 : decode cX12_pair 39 = .ok (.getfield 9, 3) := by decide +kernel
theorem dX12_pair_42 : decode cX12_pair 42 = .ok (.iconst 0, 1) := by decide +kernel
theorem dX12_pair_43 : decode cX12_pair 43 = .ok (.aload_n 0, 1) := by decide +kernel
theorem dX12_pair_44 : decode cX12_pair 44 = .ok (.getfield 175, 3) := by decide +kernel
theorem dX12_pair_47 : decode cX12_pair 47 = .ok (.iastore, 1) := by decide +kernel
theorem dX12_pair_48 : decode cX12_pair 48 = .ok (.aload_n 0, 1) := by decide +kernel
theorem dX12_pair_49 : decode cX12_pair 49 = .ok (.getfield 9, 3) := by decide +kernel
theorem dX12_pair_52 : decode cX12_pair 52 = .ok (.iconst 1, 1) := by decide +kernel
theorem dX12_pair_53 : decode cX12_pair 53 = .ok (.aload_n 0, 1) := by decide +kernel
theorem dX12_pair_54 : decode cX12_pair 54 = .ok (.getfield 178, 3) := by decide +kernel
theorem dX12_pair_57 : decode cX12_pair 57 = .ok (.iastore, 1) := by decide +kernel
theorem dX12_pair_58 : decode cX12_pair 58 = .ok (.aload_n 0, 1) := by decide +kernel
theorem dX12_pair_59 : decode cX12_pair 59 = .ok (.getfield 9, 3) := by decide +kernel
theorem dX12_pair_62 : decode cX12_pair 62 = .ok (.iconst 2, 1) := by decide +kernel
theorem dX12_pair_63 : decode cX12_pair 63 = .ok (.dup2, 1) := by decide +kernel
theorem dX12_pair_64 : decode cX12_pair 64 = .ok (.iaload, 1) := by decide +kernel
theorem dX12_pair_65 : decode cX12_pair 65 = .ok (.iconst 2, 1) := by decide +kernel
theorem dX12_pair_66 : decode cX12_pair 66 = .ok (.iadd, 1) := by decide +kernel
theorem dX12_pair_67 : decode cX12_pair 67 = .ok (.iastore, 1) := by decide +kernel
theorem dX12_pair_68 : decode cX12_pair 68 = .ok (.aload_n 0, 1) := by decide +kernel
theorem dX12_pair_69 : decode cX12_pair 69 = .ok (.invokevirtual 226, 3) := by decide +kernel
theorem dX12_pair_72 : decode cX12_pair 72 = .ok (.ireturn, 1) := by decide +kernel
theorem dX12_even_0 : decode cX12_even 0 = .ok (.aload_n 0, 1) := by decide +kernel
theorem dX12_even_1 : decode cX12_even 1 = .ok (.iload_n 1, 1) := by decide +kernel
theorem dX12_even_2 : decode cX12_even 2 = .ok (.invokevirtual 217, 3) := by decide +kernel
theorem dX12_even_5 : decode cX12_even 5 = .ok (.istore_n 2, 1) := by decide +kernel
theorem dX12_even_6 : decode cX12_even 6 = .ok (.iload_n 2, 1) := by decide +kernel
theorem dX12_even_7 : decode cX12_even 7 = .ok (.ifCond .eq 5, 3) := by decide +kernel
theorem dX12_even_10 : decode cX12_even 10 = .ok (.iload_n 2, 1) := by decide +kernel
theorem dX12_even_11 : decode cX12_even 11 = .ok (.ireturn, 1) := by decide +kernel
theorem dX12_even_12 : decode cX12_even 12 = .ok (.aload_n 0, 1) := by decide +kernel
theorem dX12_even_13 : decode cX12_even 13 = .ok (.iload_n 1, 1) := by decide +kernel
theorem dX12_even_14 : decode cX12_even 14 = .ok (.iconst 0, 1) := by decide +kernel
theorem dX12_even_15 : decode cX12_even 15 = .ok (.invokevirtual 220, 3) := by decide +kernel
theorem dX12_even_18 : decode cX12_even 18 = .ok (.aload_n 0, 1) := by decide +kernel
theorem dX12_even_19 : decode cX12_even 19 = .ok (.invokevirtual 206, 3) := by decide +kernel
theorem dX12_even_22 : decode cX12_even 22 = .ok (.aload_n 0, 1) := by decide +kernel
theorem dX12_even_23 : decode cX12_even 23 = .ok (.getfield 9, 3) := by decide +kernel
theorem dX12_even_26 : decode cX12_even 26 = .ok (.iconst 0, 1) := by decide +kernel
theorem dX12_even_27 : decode cX12_even 27 = .ok (.aload_n 0, 1) := by decide +kernel
theorem dX12_even_28 : decode cX12_even 28 = .ok (.getfield 175, 3) := by decide +kernel
theorem dX12_even_31 : decode cX12_even 31 = .ok (.iastore, 1) := by decide +kernel
theorem dX12_even_32 : decode cX12_even 32 = .ok (.aload_n 0, 1) := by decide +kernel
theorem dX12_even_33 : decode cX12_even 33 = .ok (.getfield 9, 3) := by decide +kernel
theorem dX12_even_36 : decode cX12_even 36 = .ok (.iconst 1, 1) := by decide +kernel
theorem dX12_even_37 : decode cX12_even 37 = .ok (.aload_n 0, 1) := by decide +kernel
theorem dX12_even_38 : decode cX12_even 38 = .ok (.getfield 178, 3) := by decide +kernel
theorem dX12_even_41 : decode cX12_even 41 = .ok (.iastore, 1) := by decide +kernel
theorem dX12_even_42 : decode cX12_even 42 = .ok (.aload_n 0, 1) := by decide +kernel
theorem dX12_even_43 : decode cX12_even 43 = .ok (.getfield 9, 3) := by decide +kernel
theorem dX12_even_46 : decode cX12_even 46 = .ok (.iconst 2, 1) := by decide +kernel
theorem dX12_even_47 : decode cX12_even 47 = .ok (.dup2, 1) := by decide +kernel
theorem dX12_even_48 : decode cX12_even 48 = .ok (.iaload, 1) := by decide +kernel
theorem dX12_even_49 : decode cX12_even 49 = .ok (.iconst 1, 1) := by decide +kernel
theorem dX12_even_50 : decode cX12_even 50 = .ok (.iadd, 1) := by decide +kernel
theorem dX12_even_51 : decode cX12_even 51 = .ok (.iastore, 1) := by decide +kernel
theorem dX12_even_52 : decode cX12_even 52 = .ok (.iconst 0, 1) := by decide +kernel
theorem dX12_even_53 : decode cX12_even 53 = .ok (.istore_n 3, 1) := by decide +kernel
theorem dX12_even_54 : decode cX12_even 54 = .ok (.iconst 0, 1) := by decide +kernel
theorem dX12_even_55 : decode cX12_even 55 = .ok (.istore 4, 2) := by decide +kernel
theorem dX12_even_57 : decode cX12_even 57 = .ok (.iload 4, 2) := by decide +kernel
theorem dX12_even_59 : decode cX12_even 59 = .ok (.aload_n 0, 1) := by decide +kernel
theorem dX12_even_60 : decode cX12_even 60 = .ok (.getfield 166, 3) := by decide +kernel
theorem dX12_even_63 : decode cX12_even 63 = .ok (.if_icmp .ge 27, 3) := by decide +kernel
theorem dX12_even_66 : decode cX12_even 66 = .ok (.iload_n 3, 1) := by decide +kernel
theorem dX12_even_67 : decode cX12_even 67 = .ok (.aload_n 0, 1) := by decide +kernel
theorem dX12_even_68 : decode cX12_even 68 = .ok (.getfield 49, 3) := by decide +kernel
theorem dX12_even_71 : decode cX12_even 71 = .ok (.iload 4, 2) := by decide +kernel
theorem dX12_even_73 : decode cX12_even 73 = .ok (.iaload, 1) := by decide +kernel
theorem dX12_even_74 : decode cX12_even 74 = .ok (.ifCond .eq 7, 3) := by decide +kernel
theorem dX12_even_77 : decode cX12_even 77 = .ok (.iconst 1, 1) := by decide +kernel
theorem dX12_even_78 : decode cX12_even 78 = .ok (.goto 4, 3) := by decide +kernel
theorem dX12_even_81 : decode cX12_even 81 = .ok (.iconst 0, 1) := by decide +kernel
theorem dX12_even_82 : decode cX12_even 82 = .ok (.iadd, 1) := by decide +kernel
theorem dX12_even_83 : decode cX12_even 83 = .ok (.istore_n 3, 1) := by decide +kernel
theorem dX12_even_84 : decode cX12_even 84 = .ok (.iinc 4 1, 3) := by decide +kernel
theorem dX12_even_87 : decode cX12_even 87 = .ok (.goto (-30), 3) := by decide +kernel
theorem dX12_even_90 : decode cX12_even 90 = .ok (.iload_n 3, 1) := by decide +kernel
theorem dX12_even_91 : decode cX12_even 91 = .ok (.ireturn, 1) := by decide +kernel
theorem dX12_lasts_0 : decode cX12_lasts 0 = .ok (.iload_n 1, 1) := by decide +kernel
theorem dX12_lasts_1 : decode cX12_lasts 1 = .ok (.invokestatic 123, 3) := by decide +kernel
theorem dX12_lasts_4 : decode cX12_lasts 4 = .ok (.ifCond .eq 17, 3) := by decide +kernel
theorem dX12_lasts_7 : decode cX12_lasts 7 = .ok (.iload_n 2, 1) := by decide +kernel
theorem dX12_lasts_8 : decode cX12_lasts 8 = .ok (.invokestatic 214, 3) := by decide +kernel
theorem dX12_lasts_11 : decode cX12_lasts 11 = .ok (.ifCond .eq 10, 3) := by decide +kernel
theorem dX12_lasts_14 : decode cX12_lasts 14 = .ok (.iload_n 3, 1) := by decide +kernel
theorem dX12_lasts_15 : decode cX12_lasts 15 = .ok (.invokestatic 229, 3) := by decide +kernel
theorem dX12_lasts_18 : decode cX12_lasts 18 = .ok (.ifCond .ne 5, 3) := by decide +kernel
theorem dX12_lasts_21 : decode cX12_lasts 21 = .ok (.iconst (-1), 1) := by decide +kernel
theorem dX12_lasts_22 : decode cX12_lasts 22 = .ok (.ireturn, 1) := by decide +kernel
theorem dX12_lasts_23 : decode cX12_lasts 23 = .ok (.aload_n 0, 1) := by decide +kernel
theorem dX12_lasts_24 : decode cX12_lasts 24 = .ok (.iload_n 1, 1) := by decide +kernel
theorem dX12_lasts_25 : decode cX12_lasts 25 = .ok (.invokevirtual 217, 3) := by decide +kernel
theorem dX12_lasts_28 : decode cX12_lasts 28 = .ok (.istore 4, 2) := by decide +kernel
theorem dX12_lasts_30 : decode cX12_lasts 30 = .ok (.iload 4, 2) := by decide +kernel
theorem dX12_lasts_32 : decode cX12_lasts 32 = .ok (.ifCond .eq 6, 3) := by decide +kernel
theorem dX12_lasts_35 : decode cX12_lasts 35 = .ok (.iload 4, 2) := by decide +kernel
theorem dX12_lasts_37 : decode cX12_lasts 37 = .ok (.ireturn, 1) := by decide +kernel
theorem dX12_lasts_38 : decode cX12_lasts 38 = .ok (.aload_n 0, 1) := by decide +kernel
theorem dX12_lasts_39 : decode cX12_lasts 39 = .ok (.iload_n 1, 1) := by decide +kernel
theorem dX12_lasts_40 : decode cX12_lasts 40 = .ok (.iload_n 2, 1) := by decide +kernel
theorem dX12_lasts_41 : decode cX12_lasts 41 = .ok (.invokevirtual 220, 3) := by decide +kernel
theorem dX12_lasts_44 : decode cX12_lasts 44 = .ok (.aload_n 0, 1) := by decide +kernel
theorem dX12_lasts_45 : decode cX12_lasts 45 = .ok (.invokevirtual 223, 3) := by decide +kernel
theorem dX12_lasts_48 : decode cX12_lasts 48 = .ok (.aload_n 0, 1) := by decide +kernel
theorem dX12_lasts_49 : decode cX12_lasts 49 = .ok (.getfield 175, 3) := by decide +kernel
theorem dX12_lasts_52 : decode cX12_lasts 52 = .ok (.iload_n 3, 1) := by decide +kernel
theorem dX12_lasts_53 : decode cX12_lasts 53 = .ok (.ishr, 1) := by decide +kernel
theorem dX12_lasts_54 : decode cX12_lasts 54 = .ok (.iconst 1, 1) := by decide +kernel
theorem dX12_lasts_55 : decode cX12_lasts 55 = .ok (.iand, 1) := by decide +kernel
theorem dX12_lasts_56 : decode cX12_lasts 56 = .ok (.ireturn, 1) := by decide +kernel
theorem dX12_why_0 : decode cX12_why 0 = .ok (.iload_n 1, 1) := by decide +kernel
theorem dX12_why_1 : decode cX12_why 1 = .ok (.invokestatic 123, 3) := by decide +kernel
theorem dX12_why_4 : decode cX12_why 4 = .ok (.ifCond .eq 10, 3) := by decide +kernel
theorem dX12_why_7 : decode cX12_why 7 = .ok (.iload_n 2, 1) := by decide +kernel
theorem dX12_why_8 : decode cX12_why 8 = .ok (.invokestatic 214, 3) := by decide +kernel
theorem dX12_why_11 : decode cX12_why 11 = .ok (.ifCond .ne 5, 3) := by decide +kernel
theorem dX12_why_14 : decode cX12_why 14 = .ok (.iconst (-1), 1) := by decide +kernel
theorem dX12_why_15 : decode cX12_why 15 = .ok (.ireturn, 1) := by decide +kernel
theorem dX12_why_16 : decode cX12_why 16 = .ok (.aload_n 0, 1) := by decide +kernel
theorem dX12_why_17 : decode cX12_why 17 = .ok (.iload_n 1, 1) := by decide +kernel
theorem dX12_why_18 : decode cX12_why 18 = .ok (.invokevirtual 217, 3) := by decide +kernel
theorem dX12_why_21 : decode cX12_why 21 = .ok (.istore 4, 2) := by decide +kernel
theorem dX12_why_23 : decode cX12_why 23 = .ok (.iload 4, 2) := by decide +kernel
theorem dX12_why_25 : decode cX12_why 25 = .ok (.ifCond .eq 6, 3) := by decide +kernel
theorem dX12_why_28 : decode cX12_why 28 = .ok (.iload 4, 2) := by decide +kernel
theorem dX12_why_30 : decode cX12_why 30 = .ok (.ireturn, 1) := by decide +kernel
theorem dX12_why_31 : decode cX12_why 31 = .ok (.iload_n 3, 1) := by decide +kernel
theorem dX12_why_32 : decode cX12_why 32 = .ok (.i2l, 1) := by decide +kernel
theorem dX12_why_33 : decode cX12_why 33 = .ok (.lconst 0, 1) := by decide +kernel
theorem dX12_why_34 : decode cX12_why 34 = .ok (.aload_n 0, 1) := by decide +kernel
theorem dX12_why_35 : decode cX12_why 35 = .ok (.getfield 25, 3) := by decide +kernel
theorem dX12_why_38 : decode cX12_why 38 = .ok (.iload_n 1, 1) := by decide +kernel
theorem dX12_why_39 : decode cX12_why 39 = .ok (.iaload, 1) := by decide +kernel
theorem dX12_why_40 : decode cX12_why 40 = .ok (.iconst 1, 1) := by decide +kernel
theorem dX12_why_41 : decode cX12_why 41 = .ok (.isub, 1) := by decide +kernel
theorem dX12_why_42 : decode cX12_why 42 = .ok (.i2l, 1) := by decide +kernel
theorem dX12_why_43 : decode cX12_why 43 = .ok (.invokestatic 65, 3) := by decide +kernel
theorem dX12_why_46 : decode cX12_why 46 = .ok (.ifCond .ne 6, 3) := by decide +kernel
theorem dX12_why_49 : decode cX12_why 49 = .ok (.bipush (-13), 2) := by decide +kernel
theorem dX12_why_51 : decode cX12_why 51 = .ok (.ireturn, 1) := by decide +kernel
theorem dX12_why_52 : decode cX12_why 52 = .ok (.aload_n 0, 1) := by decide +kernel
theorem dX12_why_53 : decode cX12_why 53 = .ok (.iload_n 1, 1) := by decide +kernel
theorem dX12_why_54 : decode cX12_why 54 = .ok (.iload_n 2, 1) := by decide +kernel
theorem dX12_why_55 : decode cX12_why 55 = .ok (.invokevirtual 220, 3) := by decide +kernel
theorem dX12_why_58 : decode cX12_why 58 = .ok (.aload_n 0, 1) := by decide +kernel
theorem dX12_why_59 : decode cX12_why 59 = .ok (.invokevirtual 223, 3) := by decide +kernel
theorem dX12_why_62 : decode cX12_why 62 = .ok (.aload_n 0, 1) := by decide +kernel
theorem dX12_why_63 : decode cX12_why 63 = .ok (.getfield 49, 3) := by decide +kernel
theorem dX12_why_66 : decode cX12_why 66 = .ok (.iload_n 3, 1) := by decide +kernel
theorem dX12_why_67 : decode cX12_why 67 = .ok (.iaload, 1) := by decide +kernel
theorem dX12_why_68 : decode cX12_why 68 = .ok (.ireturn, 1) := by decide +kernel
theorem dX12_behind_0 : decode cX12_behind 0 = .ok (.iload_n 1, 1) := by decide +kernel
theorem dX12_behind_1 : decode cX12_behind 1 = .ok (.invokestatic 123, 3) := by decide +kernel
theorem dX12_behind_4 : decode cX12_behind 4 = .ok (.ifCond .eq 22, 3) := by decide +kernel
theorem dX12_behind_7 : decode cX12_behind 7 = .ok (.iload_n 2, 1) := by decide +kernel
theorem dX12_behind_8 : decode cX12_behind 8 = .ok (.invokestatic 214, 3) := by decide +kernel
theorem dX12_behind_11 : decode cX12_behind 11 = .ok (.ifCond .eq 15, 3) := by decide +kernel
theorem dX12_behind_14 : decode cX12_behind 14 = .ok (.iload_n 3, 1) := by decide +kernel
theorem dX12_behind_15 : decode cX12_behind 15 = .ok (.i2l, 1) := by decide +kernel
theorem dX12_behind_16 : decode cX12_behind 16 = .ok (.lconst 0, 1) := by decide +kernel
theorem dX12_behind_17 : decode cX12_behind 17 = .ok (.ldc2_w 154, 3) := by decide +kernel
theorem dX12_behind_20 : decode cX12_behind 20 = .ok (.invokestatic 65, 3) := by decide +kernel
theorem dX12_behind_23 : decode cX12_behind 23 = .ok (.ifCond .ne 5, 3) := by decide +kernel
theorem dX12_behind_26 : decode cX12_behind 26 = .ok (.iconst (-1), 1) := by decide +kernel
theorem dX12_behind_27 : decode cX12_behind 27 = .ok (.ireturn, 1) := by decide +kernel
theorem dX12_behind_28 : decode cX12_behind 28 = .ok (.aload_n 0, 1) := by decide +kernel
theorem dX12_behind_29 : decode cX12_behind 29 = .ok (.iload_n 1, 1) := by decide +kernel
theorem dX12_behind_30 : decode cX12_behind 30 = .ok (.invokevirtual 217, 3) := by decide +kernel
theorem dX12_behind_33 : decode cX12_behind 33 = .ok (.istore 4, 2) := by decide +kernel
theorem dX12_behind_35 : decode cX12_behind 35 = .ok (.iload 4, 2) := by decide +kernel
theorem dX12_behind_37 : decode cX12_behind 37 = .ok (.ifCond .eq 6, 3) := by decide +kernel
theorem dX12_behind_40 : decode cX12_behind 40 = .ok (.iload 4, 2) := by decide +kernel
theorem dX12_behind_42 : decode cX12_behind 42 = .ok (.ireturn, 1) := by decide +kernel
theorem dX12_behind_43 : decode cX12_behind 43 = .ok (.aload_n 0, 1) := by decide +kernel
theorem dX12_behind_44 : decode cX12_behind 44 = .ok (.iload_n 1, 1) := by decide +kernel
theorem dX12_behind_45 : decode cX12_behind 45 = .ok (.iload_n 2, 1) := by decide +kernel
theorem dX12_behind_46 : decode cX12_behind 46 = .ok (.invokevirtual 220, 3) := by decide +kernel
theorem dX12_behind_49 : decode cX12_behind 49 = .ok (.aload_n 0, 1) := by decide +kernel
theorem dX12_behind_50 : decode cX12_behind 50 = .ok (.invokevirtual 223, 3) := by decide +kernel
theorem dX12_behind_53 : decode cX12_behind 53 = .ok (.iload_n 3, 1) := by decide +kernel
theorem dX12_behind_54 : decode cX12_behind 54 = .ok (.ifCond .ne 10, 3) := by decide +kernel
theorem dX12_behind_57 : decode cX12_behind 57 = .ok (.aload_n 0, 1) := by decide +kernel
theorem dX12_behind_58 : decode cX12_behind 58 = .ok (.getfield 175, 3) := by decide +kernel
theorem dX12_behind_61 : decode cX12_behind 61 = .ok (.goto 31, 3) := by decide +kernel
theorem dX12_behind_64 : decode cX12_behind 64 = .ok (.iload_n 3, 1) := by decide +kernel
theorem dX12_behind_65 : decode cX12_behind 65 = .ok (.iconst 1, 1) := by decide +kernel
theorem dX12_behind_66 : decode cX12_behind 66 = .ok (.if_icmp .ne 10, 3) := by decide +kernel
theorem dX12_behind_69 : decode cX12_behind 69 = .ok (.aload_n 0, 1) := by decide +kernel
theorem dX12_behind_70 : decode cX12_behind 70 = .ok (.getfield 178, 3) := by decide +kernel
theorem dX12_behind_73 : decode cX12_behind 73 = .ok (.goto 19, 3) := by decide +kernel
theorem dX12_behind_76 : decode cX12_behind 76 = .ok (.iload_n 3, 1) := by decide +kernel
theorem dX12_behind_77 : decode cX12_behind 77 = .ok (.iconst 2, 1) := by decide +kernel
theorem dX12_behind_78 : decode cX12_behind 78 = .ok (.if_icmp .ne 10, 3) := by decide +kernel
theorem dX12_behind_81 : decode cX12_behind 81 = .ok (.aload_n 0, 1) := by decide +kernel
theorem dX12_behind_82 : decode cX12_behind 82 = .ok (.getfield 184, 3) := by decide +kernel
theorem dX12_behind_85 : decode cX12_behind 85 = .ok (.goto 7, 3) := by decide +kernel
theorem dX12_behind_88 : decode cX12_behind 88 = .ok (.aload_n 0, 1) := by decide +kernel
theorem dX12_behind_89 : decode cX12_behind 89 = .ok (.getfield 181, 3) := by decide +kernel
theorem dX12_behind_92 : decode cX12_behind 92 = .ok (.ireturn, 1) := by decide +kernel
theorem dX12_finds_0 : decode cX12_finds 0 = .ok (.aload_n 0, 1) := by decide +kernel
theorem dX12_finds_1 : decode cX12_finds 1 = .ok (.bipush (-4), 2) := by decide +kernel
theorem dX12_finds_3 : decode cX12_finds 3 = .ok (.putfield 232, 3) := by decide +kernel
theorem dX12_finds_6 : decode cX12_finds 6 = .ok (.iconst 0, 1) := by decide +kernel
theorem dX12_finds_7 : decode cX12_finds 7 = .ok (.istore_n 2, 1) := by decide +kernel
theorem dX12_finds_8 : decode cX12_finds 8 = .ok (.iload_n 2, 1) := by decide +kernel
theorem dX12_finds_9 : decode cX12_finds 9 = .ok (.iconst 1, 1) := by decide +kernel
theorem dX12_finds_10 : decode cX12_finds 10 = .ok (.aload_n 0, 1) := by decide +kernel
theorem dX12_finds_11 : decode cX12_finds 11 = .ok (.getfield 166, 3) := by decide +kernel
theorem dX12_finds_14 : decode cX12_finds 14 = .ok (.ishl, 1) := by decide +kernel
theorem dX12_finds_15 : decode cX12_finds 15 = .ok (.if_icmp .ge 98, 3) := by decide +kernel
theorem dX12_finds_18 : decode cX12_finds 18 = .ok (.aload_n 0, 1) := by decide +kernel
theorem dX12_finds_19 : decode cX12_finds 19 = .ok (.iload_n 2, 1) := by decide +kernel
theorem dX12_finds_20 : decode cX12_finds 20 = .ok (.putfield 169, 3) := by decide +kernel
theorem dX12_finds_23 : decode cX12_finds 23 = .ok (.aload_n 0, 1) := by decide +kernel
theorem dX12_finds_24 : decode cX12_finds 24 = .ok (.invokevirtual 172, 3) := by decide +kernel
theorem dX12_finds_27 : decode cX12_finds 27 = .ok (.aload_n 0, 1) := by decide +kernel
theorem dX12_finds_28 : decode cX12_finds 28 = .ok (.invokevirtual 223, 3) := by decide +kernel
theorem dX12_finds_31 : decode cX12_finds 31 = .ok (.iload_n 1, 1) := by decide +kernel
theorem dX12_finds_32 : decode cX12_finds 32 = .ok (.aload_n 0, 1) := by decide +kernel
theorem dX12_finds_33 : decode cX12_finds 33 = .ok (.getfield 175, 3) := by decide +kernel
theorem dX12_finds_36 : decode cX12_finds 36 = .ok (.iconst (-1), 1) := by decide +kernel
theorem dX12_finds_37 : decode cX12_finds 37 = .ok (.ixor, 1) := by decide +kernel
theorem dX12_finds_38 : decode cX12_finds 38 = .ok (.iand, 1) := by decide +kernel
theorem dX12_finds_39 : decode cX12_finds 39 = .ok (.ifCond .eq 6, 3) := by decide +kernel
theorem dX12_finds_42 : decode cX12_finds 42 = .ok (.goto 65, 3) := by decide +kernel
theorem dX12_finds_45 : decode cX12_finds 45 = .ok (.aload_n 0, 1) := by decide +kernel
theorem dX12_finds_46 : decode cX12_finds 46 = .ok (.getfield 232, 3) := by decide +kernel
theorem dX12_finds_49 : decode cX12_finds 49 = .ok (.ifCond .lt 45, 3) := by decide +kernel
theorem dX12_finds_52 : decode cX12_finds 52 = .ok (.iload_n 2, 1) := by decide +kernel
theorem dX12_finds_53 : decode cX12_finds 53 = .ok (.invokestatic 235, 3) := by decide +kernel
theorem dX12_finds_56 : decode cX12_finds 56 = .ok (.aload_n 0, 1) := by decide +kernel
theorem dX12_finds_57 : decode cX12_finds 57 = .ok (.getfield 232, 3) := by decide +kernel
theorem dX12_finds_60 : decode cX12_finds 60 = .ok (.invokestatic 235, 3) := by decide +kernel
theorem dX12_finds_63 : decode cX12_finds 63 = .ok (.if_icmp .gt 44, 3) := by decide +kernel
theorem dX12_finds_66 : decode cX12_finds 66 = .ok (.iload_n 2, 1) := by decide +kernel
theorem dX12_finds_67 : decode cX12_finds 67 = .ok (.invokestatic 235, 3) := by decide +kernel
theorem dX12_finds_70 : decode cX12_finds 70 = .ok (.aload_n 0, 1) := by decide +kernel
theorem dX12_finds_71 : decode cX12_finds 71 = .ok (.getfield 232, 3) := by decide +kernel
theorem dX12_finds_74 : decode cX12_finds 74 = .ok (.invokestatic 235, 3) := by decide +kernel
theorem dX12_finds_77 : decode cX12_finds 77 = .ok (.if_icmp .ne 17, 3) := by decide +kernel
theorem dX12_finds_80 : decode cX12_finds 80 = .ok (.aload_n 0, 1) := by decide +kernel
theorem dX12_finds_81 : decode cX12_finds 81 = .ok (.getfield 181, 3) := by decide +kernel
theorem dX12_finds_84 : decode cX12_finds 84 = .ok (.aload_n 0, 1) := by decide +kernel
theorem dX12_finds_85 : decode cX12_finds 85 = .ok (.getfield 238, 3) := by decide +kernel
theorem dX12_finds_88 : decode cX12_finds 88 = .ok (.if_icmp .lt 6, 3) := by decide +kernel
theorem dX12_finds_91 : decode cX12_finds 91 = .ok (.goto 16, 3) := by decide +kernel
theorem dX12_finds_94 : decode cX12_finds 94 = .ok (.aload_n 0, 1) := by decide +kernel
theorem dX12_finds_95 : decode cX12_finds 95 = .ok (.iload_n 2, 1) := by decide +kernel
theorem dX12_finds_96 : decode cX12_finds 96 = .ok (.putfield 232, 3) := by decide +kernel
theorem dX12_finds_99 : decode cX12_finds 99 = .ok (.aload_n 0, 1) := by decide +kernel
theorem dX12_finds_100 : decode cX12_finds 100 = .ok (.aload_n 0, 1) := by decide +kernel
theorem dX12_finds_101 : decode cX12_finds 101 = .ok (.getfield 181, 3) := by decide +kernel
theorem dX12_finds_104 : decode cX12_finds 104 = .ok (.putfield 238, 3) := by decide +kernel
theorem dX12_finds_107 : decode cX12_finds 107 = .ok (.iinc 2 1, 3) := by decide +kernel
theorem dX12_finds_110 : decode cX12_finds 110 = .ok (.goto (-102), 3) := by decide +kernel
theorem dX12_finds_113 : decode cX12_finds 113 = .ok (.aload_n 0, 1) := by decide +kernel
theorem dX12_finds_114 : decode cX12_finds 114 = .ok (.getfield 232, 3) := by decide +kernel
theorem dX12_finds_117 : decode cX12_finds 117 = .ok (.ifCond .lt 7, 3) := by decide +kernel
theorem dX12_finds_120 : decode cX12_finds 120 = .ok (.iconst 1, 1) := by decide +kernel
theorem dX12_finds_121 : decode cX12_finds 121 = .ok (.goto 4, 3) := by decide +kernel
theorem dX12_finds_124 : decode cX12_finds 124 = .ok (.iconst 0, 1) := by decide +kernel
theorem dX12_finds_125 : decode cX12_finds 125 = .ok (.ireturn, 1) := by decide +kernel
theorem dX12_least_0 : decode cX12_least 0 = .ok (.iload_n 1, 1) := by decide +kernel
theorem dX12_least_1 : decode cX12_least 1 = .ok (.invokestatic 123, 3) := by decide +kernel
theorem dX12_least_4 : decode cX12_least 4 = .ok (.ifCond .eq 27, 3) := by decide +kernel
theorem dX12_least_7 : decode cX12_least 7 = .ok (.iload_n 2, 1) := by decide +kernel
theorem dX12_least_8 : decode cX12_least 8 = .ok (.i2l, 1) := by decide +kernel
theorem dX12_least_9 : decode cX12_least 9 = .ok (.lconst 0, 1) := by decide +kernel
theorem dX12_least_10 : decode cX12_least 10 = .ok (.ldc2_w 241, 3) := by decide +kernel
theorem dX12_least_13 : decode cX12_least 13 = .ok (.invokestatic 65, 3) := by decide +kernel
theorem dX12_least_16 : decode cX12_least 16 = .ok (.ifCond .eq 15, 3) := by decide +kernel
theorem dX12_least_19 : decode cX12_least 19 = .ok (.iload_n 3, 1) := by decide +kernel
theorem dX12_least_20 : decode cX12_least 20 = .ok (.i2l, 1) := by decide +kernel
theorem dX12_least_21 : decode cX12_least 21 = .ok (.lconst 0, 1) := by decide +kernel
theorem dX12_least_22 : decode cX12_least 22 = .ok (.ldc2_w 156, 3) := by decide +kernel
theorem dX12_least_25 : decode cX12_least 25 = .ok (.invokestatic 65, 3) := by decide +kernel
theorem dX12_least_28 : decode cX12_least 28 = .ok (.ifCond .ne 5, 3) := by decide +kernel
theorem dX12_least_31 : decode cX12_least 31 = .ok (.iconst (-1), 1) := by decide +kernel
theorem dX12_least_32 : decode cX12_least 32 = .ok (.ireturn, 1) := by decide +kernel
theorem dX12_least_33 : decode cX12_least 33 = .ok (.aload_n 0, 1) := by decide +kernel
theorem dX12_least_34 : decode cX12_least 34 = .ok (.iload_n 1, 1) := by decide +kernel
theorem dX12_least_35 : decode cX12_least 35 = .ok (.invokevirtual 217, 3) := by decide +kernel
theorem dX12_least_38 : decode cX12_least 38 = .ok (.istore 4, 2) := by decide +kernel
theorem dX12_least_40 : decode cX12_least 40 = .ok (.iload 4, 2) := by decide +kernel
theorem dX12_least_42 : decode cX12_least 42 = .ok (.ifCond .eq 6, 3) := by decide +kernel
theorem dX12_least_45 : decode cX12_least 45 = .ok (.iload 4, 2) := by decide +kernel
theorem dX12_least_47 : decode cX12_least 47 = .ok (.ireturn, 1) := by decide +kernel
theorem dX12_least_48 : decode cX12_least 48 = .ok (.aload_n 0, 1) := by decide +kernel
theorem dX12_least_49 : decode cX12_least 49 = .ok (.iload_n 1, 1) := by decide +kernel
theorem dX12_least_50 : decode cX12_least 50 = .ok (.iconst 0, 1) := by decide +kernel
theorem dX12_least_51 : decode cX12_least 51 = .ok (.invokevirtual 220, 3) := by decide +kernel
theorem dX12_least_54 : decode cX12_least 54 = .ok (.aload_n 0, 1) := by decide +kernel
theorem dX12_least_55 : decode cX12_least 55 = .ok (.iload_n 2, 1) := by decide +kernel
theorem dX12_least_56 : decode cX12_least 56 = .ok (.invokevirtual 243, 3) := by decide +kernel
theorem dX12_least_59 : decode cX12_least 59 = .ok (.ifCond .ne 6, 3) := by decide +kernel
theorem dX12_least_62 : decode cX12_least 62 = .ok (.bipush (-4), 2) := by decide +kernel
theorem dX12_least_64 : decode cX12_least 64 = .ok (.ireturn, 1) := by decide +kernel
theorem dX12_least_65 : decode cX12_least 65 = .ok (.iload_n 3, 1) := by decide +kernel
theorem dX12_least_66 : decode cX12_least 66 = .ok (.ifCond .ne 13, 3) := by decide +kernel
theorem dX12_least_69 : decode cX12_least 69 = .ok (.aload_n 0, 1) := by decide +kernel
theorem dX12_least_70 : decode cX12_least 70 = .ok (.getfield 232, 3) := by decide +kernel
theorem dX12_least_73 : decode cX12_least 73 = .ok (.invokestatic 235, 3) := by decide +kernel
theorem dX12_least_76 : decode cX12_least 76 = .ok (.goto 19, 3) := by decide +kernel
theorem dX12_least_79 : decode cX12_least 79 = .ok (.iload_n 3, 1) := by decide +kernel
theorem dX12_least_80 : decode cX12_least 80 = .ok (.iconst 1, 1) := by decide +kernel
theorem dX12_least_81 : decode cX12_least 81 = .ok (.if_icmp .ne 10, 3) := by decide +kernel
theorem dX12_least_84 : decode cX12_least 84 = .ok (.aload_n 0, 1) := by decide +kernel
theorem dX12_least_85 : decode cX12_least 85 = .ok (.getfield 238, 3) := by decide +kernel
theorem dX12_least_88 : decode cX12_least 88 = .ok (.goto 7, 3) := by decide +kernel
theorem dX12_least_91 : decode cX12_least 91 = .ok (.aload_n 0, 1) := by decide +kernel
theorem dX12_least_92 : decode cX12_least 92 = .ok (.getfield 232, 3) := by decide +kernel
theorem dX12_least_95 : decode cX12_least 95 = .ok (.ireturn, 1) := by decide +kernel
theorem dX12_lines_0 : decode cX12_lines 0 = .ok (.aload_n 0, 1) := by decide +kernel
theorem dX12_lines_1 : decode cX12_lines 1 = .ok (.getfield 25, 3) := by decide +kernel
theorem dX12_lines_4 : decode cX12_lines 4 = .ok (.iload_n 1, 1) := by decide +kernel
theorem dX12_lines_5 : decode cX12_lines 5 = .ok (.iaload, 1) := by decide +kernel
theorem dX12_lines_6 : decode cX12_lines 6 = .ok (.istore 5, 2) := by decide +kernel
theorem dX12_lines_8 : decode cX12_lines 8 = .ok (.iload_n 2, 1) := by decide +kernel
theorem dX12_lines_9 : decode cX12_lines 9 = .ok (.iload 5, 2) := by decide +kernel
theorem dX12_lines_11 : decode cX12_lines 11 = .ok (.if_icmp .ne 127, 3) := by decide +kernel
theorem dX12_lines_14 : decode cX12_lines 14 = .ok (.iconst 0, 1) := by decide +kernel
theorem dX12_lines_15 : decode cX12_lines 15 = .ok (.istore 6, 2) := by decide +kernel
theorem dX12_lines_17 : decode cX12_lines 17 = .ok (.iload 6, 2) := by decide +kernel
theorem dX12_lines_19 : decode cX12_lines 19 = .ok (.iload 5, 2) := by decide +kernel
theorem dX12_lines_21 : decode cX12_lines 21 = .ok (.if_icmp .ge 33, 3) := by decide +kernel
theorem dX12_lines_24 : decode cX12_lines 24 = .ok (.aload_n 0, 1) := by decide +kernel
theorem dX12_lines_25 : decode cX12_lines 25 = .ok (.getfield 40, 3) := by decide +kernel
theorem dX12_lines_28 : decode cX12_lines 28 = .ok (.iload 6, 2) := by decide +kernel
theorem dX12_lines_30 : decode cX12_lines 30 = .ok (.aload_n 0, 1) := by decide +kernel
theorem dX12_lines_31 : decode cX12_lines 31 = .ok (.getfield 28, 3) := by decide +kernel
theorem dX12_lines_34 : decode cX12_lines 34 = .ok (.bipush 100, 2) := by decide +kernel
theorem dX12_lines_36 : decode cX12_lines 36 = .ok (.iload_n 1, 1) := by decide +kernel
theorem dX12_lines_37 : decode cX12_lines 37 = .ok (.imul, 1) := by decide +kernel
theorem dX12_lines_38 : decode cX12_lines 38 = .ok (.aload_n 0, 1) := by decide +kernel
theorem dX12_lines_39 : decode cX12_lines 39 = .ok (.getfield 55, 3) := by decide +kernel
theorem dX12_lines_42 : decode cX12_lines 42 = .ok (.iload 6, 2) := by decide +kernel
theorem dX12_lines_44 : decode cX12_lines 44 = .ok (.iaload, 1) := by decide +kernel
theorem dX12_lines_45 : decode cX12_lines 45 = .ok (.iadd, 1) := by decide +kernel
theorem dX12_lines_46 : decode cX12_lines 46 = .ok (.iaload, 1) := by decide +kernel
theorem dX12_lines_47 : decode cX12_lines 47 = .ok (.iastore, 1) := by decide +kernel
theorem dX12_lines_48 : decode cX12_lines 48 = .ok (.iinc 6 1, 3) := by decide +kernel
theorem dX12_lines_51 : decode cX12_lines 51 = .ok (.goto (-34), 3) := by decide +kernel
theorem dX12_lines_54 : decode cX12_lines 54 = .ok (.aload_n 0, 1) := by decide +kernel
theorem dX12_lines_55 : decode cX12_lines 55 = .ok (.iload 4, 2) := by decide +kernel
theorem dX12_lines_57 : decode cX12_lines 57 = .ok (.invokevirtual 243, 3) := by decide +kernel
theorem dX12_lines_60 : decode cX12_lines 60 = .ok (.ifCond .eq 24, 3) := by decide +kernel
theorem dX12_lines_63 : decode cX12_lines 63 = .ok (.aload_n 0, 1) := by decide +kernel
theorem dX12_lines_64 : decode cX12_lines 64 = .ok (.getfield 246, 3) := by decide +kernel
theorem dX12_lines_67 : decode cX12_lines 67 = .ok (.ifCond .lt 18, 3) := by decide +kernel
theorem dX12_lines_70 : decode cX12_lines 70 = .ok (.aload_n 0, 1) := by decide +kernel
theorem dX12_lines_71 : decode cX12_lines 71 = .ok (.getfield 232, 3) := by decide +kernel
theorem dX12_lines_74 : decode cX12_lines 74 = .ok (.invokestatic 235, 3) := by decide +kernel
theorem dX12_lines_77 : decode cX12_lines 77 = .ok (.aload_n 0, 1) := by decide +kernel
theorem dX12_lines_78 : decode cX12_lines 78 = .ok (.getfield 246, 3) := by decide +kernel
theorem dX12_lines_81 : decode cX12_lines 81 = .ok (.if_icmp .lt 4, 3) := by decide +kernel
theorem dX12_lines_84 : decode cX12_lines 84 = .ok (.return_, 1) := by decide +kernel
theorem dX12_lines_85 : decode cX12_lines 85 = .ok (.aload_n 0, 1) := by decide +kernel
theorem dX12_lines_86 : decode cX12_lines 86 = .ok (.aload_n 0, 1) := by decide +kernel
theorem dX12_lines_87 : decode cX12_lines 87 = .ok (.getfield 232, 3) := by decide +kernel
theorem dX12_lines_90 : decode cX12_lines 90 = .ok (.invokestatic 235, 3) := by decide +kernel
theorem dX12_lines_93 : decode cX12_lines 93 = .ok (.putfield 246, 3) := by decide +kernel
theorem dX12_lines_96 : decode cX12_lines 96 = .ok (.aload_n 0, 1) := by decide +kernel
theorem dX12_lines_97 : decode cX12_lines 97 = .ok (.iconst 0, 1) := by decide +kernel
theorem dX12_lines_98 : decode cX12_lines 98 = .ok (.putfield 249, 3) := by decide +kernel
theorem dX12_lines_101 : decode cX12_lines 101 = .ok (.iload 5, 2) := by decide +kernel
theorem dX12_lines_103 : decode cX12_lines 103 = .ok (.iconst 1, 1) := by decide +kernel
theorem dX12_lines_104 : decode cX12_lines 104 = .ok (.isub, 1) := by decide +kernel
theorem dX12_lines_105 : decode cX12_lines 105 = .ok (.istore 6, 2) := by decide +kernel
theorem dX12_lines_107 : decode cX12_lines 107 = .ok (.iload 6, 2) := by decide +kernel
theorem dX12_lines_109 : decode cX12_lines 109 = .ok (.ifCond .lt 28, 3) := by decide +kernel
theorem dX12_lines_112 : decode cX12_lines 112 = .ok (.aload_n 0, 1) := by decide +kernel
theorem dX12_lines_113 : decode cX12_lines 113 = .ok (.bipush 10, 2) := by decide +kernel
theorem dX12_lines_115 : decode cX12_lines 115 = .ok (.aload_n 0, 1) := by decide +kernel
theorem dX12_lines_116 : decode cX12_lines 116 = .ok (.getfield 249, 3) := by decide +kernel
theorem dX12_lines_119 : decode cX12_lines 119 = .ok (.imul, 1) := by decide +kernel
theorem dX12_lines_120 : decode cX12_lines 120 = .ok (.aload_n 0, 1) := by decide +kernel
theorem dX12_lines_121 : decode cX12_lines 121 = .ok (.getfield 55, 3) := by decide +kernel
theorem dX12_lines_124 : decode cX12_lines 124 = .ok (.iload 6, 2) := by decide +kernel
theorem dX12_lines_126 : decode cX12_lines 126 = .ok (.iaload, 1) := by decide +kernel
theorem dX12_lines_127 : decode cX12_lines 127 = .ok (.iadd, 1) := by decide +kernel
theorem dX12_lines_128 : decode cX12_lines 128 = .ok (.putfield 249, 3) := by decide +kernel
theorem dX12_lines_131 : decode cX12_lines 131 = .ok (.iinc 6 (-1), 3) := by decide +kernel
theorem dX12_lines_134 : decode cX12_lines 134 = .ok (.goto (-27), 3) := by decide +kernel
theorem dX12_lines_137 : decode cX12_lines 137 = .ok (.return_, 1) := by decide +kernel
theorem dX12_lines_138 : decode cX12_lines 138 = .ok (.iconst 0, 1) := by decide +kernel
theorem dX12_lines_139 : decode cX12_lines 139 = .ok (.istore 6, 2) := by decide +kernel
theorem dX12_lines_141 : decode cX12_lines 141 = .ok (.iload 6, 2) := by decide +kernel
theorem dX12_lines_143 : decode cX12_lines 143 = .ok (.iload 5, 2) := by decide +kernel
theorem dX12_lines_145 : decode cX12_lines 145 = .ok (.if_icmp .ge 46, 3) := by decide +kernel
theorem dX12_lines_148 : decode cX12_lines 148 = .ok (.iload_n 3, 1) := by decide +kernel
theorem dX12_lines_149 : decode cX12_lines 149 = .ok (.iload 6, 2) := by decide +kernel
theorem dX12_lines_151 : decode cX12_lines 151 = .ok (.ishr, 1) := by decide +kernel
theorem dX12_lines_152 : decode cX12_lines 152 = .ok (.iconst 1, 1) := by decide +kernel
theorem dX12_lines_153 : decode cX12_lines 153 = .ok (.iand, 1) := by decide +kernel
theorem dX12_lines_154 : decode cX12_lines 154 = .ok (.iconst 1, 1) := by decide +kernel
theorem dX12_lines_155 : decode cX12_lines 155 = .ok (.if_icmp .ne 6, 3) := by decide +kernel
theorem dX12_lines_158 : decode cX12_lines 158 = .ok (.goto 27, 3) := by decide +kernel
theorem dX12_lines_161 : decode cX12_lines 161 = .ok (.aload_n 0, 1) := by decide +kernel
theorem dX12_lines_162 : decode cX12_lines 162 = .ok (.getfield 55, 3) := by decide +kernel
theorem dX12_lines_165 : decode cX12_lines 165 = .ok (.iload_n 2, 1) := by decide +kernel
theorem dX12_lines_166 : decode cX12_lines 166 = .ok (.iload 6, 2) := by decide +kernel
theorem dX12_lines_168 : decode cX12_lines 168 = .ok (.iastore, 1) := by decide +kernel
theorem dX12_lines_169 : decode cX12_lines 169 = .ok (.aload_n 0, 1) := by decide +kernel
theorem dX12_lines_170 : decode cX12_lines 170 = .ok (.iload_n 1, 1) := by decide +kernel
theorem dX12_lines_171 : decode cX12_lines 171 = .ok (.iload_n 2, 1) := by decide +kernel
theorem dX12_lines_172 : decode cX12_lines 172 = .ok (.iconst 1, 1) := by decide +kernel
theorem dX12_lines_173 : decode cX12_lines 173 = .ok (.iadd, 1) := by decide +kernel
theorem dX12_lines_174 : decode cX12_lines 174 = .ok (.iload_n 3, 1) := by decide +kernel
theorem dX12_lines_175 : decode cX12_lines 175 = .ok (.iconst 1, 1) := by decide +kernel
theorem dX12_lines_176 : decode cX12_lines 176 = .ok (.iload 6, 2) := by decide +kernel
theorem dX12_lines_178 : decode cX12_lines 178 = .ok (.ishl, 1) := by decide +kernel
theorem dX12_lines_179 : decode cX12_lines 179 = .ok (.ior, 1) := by decide +kernel
theorem dX12_lines_180 : decode cX12_lines 180 = .ok (.iload 4, 2) := by decide +kernel
theorem dX12_lines_182 : decode cX12_lines 182 = .ok (.invokevirtual 252, 3) := by decide +kernel
theorem dX12_lines_185 : decode cX12_lines 185 = .ok (.iinc 6 1, 3) := by decide +kernel
theorem dX12_lines_188 : decode cX12_lines 188 = .ok (.goto (-47), 3) := by decide +kernel
theorem dX12_lines_191 : decode cX12_lines 191 = .ok (.return_, 1) := by decide +kernel
theorem dX12_free_0 : decode cX12_free 0 = .ok (.iload_n 1, 1) := by decide +kernel
theorem dX12_free_1 : decode cX12_free 1 = .ok (.invokestatic 123, 3) := by decide +kernel
theorem dX12_free_4 : decode cX12_free 4 = .ok (.ifCond .eq 25, 3) := by decide +kernel
theorem dX12_free_7 : decode cX12_free 7 = .ok (.iload_n 2, 1) := by decide +kernel
theorem dX12_free_8 : decode cX12_free 8 = .ok (.i2l, 1) := by decide +kernel
theorem dX12_free_9 : decode cX12_free 9 = .ok (.lconst 0, 1) := by decide +kernel
theorem dX12_free_10 : decode cX12_free 10 = .ok (.ldc2_w 241, 3) := by decide +kernel
theorem dX12_free_13 : decode cX12_free 13 = .ok (.invokestatic 65, 3) := by decide +kernel
theorem dX12_free_16 : decode cX12_free 16 = .ok (.ifCond .eq 13, 3) := by decide +kernel
theorem dX12_free_19 : decode cX12_free 19 = .ok (.iload_n 3, 1) := by decide +kernel
theorem dX12_free_20 : decode cX12_free 20 = .ok (.i2l, 1) := by decide +kernel
theorem dX12_free_21 : decode cX12_free 21 = .ok (.lconst 0, 1) := by decide +kernel
theorem dX12_free_22 : decode cX12_free 22 = .ok (.lconst 1, 1) := by decide +kernel
theorem dX12_free_23 : decode cX12_free 23 = .ok (.invokestatic 65, 3) := by decide +kernel
theorem dX12_free_26 : decode cX12_free 26 = .ok (.ifCond .ne 5, 3) := by decide +kernel
theorem dX12_free_29 : decode cX12_free 29 = .ok (.iconst (-1), 1) := by decide +kernel
theorem dX12_free_30 : decode cX12_free 30 = .ok (.ireturn, 1) := by decide +kernel
theorem dX12_free_31 : decode cX12_free 31 = .ok (.aload_n 0, 1) := by decide +kernel
theorem dX12_free_32 : decode cX12_free 32 = .ok (.iload_n 1, 1) := by decide +kernel
theorem dX12_free_33 : decode cX12_free 33 = .ok (.invokevirtual 217, 3) := by decide +kernel
theorem dX12_free_36 : decode cX12_free 36 = .ok (.istore 4, 2) := by decide +kernel
theorem dX12_free_38 : decode cX12_free 38 = .ok (.iload 4, 2) := by decide +kernel
theorem dX12_free_40 : decode cX12_free 40 = .ok (.ifCond .ne 17, 3) := by decide +kernel
theorem dX12_free_43 : decode cX12_free 43 = .ok (.aload_n 0, 1) := by decide +kernel
theorem dX12_free_44 : decode cX12_free 44 = .ok (.getfield 25, 3) := by decide +kernel
theorem dX12_free_47 : decode cX12_free 47 = .ok (.iload_n 1, 1) := by decide +kernel
theorem dX12_free_48 : decode cX12_free 48 = .ok (.iaload, 1) := by decide +kernel
theorem dX12_free_49 : decode cX12_free 49 = .ok (.iconst 5, 1) := by decide +kernel
theorem dX12_free_50 : decode cX12_free 50 = .ok (.if_icmp .le 7, 3) := by decide +kernel
theorem dX12_free_53 : decode cX12_free 53 = .ok (.bipush (-13), 2) := by decide +kernel
theorem dX12_free_55 : decode cX12_free 55 = .ok (.istore 4, 2) := by decide +kernel
theorem dX12_free_57 : decode cX12_free 57 = .ok (.iload 4, 2) := by decide +kernel
theorem dX12_free_59 : decode cX12_free 59 = .ok (.ifCond .eq 6, 3) := by decide +kernel
theorem dX12_free_62 : decode cX12_free 62 = .ok (.iload 4, 2) := by decide +kernel
theorem dX12_free_64 : decode cX12_free 64 = .ok (.ireturn, 1) := by decide +kernel
theorem dX12_free_65 : decode cX12_free 65 = .ok (.aload_n 0, 1) := by decide +kernel
theorem dX12_free_66 : decode cX12_free 66 = .ok (.iload_n 1, 1) := by decide +kernel
theorem dX12_free_67 : decode cX12_free 67 = .ok (.iconst 0, 1) := by decide +kernel
theorem dX12_free_68 : decode cX12_free 68 = .ok (.invokevirtual 220, 3) := by decide +kernel
theorem dX12_free_71 : decode cX12_free 71 = .ok (.aload_n 0, 1) := by decide +kernel
theorem dX12_free_72 : decode cX12_free 72 = .ok (.bipush (-4), 2) := by decide +kernel
theorem dX12_free_74 : decode cX12_free 74 = .ok (.putfield 246, 3) := by decide +kernel
theorem dX12_free_77 : decode cX12_free 77 = .ok (.aload_n 0, 1) := by decide +kernel
theorem dX12_free_78 : decode cX12_free 78 = .ok (.iload_n 1, 1) := by decide +kernel
theorem dX12_free_79 : decode cX12_free 79 = .ok (.iconst 0, 1) := by decide +kernel
theorem dX12_free_80 : decode cX12_free 80 = .ok (.iconst 0, 1) := by decide +kernel
theorem dX12_free_81 : decode cX12_free 81 = .ok (.iload_n 2, 1) := by decide +kernel
theorem dX12_free_82 : decode cX12_free 82 = .ok (.invokevirtual 252, 3) := by decide +kernel
theorem dX12_free_85 : decode cX12_free 85 = .ok (.aload_n 0, 1) := by decide +kernel
theorem dX12_free_86 : decode cX12_free 86 = .ok (.getfield 246, 3) := by decide +kernel
theorem dX12_free_89 : decode cX12_free 89 = .ok (.ifCond .ge 8, 3) := by decide +kernel
theorem dX12_free_92 : decode cX12_free 92 = .ok (.bipush (-4), 2) := by decide +kernel
theorem dX12_free_94 : decode cX12_free 94 = .ok (.goto 18, 3) := by decide +kernel
theorem dX12_free_97 : decode cX12_free 97 = .ok (.iload_n 3, 1) := by decide +kernel
theorem dX12_free_98 : decode cX12_free 98 = .ok (.ifCond .ne 10, 3) := by decide +kernel
theorem dX12_free_101 : decode cX12_free 101 = .ok (.aload_n 0, 1) := by decide +kernel
theorem dX12_free_102 : decode cX12_free 102 = .ok (.getfield 249, 3) := by decide +kernel
theorem dX12_free_105 : decode cX12_free 105 = .ok (.goto 7, 3) := by decide +kernel
theorem dX12_free_108 : decode cX12_free 108 = .ok (.aload_n 0, 1) := by decide +kernel
theorem dX12_free_109 : decode cX12_free 109 = .ok (.getfield 246, 3) := by decide +kernel
theorem dX12_free_112 : decode cX12_free 112 = .ok (.ireturn, 1) := by decide +kernel
theorem dX12_worthOf_0 : decode cX12_worthOf 0 = .ok (.lconst 0, 1) := by decide +kernel
theorem dX12_worthOf_1 : decode cX12_worthOf 1 = .ok (.lstore_n 2, 1) := by decide +kernel
theorem dX12_worthOf_2 : decode cX12_worthOf 2 = .ok (.iconst 0, 1) := by decide +kernel
theorem dX12_worthOf_3 : decode cX12_worthOf 3 = .ok (.istore 4, 2) := by decide +kernel
theorem dX12_worthOf_5 : decode cX12_worthOf 5 = .ok (.iload 4, 2) := by decide +kernel
theorem dX12_worthOf_7 : decode cX12_worthOf 7 = .ok (.bipush 10, 2) := by decide +kernel
theorem dX12_worthOf_9 : decode cX12_worthOf 9 = .ok (.if_icmp .ge 42, 3) := by decide +kernel
theorem dX12_worthOf_12 : decode cX12_worthOf 12 = .ok (.lload_n 2, 1) := by decide +kernel
theorem dX12_worthOf_13 : decode cX12_worthOf 13 = .ok (.iload_n 1, 1) := by decide +kernel
theorem dX12_worthOf_14 : decode cX12_worthOf 14 = .ok (.iload 4, 2) := by decide +kernel
theorem dX12_worthOf_16 : decode cX12_worthOf 16 = .ok (.ishr, 1) := by decide +kernel
theorem dX12_worthOf_17 : decode cX12_worthOf 17 = .ok (.iconst 1, 1) := by decide +kernel
theorem dX12_worthOf_18 : decode cX12_worthOf 18 = .ok (.iand, 1) := by decide +kernel
theorem dX12_worthOf_19 : decode cX12_worthOf 19 = .ok (.iconst 1, 1) := by decide +kernel
theorem dX12_worthOf_20 : decode cX12_worthOf 20 = .ok (.if_icmp .ne 22, 3) := by decide +kernel
theorem dX12_worthOf_23 : decode cX12_worthOf 23 = .ok (.aload_n 0, 1) := by decide +kernel
theorem dX12_worthOf_24 : decode cX12_worthOf 24 = .ok (.getfield 28, 3) := by decide +kernel
theorem dX12_worthOf_27 : decode cX12_worthOf 27 = .ok (.bipush 100, 2) := by decide +kernel
theorem dX12_worthOf_29 : decode cX12_worthOf 29 = .ok (.aload_n 0, 1) := by decide +kernel
theorem dX12_worthOf_30 : decode cX12_worthOf 30 = .ok (.getfield 256, 3) := by decide +kernel
theorem dX12_worthOf_33 : decode cX12_worthOf 33 = .ok (.imul, 1) := by decide +kernel
theorem dX12_worthOf_34 : decode cX12_worthOf 34 = .ok (.iload 4, 2) := by decide +kernel
theorem dX12_worthOf_36 : decode cX12_worthOf 36 = .ok (.iadd, 1) := by decide +kernel
theorem dX12_worthOf_37 : decode cX12_worthOf 37 = .ok (.iaload, 1) := by decide +kernel
theorem dX12_worthOf_38 : decode cX12_worthOf 38 = .ok (.i2l, 1) := by decide +kernel
theorem dX12_worthOf_39 : decode cX12_worthOf 39 = .ok (.goto 4, 3) := by decide +kernel
theorem dX12_worthOf_42 : decode cX12_worthOf 42 = .ok (.lconst 0, 1) := by decide +kernel
theorem dX12_worthOf_43 : decode cX12_worthOf 43 = .ok (.ladd, 1) := by decide +kernel
theorem dX12_worthOf_44 : decode cX12_worthOf 44 = .ok (.lstore_n 2, 1) := by decide +kernel
theorem dX12_worthOf_45 : decode cX12_worthOf 45 = .ok (.iinc 4 1, 3) := by decide +kernel
theorem dX12_worthOf_48 : decode cX12_worthOf 48 = .ok (.goto (-43), 3) := by decide +kernel
theorem dX12_worthOf_51 : decode cX12_worthOf 51 = .ok (.lload_n 2, 1) := by decide +kernel
theorem dX12_worthOf_52 : decode cX12_worthOf 52 = .ok (.lreturn, 1) := by decide +kernel
theorem dX12_tries_0 : decode cX12_tries 0 = .ok (.iconst 0, 1) := by decide +kernel
theorem dX12_tries_1 : decode cX12_tries 1 = .ok (.istore 8, 2) := by decide +kernel
theorem dX12_tries_3 : decode cX12_tries 3 = .ok (.iload 8, 2) := by decide +kernel
theorem dX12_tries_5 : decode cX12_tries 5 = .ok (.iconst 1, 1) := by decide +kernel
theorem dX12_tries_6 : decode cX12_tries 6 = .ok (.iload_n 3, 1) := by decide +kernel
theorem dX12_tries_7 : decode cX12_tries 7 = .ok (.ishl, 1) := by decide +kernel
theorem dX12_tries_8 : decode cX12_tries 8 = .ok (.if_icmp .ge 167, 3) := by decide +kernel
theorem dX12_tries_11 : decode cX12_tries 11 = .ok (.aload_n 0, 1) := by decide +kernel
theorem dX12_tries_12 : decode cX12_tries 12 = .ok (.iload_n 3, 1) := by decide +kernel
theorem dX12_tries_13 : decode cX12_tries 13 = .ok (.putfield 166, 3) := by decide +kernel
theorem dX12_tries_16 : decode cX12_tries 16 = .ok (.aload_n 0, 1) := by decide +kernel
theorem dX12_tries_17 : decode cX12_tries 17 = .ok (.getfield 40, 3) := by decide +kernel
theorem dX12_tries_20 : decode cX12_tries 20 = .ok (.iconst 0, 1) := by decide +kernel
theorem dX12_tries_21 : decode cX12_tries 21 = .ok (.iload 4, 2) := by decide +kernel
theorem dX12_tries_23 : decode cX12_tries 23 = .ok (.iastore, 1) := by decide +kernel
theorem dX12_tries_24 : decode cX12_tries 24 = .ok (.aload_n 0, 1) := by decide +kernel
theorem dX12_tries_25 : decode cX12_tries 25 = .ok (.getfield 40, 3) := by decide +kernel
theorem dX12_tries_28 : decode cX12_tries 28 = .ok (.iconst 1, 1) := by decide +kernel
theorem dX12_tries_29 : decode cX12_tries 29 = .ok (.iload 5, 2) := by decide +kernel
theorem dX12_tries_31 : decode cX12_tries 31 = .ok (.iastore, 1) := by decide +kernel
theorem dX12_tries_32 : decode cX12_tries 32 = .ok (.aload_n 0, 1) := by decide +kernel
theorem dX12_tries_33 : decode cX12_tries 33 = .ok (.iload 8, 2) := by decide +kernel
theorem dX12_tries_35 : decode cX12_tries 35 = .ok (.putfield 169, 3) := by decide +kernel
theorem dX12_tries_38 : decode cX12_tries 38 = .ok (.aload_n 0, 1) := by decide +kernel
theorem dX12_tries_39 : decode cX12_tries 39 = .ok (.iload 6, 2) := by decide +kernel
theorem dX12_tries_41 : decode cX12_tries 41 = .ok (.putfield 175, 3) := by decide +kernel
theorem dX12_tries_44 : decode cX12_tries 44 = .ok (.aload_n 0, 1) := by decide +kernel
theorem dX12_tries_45 : decode cX12_tries 45 = .ok (.iload 7, 2) := by decide +kernel
theorem dX12_tries_47 : decode cX12_tries 47 = .ok (.putfield 178, 3) := by decide +kernel
theorem dX12_tries_50 : decode cX12_tries 50 = .ok (.aload_n 0, 1) := by decide +kernel
theorem dX12_tries_51 : decode cX12_tries 51 = .ok (.invokevirtual 223, 3) := by decide +kernel
theorem dX12_tries_54 : decode cX12_tries 54 = .ok (.iload_n 2, 1) := by decide +kernel
theorem dX12_tries_55 : decode cX12_tries 55 = .ok (.ifCond .lt 7, 3) := by decide +kernel
theorem dX12_tries_58 : decode cX12_tries 58 = .ok (.iload_n 2, 1) := by decide +kernel
theorem dX12_tries_59 : decode cX12_tries 59 = .ok (.goto 36, 3) := by decide +kernel
theorem dX12_tries_62 : decode cX12_tries 62 = .ok (.bipush 100, 2) := by decide +kernel
theorem dX12_tries_64 : decode cX12_tries 64 = .ok (.iload 8, 2) := by decide +kernel
theorem dX12_tries_66 : decode cX12_tries 66 = .ok (.imul, 1) := by decide +kernel
theorem dX12_tries_67 : decode cX12_tries 67 = .ok (.bipush 10, 2) := by decide +kernel
theorem dX12_tries_69 : decode cX12_tries 69 = .ok (.iload_n 3, 1) := by decide +kernel
theorem dX12_tries_70 : decode cX12_tries 70 = .ok (.ifCond .le 8, 3) := by decide +kernel
theorem dX12_tries_73 : decode cX12_tries 73 = .ok (.iload 4, 2) := by decide +kernel
theorem dX12_tries_75 : decode cX12_tries 75 = .ok (.goto 5, 3) := by decide +kernel
theorem dX12_tries_78 : decode cX12_tries 78 = .ok (.bipush 9, 2) := by decide +kernel
theorem dX12_tries_80 : decode cX12_tries 80 = .ok (.imul, 1) := by decide +kernel
theorem dX12_tries_81 : decode cX12_tries 81 = .ok (.iadd, 1) := by decide +kernel
theorem dX12_tries_82 : decode cX12_tries 82 = .ok (.iload_n 3, 1) := by decide +kernel
theorem dX12_tries_83 : decode cX12_tries 83 = .ok (.iconst 1, 1) := by decide +kernel
theorem dX12_tries_84 : decode cX12_tries 84 = .ok (.if_icmp .le 8, 3) := by decide +kernel
theorem dX12_tries_87 : decode cX12_tries 87 = .ok (.iload 5, 2) := by decide +kernel
theorem dX12_tries_89 : decode cX12_tries 89 = .ok (.goto 5, 3) := by decide +kernel
theorem dX12_tries_92 : decode cX12_tries 92 = .ok (.bipush 9, 2) := by decide +kernel
theorem dX12_tries_94 : decode cX12_tries 94 = .ok (.iadd, 1) := by decide +kernel
theorem dX12_tries_95 : decode cX12_tries 95 = .ok (.istore 9, 2) := by decide +kernel
theorem dX12_tries_97 : decode cX12_tries 97 = .ok (.iload_n 1, 1) := by decide +kernel
theorem dX12_tries_98 : decode cX12_tries 98 = .ok (.iconst 1, 1) := by decide +kernel
theorem dX12_tries_99 : decode cX12_tries 99 = .ok (.if_icmp .le 23, 3) := by decide +kernel
theorem dX12_tries_102 : decode cX12_tries 102 = .ok (.aload_n 0, 1) := by decide +kernel
theorem dX12_tries_103 : decode cX12_tries 103 = .ok (.iload_n 1, 1) := by decide +kernel
theorem dX12_tries_104 : decode cX12_tries 104 = .ok (.iconst 1, 1) := by decide +kernel
theorem dX12_tries_105 : decode cX12_tries 105 = .ok (.isub, 1) := by decide +kernel
theorem dX12_tries_106 : decode cX12_tries 106 = .ok (.iload 9, 2) := by decide +kernel
theorem dX12_tries_108 : decode cX12_tries 108 = .ok (.aload_n 0, 1) := by decide +kernel
theorem dX12_tries_109 : decode cX12_tries 109 = .ok (.getfield 175, 3) := by decide +kernel
theorem dX12_tries_112 : decode cX12_tries 112 = .ok (.aload_n 0, 1) := by decide +kernel
theorem dX12_tries_113 : decode cX12_tries 113 = .ok (.getfield 178, 3) := by decide +kernel
theorem dX12_tries_116 : decode cX12_tries 116 = .ok (.invokevirtual 259, 3) := by decide +kernel
theorem dX12_tries_119 : decode cX12_tries 119 = .ok (.goto 50, 3) := by decide +kernel
theorem dX12_tries_122 : decode cX12_tries 122 = .ok (.aload_n 0, 1) := by decide +kernel
theorem dX12_tries_123 : decode cX12_tries 123 = .ok (.aload_n 0, 1) := by decide +kernel
theorem dX12_tries_124 : decode cX12_tries 124 = .ok (.getfield 175, 3) := by decide +kernel
theorem dX12_tries_127 : decode cX12_tries 127 = .ok (.invokevirtual 262, 3) := by decide +kernel
theorem dX12_tries_130 : decode cX12_tries 130 = .ok (.lstore 10, 2) := by decide +kernel
theorem dX12_tries_132 : decode cX12_tries 132 = .ok (.aload_n 0, 1) := by decide +kernel
theorem dX12_tries_133 : decode cX12_tries 133 = .ok (.getfield 266, 3) := by decide +kernel
theorem dX12_tries_136 : decode cX12_tries 136 = .ok (.ifCond .eq 16, 3) := by decide +kernel
theorem dX12_tries_139 : decode cX12_tries 139 = .ok (.lload 10, 2) := by decide +kernel
theorem dX12_tries_141 : decode cX12_tries 141 = .ok (.aload_n 0, 1) := by decide +kernel
theorem dX12_tries_142 : decode cX12_tries 142 = .ok (.getfield 270, 3) := by decide +kernel
theorem dX12_tries_145 : decode cX12_tries 145 = .ok (.lcmp, 1) := by decide +kernel
theorem dX12_tries_146 : decode cX12_tries 146 = .ok (.ifCond .gt 6, 3) := by decide +kernel
theorem dX12_tries_149 : decode cX12_tries 149 = .ok (.goto 20, 3) := by decide +kernel
theorem dX12_tries_152 : decode cX12_tries 152 = .ok (.aload_n 0, 1) := by decide +kernel
theorem dX12_tries_153 : decode cX12_tries 153 = .ok (.iconst 1, 1) := by decide +kernel
theorem dX12_tries_154 : decode cX12_tries 154 = .ok (.putfield 266, 3) := by decide +kernel
theorem dX12_tries_157 : decode cX12_tries 157 = .ok (.aload_n 0, 1) := by decide +kernel
theorem dX12_tries_158 : decode cX12_tries 158 = .ok (.lload 10, 2) := by decide +kernel
theorem dX12_tries_160 : decode cX12_tries 160 = .ok (.putfield 270, 3) := by decide +kernel
theorem dX12_tries_163 : decode cX12_tries 163 = .ok (.aload_n 0, 1) := by decide +kernel
theorem dX12_tries_164 : decode cX12_tries 164 = .ok (.iload 9, 2) := by decide +kernel
theorem dX12_tries_166 : decode cX12_tries 166 = .ok (.putfield 274, 3) := by decide +kernel
theorem dX12_tries_169 : decode cX12_tries 169 = .ok (.iinc 8 1, 3) := by decide +kernel
theorem dX12_tries_172 : decode cX12_tries 172 = .ok (.goto (-169), 3) := by decide +kernel
theorem dX12_tries_175 : decode cX12_tries 175 = .ok (.return_, 1) := by decide +kernel
theorem dX12_plans_0 : decode cX12_plans 0 = .ok (.aload_n 0, 1) := by decide +kernel
theorem dX12_plans_1 : decode cX12_plans 1 = .ok (.iload_n 1, 1) := by decide +kernel
theorem dX12_plans_2 : decode cX12_plans 2 = .ok (.iload_n 2, 1) := by decide +kernel
theorem dX12_plans_3 : decode cX12_plans 3 = .ok (.iconst 0, 1) := by decide +kernel
theorem dX12_plans_4 : decode cX12_plans 4 = .ok (.iconst 0, 1) := by decide +kernel
theorem dX12_plans_5 : decode cX12_plans 5 = .ok (.iconst 0, 1) := by decide +kernel
theorem dX12_plans_6 : decode cX12_plans 6 = .ok (.iload_n 3, 1) := by decide +kernel
theorem dX12_plans_7 : decode cX12_plans 7 = .ok (.iload 4, 2) := by decide +kernel
theorem dX12_plans_9 : decode cX12_plans 9 = .ok (.invokevirtual 277, 3) := by decide +kernel
theorem dX12_plans_12 : decode cX12_plans 12 = .ok (.iconst 0, 1) := by decide +kernel
theorem dX12_plans_13 : decode cX12_plans 13 = .ok (.istore 5, 2) := by decide +kernel
theorem dX12_plans_15 : decode cX12_plans 15 = .ok (.iload 5, 2) := by decide +kernel
theorem dX12_plans_17 : decode cX12_plans 17 = .ok (.aload_n 0, 1) := by decide +kernel
theorem dX12_plans_18 : decode cX12_plans 18 = .ok (.getfield 9, 3) := by decide +kernel
theorem dX12_plans_21 : decode cX12_plans 21 = .ok (.bipush 6, 2) := by decide +kernel
theorem dX12_plans_23 : decode cX12_plans 23 = .ok (.iaload, 1) := by decide +kernel
theorem dX12_plans_24 : decode cX12_plans 24 = .ok (.if_icmp .ge 22, 3) := by decide +kernel
theorem dX12_plans_27 : decode cX12_plans 27 = .ok (.aload_n 0, 1) := by decide +kernel
theorem dX12_plans_28 : decode cX12_plans 28 = .ok (.iload_n 1, 1) := by decide +kernel
theorem dX12_plans_29 : decode cX12_plans 29 = .ok (.iload_n 2, 1) := by decide +kernel
theorem dX12_plans_30 : decode cX12_plans 30 = .ok (.iconst 1, 1) := by decide +kernel
theorem dX12_plans_31 : decode cX12_plans 31 = .ok (.iload 5, 2) := by decide +kernel
theorem dX12_plans_33 : decode cX12_plans 33 = .ok (.iconst 0, 1) := by decide +kernel
theorem dX12_plans_34 : decode cX12_plans 34 = .ok (.iload_n 3, 1) := by decide +kernel
theorem dX12_plans_35 : decode cX12_plans 35 = .ok (.iload 4, 2) := by decide +kernel
theorem dX12_plans_37 : decode cX12_plans 37 = .ok (.invokevirtual 277, 3) := by decide +kernel
theorem dX12_plans_40 : decode cX12_plans 40 = .ok (.iinc 5 1, 3) := by decide +kernel
theorem dX12_plans_43 : decode cX12_plans 43 = .ok (.goto (-28), 3) := by decide +kernel
theorem dX12_plans_46 : decode cX12_plans 46 = .ok (.iconst 0, 1) := by decide +kernel
theorem dX12_plans_47 : decode cX12_plans 47 = .ok (.istore 5, 2) := by decide +kernel
theorem dX12_plans_49 : decode cX12_plans 49 = .ok (.iload 5, 2) := by decide +kernel
theorem dX12_plans_51 : decode cX12_plans 51 = .ok (.aload_n 0, 1) := by decide +kernel
theorem dX12_plans_52 : decode cX12_plans 52 = .ok (.getfield 9, 3) := by decide +kernel
theorem dX12_plans_55 : decode cX12_plans 55 = .ok (.bipush 6, 2) := by decide +kernel
theorem dX12_plans_57 : decode cX12_plans 57 = .ok (.iaload, 1) := by decide +kernel
theorem dX12_plans_58 : decode cX12_plans 58 = .ok (.if_icmp .ge 51, 3) := by decide +kernel
theorem dX12_plans_61 : decode cX12_plans 61 = .ok (.iconst 0, 1) := by decide +kernel
theorem dX12_plans_62 : decode cX12_plans 62 = .ok (.istore 6, 2) := by decide +kernel
theorem dX12_plans_64 : decode cX12_plans 64 = .ok (.iload 6, 2) := by decide +kernel
theorem dX12_plans_66 : decode cX12_plans 66 = .ok (.aload_n 0, 1) := by decide +kernel
theorem dX12_plans_67 : decode cX12_plans 67 = .ok (.getfield 9, 3) := by decide +kernel
theorem dX12_plans_70 : decode cX12_plans 70 = .ok (.bipush 6, 2) := by decide +kernel
theorem dX12_plans_72 : decode cX12_plans 72 = .ok (.iaload, 1) := by decide +kernel
theorem dX12_plans_73 : decode cX12_plans 73 = .ok (.if_icmp .ge 30, 3) := by decide +kernel
theorem dX12_plans_76 : decode cX12_plans 76 = .ok (.iload 5, 2) := by decide +kernel
theorem dX12_plans_78 : decode cX12_plans 78 = .ok (.iload 6, 2) := by decide +kernel
theorem dX12_plans_80 : decode cX12_plans 80 = .ok (.if_icmp .eq 17, 3) := by decide +kernel
theorem dX12_plans_83 : decode cX12_plans 83 = .ok (.aload_n 0, 1) := by decide +kernel
theorem dX12_plans_84 : decode cX12_plans 84 = .ok (.iload_n 1, 1) := by decide +kernel
theorem dX12_plans_85 : decode cX12_plans 85 = .ok (.iload_n 2, 1) := by decide +kernel
theorem dX12_plans_86 : decode cX12_plans 86 = .ok (.iconst 2, 1) := by decide +kernel
theorem dX12_plans_87 : decode cX12_plans 87 = .ok (.iload 5, 2) := by decide +kernel
theorem dX12_plans_89 : decode cX12_plans 89 = .ok (.iload 6, 2) := by decide +kernel
theorem dX12_plans_91 : decode cX12_plans 91 = .ok (.iload_n 3, 1) := by decide +kernel
theorem dX12_plans_92 : decode cX12_plans 92 = .ok (.iload 4, 2) := by decide +kernel
theorem dX12_plans_94 : decode cX12_plans 94 = .ok (.invokevirtual 277, 3) := by decide +kernel
theorem dX12_plans_97 : decode cX12_plans 97 = .ok (.iinc 6 1, 3) := by decide +kernel
theorem dX12_plans_100 : decode cX12_plans 100 = .ok (.goto (-36), 3) := by decide +kernel
theorem dX12_plans_103 : decode cX12_plans 103 = .ok (.iinc 5 1, 3) := by decide +kernel
theorem dX12_plans_106 : decode cX12_plans 106 = .ok (.goto (-57), 3) := by decide +kernel
theorem dX12_plans_109 : decode cX12_plans 109 = .ok (.return_, 1) := by decide +kernel
theorem dX12_plan_0 : decode cX12_plan 0 = .ok (.iload_n 1, 1) := by decide +kernel
theorem dX12_plan_1 : decode cX12_plan 1 = .ok (.i2l, 1) := by decide +kernel
theorem dX12_plan_2 : decode cX12_plan 2 = .ok (.lconst 1, 1) := by decide +kernel
theorem dX12_plan_3 : decode cX12_plan 3 = .ok (.ldc2_w 156, 3) := by decide +kernel
theorem dX12_plan_6 : decode cX12_plan 6 = .ok (.invokestatic 65, 3) := by decide +kernel
theorem dX12_plan_9 : decode cX12_plan 9 = .ok (.ifCond .eq 20, 3) := by decide +kernel
theorem dX12_plan_12 : decode cX12_plan 12 = .ok (.iload_n 2, 1) := by decide +kernel
theorem dX12_plan_13 : decode cX12_plan 13 = .ok (.invokestatic 123, 3) := by decide +kernel
theorem dX12_plan_16 : decode cX12_plan 16 = .ok (.ifCond .eq 13, 3) := by decide +kernel
theorem dX12_plan_19 : decode cX12_plan 19 = .ok (.iload_n 3, 1) := by decide +kernel
theorem dX12_plan_20 : decode cX12_plan 20 = .ok (.i2l, 1) := by decide +kernel
theorem dX12_plan_21 : decode cX12_plan 21 = .ok (.lconst 0, 1) := by decide +kernel
theorem dX12_plan_22 : decode cX12_plan 22 = .ok (.lconst 1, 1) := by decide +kernel
theorem dX12_plan_23 : decode cX12_plan 23 = .ok (.invokestatic 65, 3) := by decide +kernel
theorem dX12_plan_26 : decode cX12_plan 26 = .ok (.ifCond .ne 7, 3) := by decide +kernel
theorem dX12_plan_29 : decode cX12_plan 29 = .ok (.ldc_w 281, 3) := by decide +kernel
theorem dX12_plan_32 : decode cX12_plan 32 = .ok (.ireturn, 1) := by decide +kernel
theorem dX12_plan_33 : decode cX12_plan 33 = .ok (.aload_n 0, 1) := by decide +kernel
theorem dX12_plan_34 : decode cX12_plan 34 = .ok (.iload_n 2, 1) := by decide +kernel
theorem dX12_plan_35 : decode cX12_plan 35 = .ok (.iconst (-1), 1) := by decide +kernel
theorem dX12_plan_36 : decode cX12_plan 36 = .ok (.invokevirtual 126, 3) := by decide +kernel
theorem dX12_plan_39 : decode cX12_plan 39 = .ok (.istore 4, 2) := by decide +kernel
theorem dX12_plan_41 : decode cX12_plan 41 = .ok (.iload 4, 2) := by decide +kernel
theorem dX12_plan_43 : decode cX12_plan 43 = .ok (.ifCond .eq 10, 3) := by decide +kernel
theorem dX12_plan_46 : decode cX12_plan 46 = .ok (.ldc_w 282, 3) := by decide +kernel
theorem dX12_plan_49 : decode cX12_plan 49 = .ok (.iload 4, 2) := by decide +kernel
theorem dX12_plan_51 : decode cX12_plan 51 = .ok (.iadd, 1) := by decide +kernel
theorem dX12_plan_52 : decode cX12_plan 52 = .ok (.ireturn, 1) := by decide +kernel
theorem dX12_plan_53 : decode cX12_plan 53 = .ok (.aload_n 0, 1) := by decide +kernel
theorem dX12_plan_54 : decode cX12_plan 54 = .ok (.getfield 25, 3) := by decide +kernel
theorem dX12_plan_57 : decode cX12_plan 57 = .ok (.iload_n 2, 1) := by decide +kernel
theorem dX12_plan_58 : decode cX12_plan 58 = .ok (.iaload, 1) := by decide +kernel
theorem dX12_plan_59 : decode cX12_plan 59 = .ok (.bipush 10, 2) := by decide +kernel
theorem dX12_plan_61 : decode cX12_plan 61 = .ok (.if_icmp .eq 7, 3) := by decide +kernel
theorem dX12_plan_64 : decode cX12_plan 64 = .ok (.ldc_w 283, 3) := by decide +kernel
theorem dX12_plan_67 : decode cX12_plan 67 = .ok (.ireturn, 1) := by decide +kernel
theorem dX12_plan_68 : decode cX12_plan 68 = .ok (.iconst 0, 1) := by decide +kernel
theorem dX12_plan_69 : decode cX12_plan 69 = .ok (.istore 5, 2) := by decide +kernel
theorem dX12_plan_71 : decode cX12_plan 71 = .ok (.iload 5, 2) := by decide +kernel
theorem dX12_plan_73 : decode cX12_plan 73 = .ok (.bipush 10, 2) := by decide +kernel
theorem dX12_plan_75 : decode cX12_plan 75 = .ok (.if_icmp .ge 38, 3) := by decide +kernel
theorem dX12_plan_78 : decode cX12_plan 78 = .ok (.aload_n 0, 1) := by decide +kernel
theorem dX12_plan_79 : decode cX12_plan 79 = .ok (.getfield 28, 3) := by decide +kernel
theorem dX12_plan_82 : decode cX12_plan 82 = .ok (.bipush 100, 2) := by decide +kernel
theorem dX12_plan_84 : decode cX12_plan 84 = .ok (.iload_n 2, 1) := by decide +kernel
theorem dX12_plan_85 : decode cX12_plan 85 = .ok (.imul, 1) := by decide +kernel
theorem dX12_plan_86 : decode cX12_plan 86 = .ok (.iload 5, 2) := by decide +kernel
theorem dX12_plan_88 : decode cX12_plan 88 = .ok (.iadd, 1) := by decide +kernel
theorem dX12_plan_89 : decode cX12_plan 89 = .ok (.iaload, 1) := by decide +kernel
theorem dX12_plan_90 : decode cX12_plan 90 = .ok (.i2l, 1) := by decide +kernel
theorem dX12_plan_91 : decode cX12_plan 91 = .ok (.ldc2_w 284, 3) := by decide +kernel
theorem dX12_plan_94 : decode cX12_plan 94 = .ok (.ldc2_w 286, 3) := by decide +kernel
theorem dX12_plan_97 : decode cX12_plan 97 = .ok (.invokestatic 65, 3) := by decide +kernel
theorem dX12_plan_100 : decode cX12_plan 100 = .ok (.ifCond .ne 7, 3) := by decide +kernel
theorem dX12_plan_103 : decode cX12_plan 103 = .ok (.ldc_w 283, 3) := by decide +kernel
theorem dX12_plan_106 : decode cX12_plan 106 = .ok (.ireturn, 1) := by decide +kernel
theorem dX12_plan_107 : decode cX12_plan 107 = .ok (.iinc 5 1, 3) := by decide +kernel
theorem dX12_plan_110 : decode cX12_plan 110 = .ok (.goto (-39), 3) := by decide +kernel
theorem dX12_plan_113 : decode cX12_plan 113 = .ok (.aload_n 0, 1) := by decide +kernel
theorem dX12_plan_114 : decode cX12_plan 114 = .ok (.iload_n 2, 1) := by decide +kernel
theorem dX12_plan_115 : decode cX12_plan 115 = .ok (.putfield 256, 3) := by decide +kernel
theorem dX12_plan_118 : decode cX12_plan 118 = .ok (.aload_n 0, 1) := by decide +kernel
theorem dX12_plan_119 : decode cX12_plan 119 = .ok (.iconst 0, 1) := by decide +kernel
theorem dX12_plan_120 : decode cX12_plan 120 = .ok (.putfield 266, 3) := by decide +kernel
theorem dX12_plan_123 : decode cX12_plan 123 = .ok (.aload_n 0, 1) := by decide +kernel
theorem dX12_plan_124 : decode cX12_plan 124 = .ok (.iload_n 1, 1) := by decide +kernel
theorem dX12_plan_125 : decode cX12_plan 125 = .ok (.bipush (-4), 2) := by decide +kernel
theorem dX12_plan_127 : decode cX12_plan 127 = .ok (.aload_n 0, 1) := by decide +kernel
theorem dX12_plan_128 : decode cX12_plan 128 = .ok (.getfield 9, 3) := by decide +kernel
theorem dX12_plan_131 : decode cX12_plan 131 = .ok (.iconst 0, 1) := by decide +kernel
theorem dX12_plan_132 : decode cX12_plan 132 = .ok (.iaload, 1) := by decide +kernel
theorem dX12_plan_133 : decode cX12_plan 133 = .ok (.aload_n 0, 1) := by decide +kernel
theorem dX12_plan_134 : decode cX12_plan 134 = .ok (.getfield 9, 3) := by decide +kernel
theorem dX12_plan_137 : decode cX12_plan 137 = .ok (.iconst 1, 1) := by decide +kernel
theorem dX12_plan_138 : decode cX12_plan 138 = .ok (.iaload, 1) := by decide +kernel
theorem dX12_plan_139 : decode cX12_plan 139 = .ok (.invokevirtual 259, 3) := by decide +kernel
theorem dX12_plan_142 : decode cX12_plan 142 = .ok (.iload_n 3, 1) := by decide +kernel
theorem dX12_plan_143 : decode cX12_plan 143 = .ok (.ifCond .ne 11, 3) := by decide +kernel
theorem dX12_plan_146 : decode cX12_plan 146 = .ok (.aload_n 0, 1) := by decide +kernel
theorem dX12_plan_147 : decode cX12_plan 147 = .ok (.getfield 270, 3) := by decide +kernel
theorem dX12_plan_150 : decode cX12_plan 150 = .ok (.l2i, 1) := by decide +kernel
theorem dX12_plan_151 : decode cX12_plan 151 = .ok (.goto 7, 3) := by decide +kernel
theorem dX12_plan_154 : decode cX12_plan 154 = .ok (.aload_n 0, 1) := by decide +kernel
theorem dX12_plan_155 : decode cX12_plan 155 = .ok (.getfield 274, 3) := by decide +kernel
theorem dX12_plan_158 : decode cX12_plan 158 = .ok (.ireturn, 1) := by decide +kernel
theorem dX12_ever_0 : decode cX12_ever 0 = .ok (.aload_n 0, 1) := by decide +kernel
theorem dX12_ever_1 : decode cX12_ever 1 = .ok (.getfield 9, 3) := by decide +kernel
theorem dX12_ever_4 : decode cX12_ever 4 = .ok (.iconst 0, 1) := by decide +kernel
theorem dX12_ever_5 : decode cX12_ever 5 = .ok (.iaload, 1) := by decide +kernel
theorem dX12_ever_6 : decode cX12_ever 6 = .ok (.istore_n 1, 1) := by decide +kernel
theorem dX12_ever_7 : decode cX12_ever 7 = .ok (.iconst 1, 1) := by decide +kernel
theorem dX12_ever_8 : decode cX12_ever 8 = .ok (.istore_n 2, 1) := by decide +kernel
theorem dX12_ever_9 : decode cX12_ever 9 = .ok (.iload_n 2, 1) := by decide +kernel
theorem dX12_ever_10 : decode cX12_ever 10 = .ok (.ifCond .eq 74, 3) := by decide +kernel
theorem dX12_ever_13 : decode cX12_ever 13 = .ok (.iload_n 1, 1) := by decide +kernel
theorem dX12_ever_14 : decode cX12_ever 14 = .ok (.istore_n 3, 1) := by decide +kernel
theorem dX12_ever_15 : decode cX12_ever 15 = .ok (.iconst 0, 1) := by decide +kernel
theorem dX12_ever_16 : decode cX12_ever 16 = .ok (.istore 4, 2) := by decide +kernel
theorem dX12_ever_18 : decode cX12_ever 18 = .ok (.iload 4, 2) := by decide +kernel
theorem dX12_ever_20 : decode cX12_ever 20 = .ok (.aload_n 0, 1) := by decide +kernel
theorem dX12_ever_21 : decode cX12_ever 21 = .ok (.getfield 9, 3) := by decide +kernel
theorem dX12_ever_24 : decode cX12_ever 24 = .ok (.bipush 6, 2) := by decide +kernel
theorem dX12_ever_26 : decode cX12_ever 26 = .ok (.iaload, 1) := by decide +kernel
theorem dX12_ever_27 : decode cX12_ever 27 = .ok (.if_icmp .ge 43, 3) := by decide +kernel
theorem dX12_ever_30 : decode cX12_ever 30 = .ok (.aload_n 0, 1) := by decide +kernel
theorem dX12_ever_31 : decode cX12_ever 31 = .ok (.iload 4, 2) := by decide +kernel
theorem dX12_ever_33 : decode cX12_ever 33 = .ok (.iconst 0, 1) := by decide +kernel
theorem dX12_ever_34 : decode cX12_ever 34 = .ok (.invokevirtual 136, 3) := by decide +kernel
theorem dX12_ever_37 : decode cX12_ever 37 = .ok (.bipush 6, 2) := by decide +kernel
theorem dX12_ever_39 : decode cX12_ever 39 = .ok (.if_icmp .eq 25, 3) := by decide +kernel
theorem dX12_ever_42 : decode cX12_ever 42 = .ok (.aload_n 0, 1) := by decide +kernel
theorem dX12_ever_43 : decode cX12_ever 43 = .ok (.iload 4, 2) := by decide +kernel
theorem dX12_ever_45 : decode cX12_ever 45 = .ok (.iconst 1, 1) := by decide +kernel
theorem dX12_ever_46 : decode cX12_ever 46 = .ok (.invokevirtual 136, 3) := by decide +kernel
theorem dX12_ever_49 : decode cX12_ever 49 = .ok (.iload_n 1, 1) := by decide +kernel
theorem dX12_ever_50 : decode cX12_ever 50 = .ok (.iconst (-1), 1) := by decide +kernel
theorem dX12_ever_51 : decode cX12_ever 51 = .ok (.ixor, 1) := by decide +kernel
theorem dX12_ever_52 : decode cX12_ever 52 = .ok (.iand, 1) := by decide +kernel
theorem dX12_ever_53 : decode cX12_ever 53 = .ok (.ifCond .ne 11, 3) := by decide +kernel
theorem dX12_ever_56 : decode cX12_ever 56 = .ok (.aload_n 0, 1) := by decide +kernel
theorem dX12_ever_57 : decode cX12_ever 57 = .ok (.iload 4, 2) := by decide +kernel
theorem dX12_ever_59 : decode cX12_ever 59 = .ok (.iload_n 1, 1) := by decide +kernel
theorem dX12_ever_60 : decode cX12_ever 60 = .ok (.invokevirtual 187, 3) := by decide +kernel
theorem dX12_ever_63 : decode cX12_ever 63 = .ok (.istore_n 1, 1) := by decide +kernel
theorem dX12_ever_64 : decode cX12_ever 64 = .ok (.iinc 4 1, 3) := by decide +kernel
theorem dX12_ever_67 : decode cX12_ever 67 = .ok (.goto (-49), 3) := by decide +kernel
theorem dX12_ever_70 : decode cX12_ever 70 = .ok (.iload_n 1, 1) := by decide +kernel
theorem dX12_ever_71 : decode cX12_ever 71 = .ok (.iload_n 3, 1) := by decide +kernel
theorem dX12_ever_72 : decode cX12_ever 72 = .ok (.if_icmp .eq 7, 3) := by decide +kernel
theorem dX12_ever_75 : decode cX12_ever 75 = .ok (.iconst 1, 1) := by decide +kernel
theorem dX12_ever_76 : decode cX12_ever 76 = .ok (.goto 4, 3) := by decide +kernel
theorem dX12_ever_79 : decode cX12_ever 79 = .ok (.iconst 0, 1) := by decide +kernel
theorem dX12_ever_80 : decode cX12_ever 80 = .ok (.istore_n 2, 1) := by decide +kernel
theorem dX12_ever_81 : decode cX12_ever 81 = .ok (.goto (-72), 3) := by decide +kernel
theorem dX12_ever_84 : decode cX12_ever 84 = .ok (.iload_n 1, 1) := by decide +kernel
theorem dX12_ever_85 : decode cX12_ever 85 = .ok (.ireturn, 1) := by decide +kernel
theorem dX12_help_0 : decode cX12_help 0 = .ok (.iconst 0, 1) := by decide +kernel
theorem dX12_help_1 : decode cX12_help 1 = .ok (.istore_n 1, 1) := by decide +kernel
theorem dX12_help_2 : decode cX12_help 2 = .ok (.iconst 0, 1) := by decide +kernel
theorem dX12_help_3 : decode cX12_help 3 = .ok (.istore_n 2, 1) := by decide +kernel
theorem dX12_help_4 : decode cX12_help 4 = .ok (.iload_n 2, 1) := by decide +kernel
theorem dX12_help_5 : decode cX12_help 5 = .ok (.aload_n 0, 1) := by decide +kernel
theorem dX12_help_6 : decode cX12_help 6 = .ok (.getfield 9, 3) := by decide +kernel
theorem dX12_help_9 : decode cX12_help 9 = .ok (.bipush 6, 2) := by decide +kernel
theorem dX12_help_11 : decode cX12_help 11 = .ok (.iaload, 1) := by decide +kernel
theorem dX12_help_12 : decode cX12_help 12 = .ok (.if_icmp .ge 58, 3) := by decide +kernel
theorem dX12_help_15 : decode cX12_help 15 = .ok (.aload_n 0, 1) := by decide +kernel
theorem dX12_help_16 : decode cX12_help 16 = .ok (.iload_n 2, 1) := by decide +kernel
theorem dX12_help_17 : decode cX12_help 17 = .ok (.iconst 0, 1) := by decide +kernel
theorem dX12_help_18 : decode cX12_help 18 = .ok (.invokevirtual 136, 3) := by decide +kernel
theorem dX12_help_21 : decode cX12_help 21 = .ok (.bipush 6, 2) := by decide +kernel
theorem dX12_help_23 : decode cX12_help 23 = .ok (.if_icmp .ne 41, 3) := by decide +kernel
theorem dX12_help_26 : decode cX12_help 26 = .ok (.aload_n 0, 1) := by decide +kernel
theorem dX12_help_27 : decode cX12_help 27 = .ok (.iload_n 2, 1) := by decide +kernel
theorem dX12_help_28 : decode cX12_help 28 = .ok (.aload_n 0, 1) := by decide +kernel
theorem dX12_help_29 : decode cX12_help 29 = .ok (.getfield 9, 3) := by decide +kernel
theorem dX12_help_32 : decode cX12_help 32 = .ok (.iconst 0, 1) := by decide +kernel
theorem dX12_help_33 : decode cX12_help 33 = .ok (.iaload, 1) := by decide +kernel
theorem dX12_help_34 : decode cX12_help 34 = .ok (.aload_n 0, 1) := by decide +kernel
theorem dX12_help_35 : decode cX12_help 35 = .ok (.getfield 9, 3) := by decide +kernel
theorem dX12_help_38 : decode cX12_help 38 = .ok (.iconst 1, 1) := by decide +kernel
theorem dX12_help_39 : decode cX12_help 39 = .ok (.iaload, 1) := by decide +kernel
theorem dX12_help_40 : decode cX12_help 40 = .ok (.invokevirtual 162, 3) := by decide +kernel
theorem dX12_help_43 : decode cX12_help 43 = .ok (.ifCond .eq 21, 3) := by decide +kernel
theorem dX12_help_46 : decode cX12_help 46 = .ok (.iload_n 1, 1) := by decide +kernel
theorem dX12_help_47 : decode cX12_help 47 = .ok (.aload_n 0, 1) := by decide +kernel
theorem dX12_help_48 : decode cX12_help 48 = .ok (.getfield 9, 3) := by decide +kernel
theorem dX12_help_51 : decode cX12_help 51 = .ok (.iconst 0, 1) := by decide +kernel
theorem dX12_help_52 : decode cX12_help 52 = .ok (.iaload, 1) := by decide +kernel
theorem dX12_help_53 : decode cX12_help 53 = .ok (.iconst 1, 1) := by decide +kernel
theorem dX12_help_54 : decode cX12_help 54 = .ok (.aload_n 0, 1) := by decide +kernel
theorem dX12_help_55 : decode cX12_help 55 = .ok (.iload_n 2, 1) := by decide +kernel
theorem dX12_help_56 : decode cX12_help 56 = .ok (.iconst 2, 1) := by decide +kernel
theorem dX12_help_57 : decode cX12_help 57 = .ok (.invokevirtual 136, 3) := by decide +kernel
theorem dX12_help_60 : decode cX12_help 60 = .ok (.ishl, 1) := by decide +kernel
theorem dX12_help_61 : decode cX12_help 61 = .ok (.iand, 1) := by decide +kernel
theorem dX12_help_62 : decode cX12_help 62 = .ok (.ior, 1) := by decide +kernel
theorem dX12_help_63 : decode cX12_help 63 = .ok (.istore_n 1, 1) := by decide +kernel
theorem dX12_help_64 : decode cX12_help 64 = .ok (.iinc 2 1, 3) := by decide +kernel
theorem dX12_help_67 : decode cX12_help 67 = .ok (.goto (-63), 3) := by decide +kernel
theorem dX12_help_70 : decode cX12_help 70 = .ok (.iload_n 1, 1) := by decide +kernel
theorem dX12_help_71 : decode cX12_help 71 = .ok (.ireturn, 1) := by decide +kernel
theorem dX12_two_0 : decode cX12_two 0 = .ok (.iload_n 1, 1) := by decide +kernel
theorem dX12_two_1 : decode cX12_two 1 = .ok (.invokestatic 123, 3) := by decide +kernel
theorem dX12_two_4 : decode cX12_two 4 = .ok (.ifCond .eq 36, 3) := by decide +kernel
theorem dX12_two_7 : decode cX12_two 7 = .ok (.iload_n 2, 1) := by decide +kernel
theorem dX12_two_8 : decode cX12_two 8 = .ok (.invokestatic 123, 3) := by decide +kernel
theorem dX12_two_11 : decode cX12_two 11 = .ok (.ifCond .eq 29, 3) := by decide +kernel
theorem dX12_two_14 : decode cX12_two 14 = .ok (.iload_n 3, 1) := by decide +kernel
theorem dX12_two_15 : decode cX12_two 15 = .ok (.invokestatic 214, 3) := by decide +kernel
theorem dX12_two_18 : decode cX12_two 18 = .ok (.ifCond .eq 22, 3) := by decide +kernel
theorem dX12_two_21 : decode cX12_two 21 = .ok (.iload 4, 2) := by decide +kernel
theorem dX12_two_23 : decode cX12_two 23 = .ok (.invokestatic 214, 3) := by decide +kernel
theorem dX12_two_26 : decode cX12_two 26 = .ok (.ifCond .eq 14, 3) := by decide +kernel
theorem dX12_two_29 : decode cX12_two 29 = .ok (.iload 5, 2) := by decide +kernel
theorem dX12_two_31 : decode cX12_two 31 = .ok (.i2l, 1) := by decide +kernel
theorem dX12_two_32 : decode cX12_two 32 = .ok (.lconst 0, 1) := by decide +kernel
theorem dX12_two_33 : decode cX12_two 33 = .ok (.lconst 1, 1) := by decide +kernel
theorem dX12_two_34 : decode cX12_two 34 = .ok (.invokestatic 65, 3) := by decide +kernel
theorem dX12_two_37 : decode cX12_two 37 = .ok (.ifCond .ne 5, 3) := by decide +kernel
theorem dX12_two_40 : decode cX12_two 40 = .ok (.iconst (-1), 1) := by decide +kernel
theorem dX12_two_41 : decode cX12_two 41 = .ok (.ireturn, 1) := by decide +kernel
theorem dX12_two_42 : decode cX12_two 42 = .ok (.aload_n 0, 1) := by decide +kernel
theorem dX12_two_43 : decode cX12_two 43 = .ok (.iload_n 1, 1) := by decide +kernel
theorem dX12_two_44 : decode cX12_two 44 = .ok (.invokevirtual 217, 3) := by decide +kernel
theorem dX12_two_47 : decode cX12_two 47 = .ok (.istore 6, 2) := by decide +kernel
theorem dX12_two_49 : decode cX12_two 49 = .ok (.iload 6, 2) := by decide +kernel
theorem dX12_two_51 : decode cX12_two 51 = .ok (.ifCond .ne 10, 3) := by decide +kernel
theorem dX12_two_54 : decode cX12_two 54 = .ok (.aload_n 0, 1) := by decide +kernel
theorem dX12_two_55 : decode cX12_two 55 = .ok (.iload_n 2, 1) := by decide +kernel
theorem dX12_two_56 : decode cX12_two 56 = .ok (.invokevirtual 217, 3) := by decide +kernel
theorem dX12_two_59 : decode cX12_two 59 = .ok (.istore 6, 2) := by decide +kernel
theorem dX12_two_61 : decode cX12_two 61 = .ok (.iload 6, 2) := by decide +kernel
theorem dX12_two_63 : decode cX12_two 63 = .ok (.ifCond .eq 6, 3) := by decide +kernel
theorem dX12_two_66 : decode cX12_two 66 = .ok (.iload 6, 2) := by decide +kernel
theorem dX12_two_68 : decode cX12_two 68 = .ok (.ireturn, 1) := by decide +kernel
theorem dX12_two_69 : decode cX12_two 69 = .ok (.aload_n 0, 1) := by decide +kernel
theorem dX12_two_70 : decode cX12_two 70 = .ok (.iconst 0, 1) := by decide +kernel
theorem dX12_two_71 : decode cX12_two 71 = .ok (.putfield 166, 3) := by decide +kernel
theorem dX12_two_74 : decode cX12_two 74 = .ok (.aload_n 0, 1) := by decide +kernel
theorem dX12_two_75 : decode cX12_two 75 = .ok (.iconst 0, 1) := by decide +kernel
theorem dX12_two_76 : decode cX12_two 76 = .ok (.putfield 169, 3) := by decide +kernel
theorem dX12_two_79 : decode cX12_two 79 = .ok (.iconst 0, 1) := by decide +kernel
theorem dX12_two_80 : decode cX12_two 80 = .ok (.istore 7, 2) := by decide +kernel
theorem dX12_two_82 : decode cX12_two 82 = .ok (.iload 7, 2) := by decide +kernel
theorem dX12_two_84 : decode cX12_two 84 = .ok (.bipush 8, 2) := by decide +kernel
theorem dX12_two_86 : decode cX12_two 86 = .ok (.if_icmp .ge 124, 3) := by decide +kernel
theorem dX12_two_89 : decode cX12_two 89 = .ok (.iconst 0, 1) := by decide +kernel
theorem dX12_two_90 : decode cX12_two 90 = .ok (.istore 8, 2) := by decide +kernel
theorem dX12_two_92 : decode cX12_two 92 = .ok (.iload 8, 2) := by decide +kernel
theorem dX12_two_94 : decode cX12_two 94 = .ok (.iconst 2, 1) := by decide +kernel
theorem dX12_two_95 : decode cX12_two 95 = .ok (.if_icmp .ge 109, 3) := by decide +kernel
theorem dX12_two_98 : decode cX12_two 98 = .ok (.iload 8, 2) := by decide +kernel
theorem dX12_two_100 : decode cX12_two 100 = .ok (.ifCond .ne 7, 3) := by decide +kernel
theorem dX12_two_103 : decode cX12_two 103 = .ok (.iload_n 1, 1) := by decide +kernel
theorem dX12_two_104 : decode cX12_two 104 = .ok (.goto 4, 3) := by decide +kernel
theorem dX12_two_107 : decode cX12_two 107 = .ok (.iload_n 2, 1) := by decide +kernel
theorem dX12_two_108 : decode cX12_two 108 = .ok (.istore 9, 2) := by decide +kernel
theorem dX12_two_110 : decode cX12_two 110 = .ok (.iload 7, 2) := by decide +kernel
theorem dX12_two_112 : decode cX12_two 112 = .ok (.aload_n 0, 1) := by decide +kernel
theorem dX12_two_113 : decode cX12_two 113 = .ok (.getfield 25, 3) := by decide +kernel
theorem dX12_two_116 : decode cX12_two 116 = .ok (.iload 9, 2) := by decide +kernel
theorem dX12_two_118 : decode cX12_two 118 = .ok (.iaload, 1) := by decide +kernel
theorem dX12_two_119 : decode cX12_two 119 = .ok (.if_icmp .lt 6, 3) := by decide +kernel
theorem dX12_two_122 : decode cX12_two 122 = .ok (.goto 76, 3) := by decide +kernel
theorem dX12_two_125 : decode cX12_two 125 = .ok (.aload_n 0, 1) := by decide +kernel
theorem dX12_two_126 : decode cX12_two 126 = .ok (.getfield 40, 3) := by decide +kernel
theorem dX12_two_129 : decode cX12_two 129 = .ok (.aload_n 0, 1) := by decide +kernel
theorem dX12_two_130 : decode cX12_two 130 = .ok (.getfield 166, 3) := by decide +kernel
theorem dX12_two_133 : decode cX12_two 133 = .ok (.aload_n 0, 1) := by decide +kernel
theorem dX12_two_134 : decode cX12_two 134 = .ok (.getfield 28, 3) := by decide +kernel
theorem dX12_two_137 : decode cX12_two 137 = .ok (.bipush 100, 2) := by decide +kernel
theorem dX12_two_139 : decode cX12_two 139 = .ok (.iload 9, 2) := by decide +kernel
theorem dX12_two_141 : decode cX12_two 141 = .ok (.imul, 1) := by decide +kernel
theorem dX12_two_142 : decode cX12_two 142 = .ok (.iload 7, 2) := by decide +kernel
theorem dX12_two_144 : decode cX12_two 144 = .ok (.iadd, 1) := by decide +kernel
theorem dX12_two_145 : decode cX12_two 145 = .ok (.iaload, 1) := by decide +kernel
theorem dX12_two_146 : decode cX12_two 146 = .ok (.iastore, 1) := by decide +kernel
theorem dX12_two_147 : decode cX12_two 147 = .ok (.aload_n 0, 1) := by decide +kernel
theorem dX12_two_148 : decode cX12_two 148 = .ok (.getfield 58, 3) := by decide +kernel
theorem dX12_two_151 : decode cX12_two 151 = .ok (.aload_n 0, 1) := by decide +kernel
theorem dX12_two_152 : decode cX12_two 152 = .ok (.getfield 166, 3) := by decide +kernel
theorem dX12_two_155 : decode cX12_two 155 = .ok (.iload 8, 2) := by decide +kernel
theorem dX12_two_157 : decode cX12_two 157 = .ok (.iastore, 1) := by decide +kernel
theorem dX12_two_158 : decode cX12_two 158 = .ok (.aload_n 0, 1) := by decide +kernel
theorem dX12_two_159 : decode cX12_two 159 = .ok (.dup, 1) := by decide +kernel
theorem dX12_two_160 : decode cX12_two 160 = .ok (.getfield 169, 3) := by decide +kernel
theorem dX12_two_163 : decode cX12_two 163 = .ok (.iload 8, 2) := by decide +kernel
theorem dX12_two_165 : decode cX12_two 165 = .ok (.ifCond .ne 7, 3) := by decide +kernel
theorem dX12_two_168 : decode cX12_two 168 = .ok (.iload_n 3, 1) := by decide +kernel
theorem dX12_two_169 : decode cX12_two 169 = .ok (.goto 5, 3) := by decide +kernel
theorem dX12_two_172 : decode cX12_two 172 = .ok (.iload 4, 2) := by decide +kernel
theorem dX12_two_174 : decode cX12_two 174 = .ok (.iload 7, 2) := by decide +kernel
theorem dX12_two_176 : decode cX12_two 176 = .ok (.ishr, 1) := by decide +kernel
theorem dX12_two_177 : decode cX12_two 177 = .ok (.iconst 1, 1) := by decide +kernel
theorem dX12_two_178 : decode cX12_two 178 = .ok (.iand, 1) := by decide +kernel
theorem dX12_two_179 : decode cX12_two 179 = .ok (.aload_n 0, 1) := by decide +kernel
theorem dX12_two_180 : decode cX12_two 180 = .ok (.getfield 166, 3) := by decide +kernel
theorem dX12_two_183 : decode cX12_two 183 = .ok (.ishl, 1) := by decide +kernel
theorem dX12_two_184 : decode cX12_two 184 = .ok (.ior, 1) := by decide +kernel
theorem dX12_two_185 : decode cX12_two 185 = .ok (.putfield 169, 3) := by decide +kernel
theorem dX12_two_188 : decode cX12_two 188 = .ok (.aload_n 0, 1) := by decide +kernel
theorem dX12_two_189 : decode cX12_two 189 = .ok (.dup, 1) := by decide +kernel
theorem dX12_two_190 : decode cX12_two 190 = .ok (.getfield 166, 3) := by decide +kernel
theorem dX12_two_193 : decode cX12_two 193 = .ok (.iconst 1, 1) := by decide +kernel
theorem dX12_two_194 : decode cX12_two 194 = .ok (.iadd, 1) := by decide +kernel
theorem dX12_two_195 : decode cX12_two 195 = .ok (.putfield 166, 3) := by decide +kernel
theorem dX12_two_198 : decode cX12_two 198 = .ok (.iinc 8 1, 3) := by decide +kernel
theorem dX12_two_201 : decode cX12_two 201 = .ok (.goto (-109), 3) := by decide +kernel
theorem dX12_two_204 : decode cX12_two 204 = .ok (.iinc 7 1, 3) := by decide +kernel
theorem dX12_two_207 : decode cX12_two 207 = .ok (.goto (-125), 3) := by decide +kernel
theorem dX12_two_210 : decode cX12_two 210 = .ok (.aload_n 0, 1) := by decide +kernel
theorem dX12_two_211 : decode cX12_two 211 = .ok (.invokevirtual 172, 3) := by decide +kernel
theorem dX12_two_214 : decode cX12_two 214 = .ok (.aload_n 0, 1) := by decide +kernel
theorem dX12_two_215 : decode cX12_two 215 = .ok (.invokevirtual 223, 3) := by decide +kernel
theorem dX12_two_218 : decode cX12_two 218 = .ok (.iconst 0, 1) := by decide +kernel
theorem dX12_two_219 : decode cX12_two 219 = .ok (.istore 7, 2) := by decide +kernel
theorem dX12_two_221 : decode cX12_two 221 = .ok (.iconst 0, 1) := by decide +kernel
theorem dX12_two_222 : decode cX12_two 222 = .ok (.istore 8, 2) := by decide +kernel
theorem dX12_two_224 : decode cX12_two 224 = .ok (.iload 8, 2) := by decide +kernel
theorem dX12_two_226 : decode cX12_two 226 = .ok (.aload_n 0, 1) := by decide +kernel
theorem dX12_two_227 : decode cX12_two 227 = .ok (.getfield 166, 3) := by decide +kernel
theorem dX12_two_230 : decode cX12_two 230 = .ok (.if_icmp .ge 51, 3) := by decide +kernel
theorem dX12_two_233 : decode cX12_two 233 = .ok (.iload 7, 2) := by decide +kernel
theorem dX12_two_235 : decode cX12_two 235 = .ok (.aload_n 0, 1) := by decide +kernel
theorem dX12_two_236 : decode cX12_two 236 = .ok (.getfield 58, 3) := by decide +kernel
theorem dX12_two_239 : decode cX12_two 239 = .ok (.iload 8, 2) := by decide +kernel
theorem dX12_two_241 : decode cX12_two 241 = .ok (.iaload, 1) := by decide +kernel
theorem dX12_two_242 : decode cX12_two 242 = .ok (.iload 5, 2) := by decide +kernel
theorem dX12_two_244 : decode cX12_two 244 = .ok (.if_icmp .ne 27, 3) := by decide +kernel
theorem dX12_two_247 : decode cX12_two 247 = .ok (.aload_n 0, 1) := by decide +kernel
theorem dX12_two_248 : decode cX12_two 248 = .ok (.iload 8, 2) := by decide +kernel
theorem dX12_two_250 : decode cX12_two 250 = .ok (.invokevirtual 193, 3) := by decide +kernel
theorem dX12_two_253 : decode cX12_two 253 = .ok (.ifCond .ne 14, 3) := by decide +kernel
theorem dX12_two_256 : decode cX12_two 256 = .ok (.aload_n 0, 1) := by decide +kernel
theorem dX12_two_257 : decode cX12_two 257 = .ok (.getfield 49, 3) := by decide +kernel
theorem dX12_two_260 : decode cX12_two 260 = .ok (.iload 8, 2) := by decide +kernel
theorem dX12_two_262 : decode cX12_two 262 = .ok (.iaload, 1) := by decide +kernel
theorem dX12_two_263 : decode cX12_two 263 = .ok (.iconst 4, 1) := by decide +kernel
theorem dX12_two_264 : decode cX12_two 264 = .ok (.if_icmp .ne 7, 3) := by decide +kernel
theorem dX12_two_267 : decode cX12_two 267 = .ok (.iconst 1, 1) := by decide +kernel
theorem dX12_two_268 : decode cX12_two 268 = .ok (.goto 4, 3) := by decide +kernel
theorem dX12_two_271 : decode cX12_two 271 = .ok (.iconst 0, 1) := by decide +kernel
theorem dX12_two_272 : decode cX12_two 272 = .ok (.iadd, 1) := by decide +kernel
theorem dX12_two_273 : decode cX12_two 273 = .ok (.istore 7, 2) := by decide +kernel
theorem dX12_two_275 : decode cX12_two 275 = .ok (.iinc 8 1, 3) := by decide +kernel
theorem dX12_two_278 : decode cX12_two 278 = .ok (.goto (-54), 3) := by decide +kernel
theorem dX12_two_281 : decode cX12_two 281 = .ok (.iload 7, 2) := by decide +kernel
theorem dX12_two_283 : decode cX12_two 283 = .ok (.ireturn, 1) := by decide +kernel
theorem dX12_month_0 : decode cX12_month 0 = .ok (.iconst 0, 1) := by decide +kernel
theorem dX12_month_1 : decode cX12_month 1 = .ok (.istore_n 1, 1) := by decide +kernel
theorem dX12_month_2 : decode cX12_month 2 = .ok (.iconst 1, 1) := by decide +kernel
theorem dX12_month_3 : decode cX12_month 3 = .ok (.istore_n 2, 1) := by decide +kernel
theorem dX12_month_4 : decode cX12_month 4 = .ok (.iload_n 2, 1) := by decide +kernel
theorem dX12_month_5 : decode cX12_month 5 = .ok (.bipush 8, 2) := by decide +kernel
theorem dX12_month_7 : decode cX12_month 7 = .ok (.if_icmp .ge 28, 3) := by decide +kernel
theorem dX12_month_10 : decode cX12_month 10 = .ok (.aload_n 0, 1) := by decide +kernel
theorem dX12_month_11 : decode cX12_month 11 = .ok (.iload_n 2, 1) := by decide +kernel
theorem dX12_month_12 : decode cX12_month 12 = .ok (.invokevirtual 190, 3) := by decide +kernel
theorem dX12_month_15 : decode cX12_month 15 = .ok (.aload_n 0, 1) := by decide +kernel
theorem dX12_month_16 : decode cX12_month 16 = .ok (.iload_n 1, 1) := by decide +kernel
theorem dX12_month_17 : decode cX12_month 17 = .ok (.invokevirtual 190, 3) := by decide +kernel
theorem dX12_month_20 : decode cX12_month 20 = .ok (.if_icmp .ge 7, 3) := by decide +kernel
theorem dX12_month_23 : decode cX12_month 23 = .ok (.iload_n 2, 1) := by decide +kernel
theorem dX12_month_24 : decode cX12_month 24 = .ok (.goto 4, 3) := by decide +kernel
theorem dX12_month_27 : decode cX12_month 27 = .ok (.iload_n 1, 1) := by decide +kernel
theorem dX12_month_28 : decode cX12_month 28 = .ok (.istore_n 1, 1) := by decide +kernel
theorem dX12_month_29 : decode cX12_month 29 = .ok (.iinc 2 1, 3) := by decide +kernel
theorem dX12_month_32 : decode cX12_month 32 = .ok (.goto (-28), 3) := by decide +kernel
theorem dX12_month_35 : decode cX12_month 35 = .ok (.iload_n 1, 1) := by decide +kernel
theorem dX12_month_36 : decode cX12_month 36 = .ok (.ireturn, 1) := by decide +kernel
theorem dX12_nail_0 : decode cX12_nail 0 = .ok (.iload_n 1, 1) := by decide +kernel
theorem dX12_nail_1 : decode cX12_nail 1 = .ok (.i2l, 1) := by decide +kernel
theorem dX12_nail_2 : decode cX12_nail 2 = .ok (.lconst 0, 1) := by decide +kernel
theorem dX12_nail_3 : decode cX12_nail 3 = .ok (.ldc2_w 69, 3) := by decide +kernel
theorem dX12_nail_6 : decode cX12_nail 6 = .ok (.invokestatic 65, 3) := by decide +kernel
theorem dX12_nail_9 : decode cX12_nail 9 = .ok (.ifCond .eq 11, 3) := by decide +kernel
theorem dX12_nail_12 : decode cX12_nail 12 = .ok (.aload_n 0, 1) := by decide +kernel
theorem dX12_nail_13 : decode cX12_nail 13 = .ok (.iload_n 1, 1) := by decide +kernel
theorem dX12_nail_14 : decode cX12_nail 14 = .ok (.invokevirtual 190, 3) := by decide +kernel
theorem dX12_nail_17 : decode cX12_nail 17 = .ok (.goto 4, 3) := by decide +kernel
theorem dX12_nail_20 : decode cX12_nail 20 = .ok (.iconst (-1), 1) := by decide +kernel
theorem dX12_nail_21 : decode cX12_nail 21 = .ok (.ireturn, 1) := by decide +kernel
theorem dX12_byLaw_0 : decode cX12_byLaw 0 = .ok (.iload_n 1, 1) := by decide +kernel
theorem dX12_byLaw_1 : decode cX12_byLaw 1 = .ok (.i2l, 1) := by decide +kernel
theorem dX12_byLaw_2 : decode cX12_byLaw 2 = .ok (.lconst 0, 1) := by decide +kernel
theorem dX12_byLaw_3 : decode cX12_byLaw 3 = .ok (.ldc2_w 156, 3) := by decide +kernel
theorem dX12_byLaw_6 : decode cX12_byLaw 6 = .ok (.invokestatic 65, 3) := by decide +kernel
theorem dX12_byLaw_9 : decode cX12_byLaw 9 = .ok (.ifCond .eq 17, 3) := by decide +kernel
theorem dX12_byLaw_12 : decode cX12_byLaw 12 = .ok (.iload_n 2, 1) := by decide +kernel
theorem dX12_byLaw_13 : decode cX12_byLaw 13 = .ok (.invokestatic 123, 3) := by decide +kernel
theorem dX12_byLaw_16 : decode cX12_byLaw 16 = .ok (.ifCond .eq 10, 3) := by decide +kernel
theorem dX12_byLaw_19 : decode cX12_byLaw 19 = .ok (.iload_n 3, 1) := by decide +kernel
theorem dX12_byLaw_20 : decode cX12_byLaw 20 = .ok (.invokestatic 214, 3) := by decide +kernel
theorem dX12_byLaw_23 : decode cX12_byLaw 23 = .ok (.ifCond .ne 5, 3) := by decide +kernel
theorem dX12_byLaw_26 : decode cX12_byLaw 26 = .ok (.iconst (-1), 1) := by decide +kernel
theorem dX12_byLaw_27 : decode cX12_byLaw 27 = .ok (.ireturn, 1) := by decide +kernel
theorem dX12_byLaw_28 : decode cX12_byLaw 28 = .ok (.aload_n 0, 1) := by decide +kernel
theorem dX12_byLaw_29 : decode cX12_byLaw 29 = .ok (.iload_n 2, 1) := by decide +kernel
theorem dX12_byLaw_30 : decode cX12_byLaw 30 = .ok (.invokevirtual 217, 3) := by decide +kernel
theorem dX12_byLaw_33 : decode cX12_byLaw 33 = .ok (.istore 4, 2) := by decide +kernel
theorem dX12_byLaw_35 : decode cX12_byLaw 35 = .ok (.iload 4, 2) := by decide +kernel
theorem dX12_byLaw_37 : decode cX12_byLaw 37 = .ok (.ifCond .eq 6, 3) := by decide +kernel
theorem dX12_byLaw_40 : decode cX12_byLaw 40 = .ok (.iload 4, 2) := by decide +kernel
theorem dX12_byLaw_42 : decode cX12_byLaw 42 = .ok (.ireturn, 1) := by decide +kernel
theorem dX12_byLaw_43 : decode cX12_byLaw 43 = .ok (.aload_n 0, 1) := by decide +kernel
theorem dX12_byLaw_44 : decode cX12_byLaw 44 = .ok (.getfield 9, 3) := by decide +kernel
theorem dX12_byLaw_47 : decode cX12_byLaw 47 = .ok (.iconst 3, 1) := by decide +kernel
theorem dX12_byLaw_48 : decode cX12_byLaw 48 = .ok (.iaload, 1) := by decide +kernel
theorem dX12_byLaw_49 : decode cX12_byLaw 49 = .ok (.istore 5, 2) := by decide +kernel
theorem dX12_byLaw_51 : decode cX12_byLaw 51 = .ok (.aload_n 0, 1) := by decide +kernel
theorem dX12_byLaw_52 : decode cX12_byLaw 52 = .ok (.getfield 9, 3) := by decide +kernel
theorem dX12_byLaw_55 : decode cX12_byLaw 55 = .ok (.iconst 3, 1) := by decide +kernel
theorem dX12_byLaw_56 : decode cX12_byLaw 56 = .ok (.iload_n 1, 1) := by decide +kernel
theorem dX12_byLaw_57 : decode cX12_byLaw 57 = .ok (.iastore, 1) := by decide +kernel
theorem dX12_byLaw_58 : decode cX12_byLaw 58 = .ok (.aload_n 0, 1) := by decide +kernel
theorem dX12_byLaw_59 : decode cX12_byLaw 59 = .ok (.iload_n 2, 1) := by decide +kernel
theorem dX12_byLaw_60 : decode cX12_byLaw 60 = .ok (.iload_n 3, 1) := by decide +kernel
theorem dX12_byLaw_61 : decode cX12_byLaw 61 = .ok (.invokevirtual 220, 3) := by decide +kernel
theorem dX12_byLaw_64 : decode cX12_byLaw 64 = .ok (.aload_n 0, 1) := by decide +kernel
theorem dX12_byLaw_65 : decode cX12_byLaw 65 = .ok (.invokevirtual 223, 3) := by decide +kernel
theorem dX12_byLaw_68 : decode cX12_byLaw 68 = .ok (.aload_n 0, 1) := by decide +kernel
theorem dX12_byLaw_69 : decode cX12_byLaw 69 = .ok (.getfield 9, 3) := by decide +kernel
theorem dX12_byLaw_72 : decode cX12_byLaw 72 = .ok (.iconst 3, 1) := by decide +kernel
theorem dX12_byLaw_73 : decode cX12_byLaw 73 = .ok (.iload 5, 2) := by decide +kernel
theorem dX12_byLaw_75 : decode cX12_byLaw 75 = .ok (.iastore, 1) := by decide +kernel
theorem dX12_byLaw_76 : decode cX12_byLaw 76 = .ok (.aload_n 0, 1) := by decide +kernel
theorem dX12_byLaw_77 : decode cX12_byLaw 77 = .ok (.getfield 175, 3) := by decide +kernel
theorem dX12_byLaw_80 : decode cX12_byLaw 80 = .ok (.invokestatic 235, 3) := by decide +kernel
theorem dX12_byLaw_83 : decode cX12_byLaw 83 = .ok (.ireturn, 1) := by decide +kernel
theorem dX12_drawn_0 : decode cX12_drawn 0 = .ok (.aload_n 0, 1) := by decide +kernel
theorem dX12_drawn_1 : decode cX12_drawn 1 = .ok (.aload_n 0, 1) := by decide +kernel
theorem dX12_drawn_2 : decode cX12_drawn 2 = .ok (.getfield 288, 3) := by decide +kernel
theorem dX12_drawn_5 : decode cX12_drawn 5 = .ok (.ldc_w 291, 3) := by decide +kernel
theorem dX12_drawn_8 : decode cX12_drawn 8 = .ok (.imul, 1) := by decide +kernel
theorem dX12_drawn_9 : decode cX12_drawn 9 = .ok (.sipush 12345, 3) := by decide +kernel
theorem dX12_drawn_12 : decode cX12_drawn 12 = .ok (.iadd, 1) := by decide +kernel
theorem dX12_drawn_13 : decode cX12_drawn 13 = .ok (.putfield 288, 3) := by decide +kernel
theorem dX12_drawn_16 : decode cX12_drawn 16 = .ok (.aload_n 0, 1) := by decide +kernel
theorem dX12_drawn_17 : decode cX12_drawn 17 = .ok (.getfield 288, 3) := by decide +kernel
theorem dX12_drawn_20 : decode cX12_drawn 20 = .ok (.ldc_w 292, 3) := by decide +kernel
theorem dX12_drawn_23 : decode cX12_drawn 23 = .ok (.iand, 1) := by decide +kernel
theorem dX12_drawn_24 : decode cX12_drawn 24 = .ok (.ldc_w 293, 3) := by decide +kernel
theorem dX12_drawn_27 : decode cX12_drawn 27 = .ok (.idiv, 1) := by decide +kernel
theorem dX12_drawn_28 : decode cX12_drawn 28 = .ok (.iload_n 1, 1) := by decide +kernel
theorem dX12_drawn_29 : decode cX12_drawn 29 = .ok (.irem, 1) := by decide +kernel
theorem dX12_drawn_30 : decode cX12_drawn 30 = .ok (.ireturn, 1) := by decide +kernel
theorem dX12_seeded_0 : decode cX12_seeded 0 = .ok (.iload_n 1, 1) := by decide +kernel
theorem dX12_seeded_1 : decode cX12_seeded 1 = .ok (.i2l, 1) := by decide +kernel
theorem dX12_seeded_2 : decode cX12_seeded 2 = .ok (.lconst 1, 1) := by decide +kernel
theorem dX12_seeded_3 : decode cX12_seeded 3 = .ok (.ldc2_w 294, 3) := by decide +kernel
theorem dX12_seeded_6 : decode cX12_seeded 6 = .ok (.invokestatic 65, 3) := by decide +kernel
theorem dX12_seeded_9 : decode cX12_seeded 9 = .ok (.ifCond .eq 15, 3) := by decide +kernel
theorem dX12_seeded_12 : decode cX12_seeded 12 = .ok (.iload_n 3, 1) := by decide +kernel
theorem dX12_seeded_13 : decode cX12_seeded 13 = .ok (.i2l, 1) := by decide +kernel
theorem dX12_seeded_14 : decode cX12_seeded 14 = .ok (.lconst 0, 1) := by decide +kernel
theorem dX12_seeded_15 : decode cX12_seeded 15 = .ok (.ldc2_w 156, 3) := by decide +kernel
theorem dX12_seeded_18 : decode cX12_seeded 18 = .ok (.invokestatic 65, 3) := by decide +kernel
theorem dX12_seeded_21 : decode cX12_seeded 21 = .ok (.ifCond .ne 5, 3) := by decide +kernel
theorem dX12_seeded_24 : decode cX12_seeded 24 = .ok (.iconst (-1), 1) := by decide +kernel
theorem dX12_seeded_25 : decode cX12_seeded 25 = .ok (.ireturn, 1) := by decide +kernel
theorem dX12_seeded_26 : decode cX12_seeded 26 = .ok (.aload_n 0, 1) := by decide +kernel
theorem dX12_seeded_27 : decode cX12_seeded 27 = .ok (.getfield 9, 3) := by decide +kernel
theorem dX12_seeded_30 : decode cX12_seeded 30 = .ok (.bipush 6, 2) := by decide +kernel
theorem dX12_seeded_32 : decode cX12_seeded 32 = .ok (.iaload, 1) := by decide +kernel
theorem dX12_seeded_33 : decode cX12_seeded 33 = .ok (.ifCond .ne 6, 3) := by decide +kernel
theorem dX12_seeded_36 : decode cX12_seeded 36 = .ok (.bipush (-3), 2) := by decide +kernel
theorem dX12_seeded_38 : decode cX12_seeded 38 = .ok (.ireturn, 1) := by decide +kernel
theorem dX12_seeded_39 : decode cX12_seeded 39 = .ok (.aload_n 0, 1) := by decide +kernel
theorem dX12_seeded_40 : decode cX12_seeded 40 = .ok (.iload_n 2, 1) := by decide +kernel
theorem dX12_seeded_41 : decode cX12_seeded 41 = .ok (.putfield 288, 3) := by decide +kernel
theorem dX12_seeded_44 : decode cX12_seeded 44 = .ok (.aload_n 0, 1) := by decide +kernel
theorem dX12_seeded_45 : decode cX12_seeded 45 = .ok (.invokevirtual 172, 3) := by decide +kernel
theorem dX12_seeded_48 : decode cX12_seeded 48 = .ok (.iconst 0, 1) := by decide +kernel
theorem dX12_seeded_49 : decode cX12_seeded 49 = .ok (.istore 4, 2) := by decide +kernel
theorem dX12_seeded_51 : decode cX12_seeded 51 = .ok (.iload 4, 2) := by decide +kernel
theorem dX12_seeded_53 : decode cX12_seeded 53 = .ok (.iload_n 1, 1) := by decide +kernel
theorem dX12_seeded_54 : decode cX12_seeded 54 = .ok (.if_icmp .ge 74, 3) := by decide +kernel
theorem dX12_seeded_57 : decode cX12_seeded 57 = .ok (.aload_n 0, 1) := by decide +kernel
theorem dX12_seeded_58 : decode cX12_seeded 58 = .ok (.iconst 1, 1) := by decide +kernel
theorem dX12_seeded_59 : decode cX12_seeded 59 = .ok (.aload_n 0, 1) := by decide +kernel
theorem dX12_seeded_60 : decode cX12_seeded 60 = .ok (.iconst 4, 1) := by decide +kernel
theorem dX12_seeded_61 : decode cX12_seeded 61 = .ok (.invokevirtual 296, 3) := by decide +kernel
theorem dX12_seeded_64 : decode cX12_seeded 64 = .ok (.iadd, 1) := by decide +kernel
theorem dX12_seeded_65 : decode cX12_seeded 65 = .ok (.putfield 166, 3) := by decide +kernel
theorem dX12_seeded_68 : decode cX12_seeded 68 = .ok (.iconst 0, 1) := by decide +kernel
theorem dX12_seeded_69 : decode cX12_seeded 69 = .ok (.istore 5, 2) := by decide +kernel
theorem dX12_seeded_71 : decode cX12_seeded 71 = .ok (.iload 5, 2) := by decide +kernel
theorem dX12_seeded_73 : decode cX12_seeded 73 = .ok (.aload_n 0, 1) := by decide +kernel
theorem dX12_seeded_74 : decode cX12_seeded 74 = .ok (.getfield 166, 3) := by decide +kernel
theorem dX12_seeded_77 : decode cX12_seeded 77 = .ok (.if_icmp .ge 27, 3) := by decide +kernel
theorem dX12_seeded_80 : decode cX12_seeded 80 = .ok (.aload_n 0, 1) := by decide +kernel
theorem dX12_seeded_81 : decode cX12_seeded 81 = .ok (.getfield 40, 3) := by decide +kernel
theorem dX12_seeded_84 : decode cX12_seeded 84 = .ok (.iload 5, 2) := by decide +kernel
theorem dX12_seeded_86 : decode cX12_seeded 86 = .ok (.aload_n 0, 1) := by decide +kernel
theorem dX12_seeded_87 : decode cX12_seeded 87 = .ok (.aload_n 0, 1) := by decide +kernel
theorem dX12_seeded_88 : decode cX12_seeded 88 = .ok (.getfield 9, 3) := by decide +kernel
theorem dX12_seeded_91 : decode cX12_seeded 91 = .ok (.bipush 6, 2) := by decide +kernel
theorem dX12_seeded_93 : decode cX12_seeded 93 = .ok (.iaload, 1) := by decide +kernel
theorem dX12_seeded_94 : decode cX12_seeded 94 = .ok (.invokevirtual 296, 3) := by decide +kernel
theorem dX12_seeded_97 : decode cX12_seeded 97 = .ok (.iastore, 1) := by decide +kernel
theorem dX12_seeded_98 : decode cX12_seeded 98 = .ok (.iinc 5 1, 3) := by decide +kernel
theorem dX12_seeded_101 : decode cX12_seeded 101 = .ok (.goto (-30), 3) := by decide +kernel
theorem dX12_seeded_104 : decode cX12_seeded 104 = .ok (.aload_n 0, 1) := by decide +kernel
theorem dX12_seeded_105 : decode cX12_seeded 105 = .ok (.aload_n 0, 1) := by decide +kernel
theorem dX12_seeded_106 : decode cX12_seeded 106 = .ok (.iconst 1, 1) := by decide +kernel
theorem dX12_seeded_107 : decode cX12_seeded 107 = .ok (.aload_n 0, 1) := by decide +kernel
theorem dX12_seeded_108 : decode cX12_seeded 108 = .ok (.getfield 166, 3) := by decide +kernel
theorem dX12_seeded_111 : decode cX12_seeded 111 = .ok (.ishl, 1) := by decide +kernel
theorem dX12_seeded_112 : decode cX12_seeded 112 = .ok (.invokevirtual 296, 3) := by decide +kernel
theorem dX12_seeded_115 : decode cX12_seeded 115 = .ok (.putfield 169, 3) := by decide +kernel
theorem dX12_seeded_118 : decode cX12_seeded 118 = .ok (.aload_n 0, 1) := by decide +kernel
theorem dX12_seeded_119 : decode cX12_seeded 119 = .ok (.invokevirtual 223, 3) := by decide +kernel
theorem dX12_seeded_122 : decode cX12_seeded 122 = .ok (.iinc 4 1, 3) := by decide +kernel
theorem dX12_seeded_125 : decode cX12_seeded 125 = .ok (.goto (-74), 3) := by decide +kernel
theorem dX12_seeded_128 : decode cX12_seeded 128 = .ok (.iload_n 3, 1) := by decide +kernel
theorem dX12_seeded_129 : decode cX12_seeded 129 = .ok (.ifCond .ne 10, 3) := by decide +kernel
theorem dX12_seeded_132 : decode cX12_seeded 132 = .ok (.aload_n 0, 1) := by decide +kernel
theorem dX12_seeded_133 : decode cX12_seeded 133 = .ok (.getfield 175, 3) := by decide +kernel
theorem dX12_seeded_136 : decode cX12_seeded 136 = .ok (.goto 19, 3) := by decide +kernel
theorem dX12_seeded_139 : decode cX12_seeded 139 = .ok (.iload_n 3, 1) := by decide +kernel
theorem dX12_seeded_140 : decode cX12_seeded 140 = .ok (.iconst 1, 1) := by decide +kernel
theorem dX12_seeded_141 : decode cX12_seeded 141 = .ok (.if_icmp .ne 10, 3) := by decide +kernel
theorem dX12_seeded_144 : decode cX12_seeded 144 = .ok (.aload_n 0, 1) := by decide +kernel
theorem dX12_seeded_145 : decode cX12_seeded 145 = .ok (.getfield 178, 3) := by decide +kernel
theorem dX12_seeded_148 : decode cX12_seeded 148 = .ok (.goto 7, 3) := by decide +kernel
theorem dX12_seeded_151 : decode cX12_seeded 151 = .ok (.aload_n 0, 1) := by decide +kernel
theorem dX12_seeded_152 : decode cX12_seeded 152 = .ok (.getfield 184, 3) := by decide +kernel
theorem dX12_seeded_155 : decode cX12_seeded 155 = .ok (.ireturn, 1) := by decide +kernel
theorem dX12_leastOf_0 : decode cX12_leastOf 0 = .ok (.aload_n 0, 1) := by decide +kernel
theorem dX12_leastOf_1 : decode cX12_leastOf 1 = .ok (.getfield 22, 3) := by decide +kernel
theorem dX12_leastOf_4 : decode cX12_leastOf 4 = .ok (.iload_n 1, 1) := by decide +kernel
theorem dX12_leastOf_5 : decode cX12_leastOf 5 = .ok (.iaload, 1) := by decide +kernel
theorem dX12_leastOf_6 : decode cX12_leastOf 6 = .ok (.ifCond .ne 8, 3) := by decide +kernel
theorem dX12_leastOf_9 : decode cX12_leastOf 9 = .ok (.bipush (-128), 2) := by decide +kernel
theorem dX12_leastOf_11 : decode cX12_leastOf 11 = .ok (.goto 22, 3) := by decide +kernel
theorem dX12_leastOf_14 : decode cX12_leastOf 14 = .ok (.aload_n 0, 1) := by decide +kernel
theorem dX12_leastOf_15 : decode cX12_leastOf 15 = .ok (.getfield 22, 3) := by decide +kernel
theorem dX12_leastOf_18 : decode cX12_leastOf 18 = .ok (.iload_n 1, 1) := by decide +kernel
theorem dX12_leastOf_19 : decode cX12_leastOf 19 = .ok (.iaload, 1) := by decide +kernel
theorem dX12_leastOf_20 : decode cX12_leastOf 20 = .ok (.iconst 1, 1) := by decide +kernel
theorem dX12_leastOf_21 : decode cX12_leastOf 21 = .ok (.if_icmp .ne 9, 3) := by decide +kernel
theorem dX12_leastOf_24 : decode cX12_leastOf 24 = .ok (.sipush (-32768), 3) := by decide +kernel
theorem dX12_leastOf_27 : decode cX12_leastOf 27 = .ok (.goto 6, 3) := by decide +kernel
theorem dX12_leastOf_30 : decode cX12_leastOf 30 = .ok (.ldc_w 299, 3) := by decide +kernel
theorem dX12_leastOf_33 : decode cX12_leastOf 33 = .ok (.ireturn, 1) := by decide +kernel
theorem dX12_judge_0 : decode cX12_judge 0 = .ok (.iload_n 1, 1) := by decide +kernel
theorem dX12_judge_1 : decode cX12_judge 1 = .ok (.invokestatic 123, 3) := by decide +kernel
theorem dX12_judge_4 : decode cX12_judge 4 = .ok (.ifCond .eq 17, 3) := by decide +kernel
theorem dX12_judge_7 : decode cX12_judge 7 = .ok (.iload_n 2, 1) := by decide +kernel
theorem dX12_judge_8 : decode cX12_judge 8 = .ok (.invokestatic 214, 3) := by decide +kernel
theorem dX12_judge_11 : decode cX12_judge 11 = .ok (.ifCond .eq 10, 3) := by decide +kernel
theorem dX12_judge_14 : decode cX12_judge 14 = .ok (.iload_n 3, 1) := by decide +kernel
theorem dX12_judge_15 : decode cX12_judge 15 = .ok (.invokestatic 123, 3) := by decide +kernel
theorem dX12_judge_18 : decode cX12_judge 18 = .ok (.ifCond .ne 5, 3) := by decide +kernel
theorem dX12_judge_21 : decode cX12_judge 21 = .ok (.iconst (-1), 1) := by decide +kernel
theorem dX12_judge_22 : decode cX12_judge 22 = .ok (.ireturn, 1) := by decide +kernel
theorem dX12_judge_23 : decode cX12_judge 23 = .ok (.aload_n 0, 1) := by decide +kernel
theorem dX12_judge_24 : decode cX12_judge 24 = .ok (.iload_n 1, 1) := by decide +kernel
theorem dX12_judge_25 : decode cX12_judge 25 = .ok (.invokevirtual 217, 3) := by decide +kernel
theorem dX12_judge_28 : decode cX12_judge 28 = .ok (.istore 4, 2) := by decide +kernel
theorem dX12_judge_30 : decode cX12_judge 30 = .ok (.iload 4, 2) := by decide +kernel
theorem dX12_judge_32 : decode cX12_judge 32 = .ok (.ifCond .ne 11, 3) := by decide +kernel
theorem dX12_judge_35 : decode cX12_judge 35 = .ok (.aload_n 0, 1) := by decide +kernel
theorem dX12_judge_36 : decode cX12_judge 36 = .ok (.iload_n 3, 1) := by decide +kernel
theorem dX12_judge_37 : decode cX12_judge 37 = .ok (.iconst (-1), 1) := by decide +kernel
theorem dX12_judge_38 : decode cX12_judge 38 = .ok (.invokevirtual 126, 3) := by decide +kernel
theorem dX12_judge_41 : decode cX12_judge 41 = .ok (.istore 4, 2) := by decide +kernel
theorem dX12_judge_43 : decode cX12_judge 43 = .ok (.iload 4, 2) := by decide +kernel
theorem dX12_judge_45 : decode cX12_judge 45 = .ok (.ifCond .eq 6, 3) := by decide +kernel
theorem dX12_judge_48 : decode cX12_judge 48 = .ok (.iload 4, 2) := by decide +kernel
theorem dX12_judge_50 : decode cX12_judge 50 = .ok (.ireturn, 1) := by decide +kernel
theorem dX12_judge_51 : decode cX12_judge 51 = .ok (.aload_n 0, 1) := by decide +kernel
theorem dX12_judge_52 : decode cX12_judge 52 = .ok (.iload_n 1, 1) := by decide +kernel
theorem dX12_judge_53 : decode cX12_judge 53 = .ok (.iload_n 2, 1) := by decide +kernel
theorem dX12_judge_54 : decode cX12_judge 54 = .ok (.invokevirtual 220, 3) := by decide +kernel
theorem dX12_judge_57 : decode cX12_judge 57 = .ok (.aload_n 0, 1) := by decide +kernel
theorem dX12_judge_58 : decode cX12_judge 58 = .ok (.invokevirtual 223, 3) := by decide +kernel
theorem dX12_judge_61 : decode cX12_judge 61 = .ok (.iconst 0, 1) := by decide +kernel
theorem dX12_judge_62 : decode cX12_judge 62 = .ok (.istore 5, 2) := by decide +kernel
theorem dX12_judge_64 : decode cX12_judge 64 = .ok (.iload 5, 2) := by decide +kernel
theorem dX12_judge_66 : decode cX12_judge 66 = .ok (.aload_n 0, 1) := by decide +kernel
theorem dX12_judge_67 : decode cX12_judge 67 = .ok (.getfield 25, 3) := by decide +kernel
theorem dX12_judge_70 : decode cX12_judge 70 = .ok (.iload_n 3, 1) := by decide +kernel
theorem dX12_judge_71 : decode cX12_judge 71 = .ok (.iaload, 1) := by decide +kernel
theorem dX12_judge_72 : decode cX12_judge 72 = .ok (.if_icmp .ge 76, 3) := by decide +kernel
theorem dX12_judge_75 : decode cX12_judge 75 = .ok (.aload_n 0, 1) := by decide +kernel
theorem dX12_judge_76 : decode cX12_judge 76 = .ok (.getfield 28, 3) := by decide +kernel
theorem dX12_judge_79 : decode cX12_judge 79 = .ok (.bipush 100, 2) := by decide +kernel
theorem dX12_judge_81 : decode cX12_judge 81 = .ok (.iload_n 3, 1) := by decide +kernel
theorem dX12_judge_82 : decode cX12_judge 82 = .ok (.imul, 1) := by decide +kernel
theorem dX12_judge_83 : decode cX12_judge 83 = .ok (.iload 5, 2) := by decide +kernel
theorem dX12_judge_85 : decode cX12_judge 85 = .ok (.iadd, 1) := by decide +kernel
theorem dX12_judge_86 : decode cX12_judge 86 = .ok (.iaload, 1) := by decide +kernel
theorem dX12_judge_87 : decode cX12_judge 87 = .ok (.istore 6, 2) := by decide +kernel
theorem dX12_judge_89 : decode cX12_judge 89 = .ok (.iload 6, 2) := by decide +kernel
theorem dX12_judge_91 : decode cX12_judge 91 = .ok (.aload_n 0, 1) := by decide +kernel
theorem dX12_judge_92 : decode cX12_judge 92 = .ok (.iload_n 3, 1) := by decide +kernel
theorem dX12_judge_93 : decode cX12_judge 93 = .ok (.invokevirtual 300, 3) := by decide +kernel
theorem dX12_judge_96 : decode cX12_judge 96 = .ok (.if_icmp .ne 6, 3) := by decide +kernel
theorem dX12_judge_99 : decode cX12_judge 99 = .ok (.goto 43, 3) := by decide +kernel
theorem dX12_judge_102 : decode cX12_judge 102 = .ok (.iload 5, 2) := by decide +kernel
theorem dX12_judge_104 : decode cX12_judge 104 = .ok (.aload_n 0, 1) := by decide +kernel
theorem dX12_judge_105 : decode cX12_judge 105 = .ok (.getfield 166, 3) := by decide +kernel
theorem dX12_judge_108 : decode cX12_judge 108 = .ok (.if_icmp .gt 31, 3) := by decide +kernel
theorem dX12_judge_111 : decode cX12_judge 111 = .ok (.iload 6, 2) := by decide +kernel
theorem dX12_judge_113 : decode cX12_judge 113 = .ok (.iload 5, 2) := by decide +kernel
theorem dX12_judge_115 : decode cX12_judge 115 = .ok (.aload_n 0, 1) := by decide +kernel
theorem dX12_judge_116 : decode cX12_judge 116 = .ok (.getfield 166, 3) := by decide +kernel
theorem dX12_judge_119 : decode cX12_judge 119 = .ok (.if_icmp .ge 13, 3) := by decide +kernel
theorem dX12_judge_122 : decode cX12_judge 122 = .ok (.aload_n 0, 1) := by decide +kernel
theorem dX12_judge_123 : decode cX12_judge 123 = .ok (.getfield 52, 3) := by decide +kernel
theorem dX12_judge_126 : decode cX12_judge 126 = .ok (.iload 5, 2) := by decide +kernel
theorem dX12_judge_128 : decode cX12_judge 128 = .ok (.iaload, 1) := by decide +kernel
theorem dX12_judge_129 : decode cX12_judge 129 = .ok (.goto 7, 3) := by decide +kernel
theorem dX12_judge_132 : decode cX12_judge 132 = .ok (.aload_n 0, 1) := by decide +kernel
theorem dX12_judge_133 : decode cX12_judge 133 = .ok (.getfield 175, 3) := by decide +kernel
theorem dX12_judge_136 : decode cX12_judge 136 = .ok (.if_icmp .eq 6, 3) := by decide +kernel
theorem dX12_judge_139 : decode cX12_judge 139 = .ok (.iload 5, 2) := by decide +kernel
theorem dX12_judge_141 : decode cX12_judge 141 = .ok (.ireturn, 1) := by decide +kernel
theorem dX12_judge_142 : decode cX12_judge 142 = .ok (.iinc 5 1, 3) := by decide +kernel
theorem dX12_judge_145 : decode cX12_judge 145 = .ok (.goto (-81), 3) := by decide +kernel
theorem dX12_judge_148 : decode cX12_judge 148 = .ok (.bipush (-4), 2) := by decide +kernel
theorem dX12_judge_150 : decode cX12_judge 150 = .ok (.ireturn, 1) := by decide +kernel
theorem dX12_image_0 : decode cX12_image 0 = .ok (.iconst 0, 1) := by decide +kernel
theorem dX12_image_1 : decode cX12_image 1 = .ok (.istore_n 1, 1) := by decide +kernel
theorem dX12_image_2 : decode cX12_image 2 = .ok (.iload_n 1, 1) := by decide +kernel
theorem dX12_image_3 : decode cX12_image 3 = .ok (.bipush 47, 2) := by decide +kernel
theorem dX12_image_5 : decode cX12_image 5 = .ok (.if_icmp .ge 21, 3) := by decide +kernel
theorem dX12_image_8 : decode cX12_image 8 = .ok (.aload_n 0, 1) := by decide +kernel
theorem dX12_image_9 : decode cX12_image 9 = .ok (.getfield 13, 3) := by decide +kernel
theorem dX12_image_12 : decode cX12_image 12 = .ok (.iload_n 1, 1) := by decide +kernel
theorem dX12_image_13 : decode cX12_image 13 = .ok (.aload_n 0, 1) := by decide +kernel
theorem dX12_image_14 : decode cX12_image 14 = .ok (.getfield 9, 3) := by decide +kernel
theorem dX12_image_17 : decode cX12_image 17 = .ok (.iload_n 1, 1) := by decide +kernel
theorem dX12_image_18 : decode cX12_image 18 = .ok (.iaload, 1) := by decide +kernel
theorem dX12_image_19 : decode cX12_image 19 = .ok (.iastore, 1) := by decide +kernel
theorem dX12_image_20 : decode cX12_image 20 = .ok (.iinc 1 1, 3) := by decide +kernel
theorem dX12_image_23 : decode cX12_image 23 = .ok (.goto (-21), 3) := by decide +kernel
theorem dX12_image_26 : decode cX12_image 26 = .ok (.aload_n 0, 1) := by decide +kernel
theorem dX12_image_27 : decode cX12_image 27 = .ok (.iconst 1, 1) := by decide +kernel
theorem dX12_image_28 : decode cX12_image 28 = .ok (.putfield 303, 3) := by decide +kernel
theorem dX12_image_31 : decode cX12_image 31 = .ok (.aload_n 0, 1) := by decide +kernel
theorem dX12_image_32 : decode cX12_image 32 = .ok (.getfield 9, 3) := by decide +kernel
theorem dX12_image_35 : decode cX12_image 35 = .ok (.iconst 2, 1) := by decide +kernel
theorem dX12_image_36 : decode cX12_image 36 = .ok (.iaload, 1) := by decide +kernel
theorem dX12_image_37 : decode cX12_image 37 = .ok (.ireturn, 1) := by decide +kernel
theorem dX12_restore_0 : decode cX12_restore 0 = .ok (.aload_n 0, 1) := by decide +kernel
theorem dX12_restore_1 : decode cX12_restore 1 = .ok (.getfield 303, 3) := by decide +kernel
theorem dX12_restore_4 : decode cX12_restore 4 = .ok (.ifCond .ne 6, 3) := by decide +kernel
theorem dX12_restore_7 : decode cX12_restore 7 = .ok (.bipush (-3), 2) := by decide +kernel
theorem dX12_restore_9 : decode cX12_restore 9 = .ok (.ireturn, 1) := by decide +kernel
theorem dX12_restore_10 : decode cX12_restore 10 = .ok (.iconst 0, 1) := by decide +kernel
theorem dX12_restore_11 : decode cX12_restore 11 = .ok (.istore_n 1, 1) := by decide +kernel
theorem dX12_restore_12 : decode cX12_restore 12 = .ok (.iload_n 1, 1) := by decide +kernel
theorem dX12_restore_13 : decode cX12_restore 13 = .ok (.bipush 47, 2) := by decide +kernel
theorem dX12_restore_15 : decode cX12_restore 15 = .ok (.if_icmp .ge 21, 3) := by decide +kernel
theorem dX12_restore_18 : decode cX12_restore 18 = .ok (.aload_n 0, 1) := by decide +kernel
theorem dX12_restore_19 : decode cX12_restore 19 = .ok (.getfield 9, 3) := by decide +kernel
theorem dX12_restore_22 : decode cX12_restore 22 = .ok (.iload_n 1, 1) := by decide +kernel
theorem dX12_restore_23 : decode cX12_restore 23 = .ok (.aload_n 0, 1) := by decide +kernel
theorem dX12_restore_24 : decode cX12_restore 24 = .ok (.getfield 13, 3) := by decide +kernel
theorem dX12_restore_27 : decode cX12_restore 27 = .ok (.iload_n 1, 1) := by decide +kernel
theorem dX12_restore_28 : decode cX12_restore 28 = .ok (.iaload, 1) := by decide +kernel
theorem dX12_restore_29 : decode cX12_restore 29 = .ok (.iastore, 1) := by decide +kernel
theorem dX12_restore_30 : decode cX12_restore 30 = .ok (.iinc 1 1, 3) := by decide +kernel
theorem dX12_restore_33 : decode cX12_restore 33 = .ok (.goto (-21), 3) := by decide +kernel
theorem dX12_restore_36 : decode cX12_restore 36 = .ok (.aload_n 0, 1) := by decide +kernel
theorem dX12_restore_37 : decode cX12_restore 37 = .ok (.getfield 9, 3) := by decide +kernel
theorem dX12_restore_40 : decode cX12_restore 40 = .ok (.iconst 2, 1) := by decide +kernel
theorem dX12_restore_41 : decode cX12_restore 41 = .ok (.iaload, 1) := by decide +kernel
theorem dX12_restore_42 : decode cX12_restore 42 = .ok (.ireturn, 1) := by decide +kernel
theorem dX12_count_0 : decode cX12_count 0 = .ok (.iconst 0, 1) := by decide +kernel
theorem dX12_count_1 : decode cX12_count 1 = .ok (.istore_n 2, 1) := by decide +kernel
theorem dX12_count_2 : decode cX12_count 2 = .ok (.iload_n 1, 1) := by decide +kernel
theorem dX12_count_3 : decode cX12_count 3 = .ok (.ifCond .ne 11, 3) := by decide +kernel
theorem dX12_count_6 : decode cX12_count 6 = .ok (.aload_n 0, 1) := by decide +kernel
theorem dX12_count_7 : decode cX12_count 7 = .ok (.getfield 9, 3) := by decide +kernel
theorem dX12_count_10 : decode cX12_count 10 = .ok (.bipush 6, 2) := by decide +kernel
theorem dX12_count_12 : decode cX12_count 12 = .ok (.iaload, 1) := by decide +kernel
theorem dX12_count_13 : decode cX12_count 13 = .ok (.ireturn, 1) := by decide +kernel
theorem dX12_count_14 : decode cX12_count 14 = .ok (.iload_n 1, 1) := by decide +kernel
theorem dX12_count_15 : decode cX12_count 15 = .ok (.iconst 1, 1) := by decide +kernel
theorem dX12_count_16 : decode cX12_count 16 = .ok (.if_icmp .ne 13, 3) := by decide +kernel
theorem dX12_count_19 : decode cX12_count 19 = .ok (.aload_n 0, 1) := by decide +kernel
theorem dX12_count_20 : decode cX12_count 20 = .ok (.getfield 9, 3) := by decide +kernel
theorem dX12_count_23 : decode cX12_count 23 = .ok (.iconst 0, 1) := by decide +kernel
theorem dX12_count_24 : decode cX12_count 24 = .ok (.iaload, 1) := by decide +kernel
theorem dX12_count_25 : decode cX12_count 25 = .ok (.invokestatic 235, 3) := by decide +kernel
theorem dX12_count_28 : decode cX12_count 28 = .ok (.ireturn, 1) := by decide +kernel
theorem dX12_count_29 : decode cX12_count 29 = .ok (.iload_n 1, 1) := by decide +kernel
theorem dX12_count_30 : decode cX12_count 30 = .ok (.i2l, 1) := by decide +kernel
theorem dX12_count_31 : decode cX12_count 31 = .ok (.ldc2_w 156, 3) := by decide +kernel
theorem dX12_count_34 : decode cX12_count 34 = .ok (.ldc2_w 306, 3) := by decide +kernel
theorem dX12_count_37 : decode cX12_count 37 = .ok (.invokestatic 65, 3) := by decide +kernel
theorem dX12_count_40 : decode cX12_count 40 = .ok (.ifCond .ne 5, 3) := by decide +kernel
theorem dX12_count_43 : decode cX12_count 43 = .ok (.iconst (-1), 1) := by decide +kernel
theorem dX12_count_44 : decode cX12_count 44 = .ok (.ireturn, 1) := by decide +kernel
theorem dX12_count_45 : decode cX12_count 45 = .ok (.iconst 0, 1) := by decide +kernel
theorem dX12_count_46 : decode cX12_count 46 = .ok (.istore_n 3, 1) := by decide +kernel
theorem dX12_count_47 : decode cX12_count 47 = .ok (.iload_n 3, 1) := by decide +kernel
theorem dX12_count_48 : decode cX12_count 48 = .ok (.aload_n 0, 1) := by decide +kernel
theorem dX12_count_49 : decode cX12_count 49 = .ok (.getfield 9, 3) := by decide +kernel
theorem dX12_count_52 : decode cX12_count 52 = .ok (.bipush 6, 2) := by decide +kernel
theorem dX12_count_54 : decode cX12_count 54 = .ok (.iaload, 1) := by decide +kernel
theorem dX12_count_55 : decode cX12_count 55 = .ok (.if_icmp .ge 85, 3) := by decide +kernel
theorem dX12_count_58 : decode cX12_count 58 = .ok (.iload_n 2, 1) := by decide +kernel
theorem dX12_count_59 : decode cX12_count 59 = .ok (.iload_n 1, 1) := by decide +kernel
theorem dX12_count_60 : decode cX12_count 60 = .ok (.iconst 5, 1) := by decide +kernel
theorem dX12_count_61 : decode cX12_count 61 = .ok (.if_icmp .ne 12, 3) := by decide +kernel
theorem dX12_count_64 : decode cX12_count 64 = .ok (.aload_n 0, 1) := by decide +kernel
theorem dX12_count_65 : decode cX12_count 65 = .ok (.iload_n 3, 1) := by decide +kernel
theorem dX12_count_66 : decode cX12_count 66 = .ok (.iconst 3, 1) := by decide +kernel
theorem dX12_count_67 : decode cX12_count 67 = .ok (.invokevirtual 136, 3) := by decide +kernel
theorem dX12_count_70 : decode cX12_count 70 = .ok (.goto 62, 3) := by decide +kernel
theorem dX12_count_73 : decode cX12_count 73 = .ok (.iload_n 1, 1) := by decide +kernel
theorem dX12_count_74 : decode cX12_count 74 = .ok (.iconst 2, 1) := by decide +kernel
theorem dX12_count_75 : decode cX12_count 75 = .ok (.if_icmp .ne 23, 3) := by decide +kernel
theorem dX12_count_78 : decode cX12_count 78 = .ok (.aload_n 0, 1) := by decide +kernel
theorem dX12_count_79 : decode cX12_count 79 = .ok (.iload_n 3, 1) := by decide +kernel
theorem dX12_count_80 : decode cX12_count 80 = .ok (.aload_n 0, 1) := by decide +kernel
theorem dX12_count_81 : decode cX12_count 81 = .ok (.getfield 9, 3) := by decide +kernel
theorem dX12_count_84 : decode cX12_count 84 = .ok (.iconst 0, 1) := by decide +kernel
theorem dX12_count_85 : decode cX12_count 85 = .ok (.iaload, 1) := by decide +kernel
theorem dX12_count_86 : decode cX12_count 86 = .ok (.aload_n 0, 1) := by decide +kernel
theorem dX12_count_87 : decode cX12_count 87 = .ok (.getfield 9, 3) := by decide +kernel
theorem dX12_count_90 : decode cX12_count 90 = .ok (.iconst 1, 1) := by decide +kernel
theorem dX12_count_91 : decode cX12_count 91 = .ok (.iaload, 1) := by decide +kernel
theorem dX12_count_92 : decode cX12_count 92 = .ok (.invokevirtual 162, 3) := by decide +kernel
theorem dX12_count_95 : decode cX12_count 95 = .ok (.ifCond .ne 32, 3) := by decide +kernel
theorem dX12_count_98 : decode cX12_count 98 = .ok (.iload_n 1, 1) := by decide +kernel
theorem dX12_count_99 : decode cX12_count 99 = .ok (.iconst 3, 1) := by decide +kernel
theorem dX12_count_100 : decode cX12_count 100 = .ok (.if_icmp .ne 11, 3) := by decide +kernel
theorem dX12_count_103 : decode cX12_count 103 = .ok (.aload_n 0, 1) := by decide +kernel
theorem dX12_count_104 : decode cX12_count 104 = .ok (.iload_n 3, 1) := by decide +kernel
theorem dX12_count_105 : decode cX12_count 105 = .ok (.invokevirtual 151, 3) := by decide +kernel
theorem dX12_count_108 : decode cX12_count 108 = .ok (.ifCond .ne 19, 3) := by decide +kernel
theorem dX12_count_111 : decode cX12_count 111 = .ok (.iload_n 1, 1) := by decide +kernel
theorem dX12_count_112 : decode cX12_count 112 = .ok (.iconst 4, 1) := by decide +kernel
theorem dX12_count_113 : decode cX12_count 113 = .ok (.if_icmp .ne 18, 3) := by decide +kernel
theorem dX12_count_116 : decode cX12_count 116 = .ok (.aload_n 0, 1) := by decide +kernel
theorem dX12_count_117 : decode cX12_count 117 = .ok (.iload_n 3, 1) := by decide +kernel
theorem dX12_count_118 : decode cX12_count 118 = .ok (.iconst 0, 1) := by decide +kernel
theorem dX12_count_119 : decode cX12_count 119 = .ok (.invokevirtual 136, 3) := by decide +kernel
theorem dX12_count_122 : decode cX12_count 122 = .ok (.bipush 6, 2) := by decide +kernel
theorem dX12_count_124 : decode cX12_count 124 = .ok (.if_icmp .ne 7, 3) := by decide +kernel
theorem dX12_count_127 : decode cX12_count 127 = .ok (.iconst 1, 1) := by decide +kernel
theorem dX12_count_128 : decode cX12_count 128 = .ok (.goto 4, 3) := by decide +kernel
theorem dX12_count_131 : decode cX12_count 131 = .ok (.iconst 0, 1) := by decide +kernel
theorem dX12_count_132 : decode cX12_count 132 = .ok (.iadd, 1) := by decide +kernel
theorem dX12_count_133 : decode cX12_count 133 = .ok (.istore_n 2, 1) := by decide +kernel
theorem dX12_count_134 : decode cX12_count 134 = .ok (.iinc 3 1, 3) := by decide +kernel
theorem dX12_count_137 : decode cX12_count 137 = .ok (.goto (-90), 3) := by decide +kernel
theorem dX12_count_140 : decode cX12_count 140 = .ok (.iload_n 2, 1) := by decide +kernel
theorem dX12_count_141 : decode cX12_count 141 = .ok (.ireturn, 1) := by decide +kernel
theorem dX12_careOf_0 : decode cX12_careOf 0 = .ok (.aload_n 0, 1) := by decide +kernel
theorem dX12_careOf_1 : decode cX12_careOf 1 = .ok (.iload_n 1, 1) := by decide +kernel
theorem dX12_careOf_2 : decode cX12_careOf 2 = .ok (.iconst 4, 1) := by decide +kernel
theorem dX12_careOf_3 : decode cX12_careOf 3 = .ok (.invokevirtual 136, 3) := by decide +kernel
theorem dX12_careOf_6 : decode cX12_careOf 6 = .ok (.istore_n 2, 1) := by decide +kernel
theorem dX12_careOf_7 : decode cX12_careOf 7 = .ok (.aload_n 0, 1) := by decide +kernel
theorem dX12_careOf_8 : decode cX12_careOf 8 = .ok (.iload_n 1, 1) := by decide +kernel
theorem dX12_careOf_9 : decode cX12_careOf 9 = .ok (.iconst 0, 1) := by decide +kernel
theorem dX12_careOf_10 : decode cX12_careOf 10 = .ok (.invokevirtual 136, 3) := by decide +kernel
theorem dX12_careOf_13 : decode cX12_careOf 13 = .ok (.tableswitch 76 1 7 #[43, 46, 55, 66, 68, 71, 74], 43) := by decide +kernel
theorem dX12_careOf_56 : decode cX12_careOf 56 = .ok (.bipush 12, 2) := by decide +kernel
theorem dX12_careOf_58 : decode cX12_careOf 58 = .ok (.ireturn, 1) := by decide +kernel
theorem dX12_careOf_59 : decode cX12_careOf 59 = .ok (.iconst 4, 1) := by decide +kernel
theorem dX12_careOf_60 : decode cX12_careOf 60 = .ok (.aload_n 0, 1) := by decide +kernel
theorem dX12_careOf_61 : decode cX12_careOf 61 = .ok (.iload_n 1, 1) := by decide +kernel
theorem dX12_careOf_62 : decode cX12_careOf 62 = .ok (.iconst 3, 1) := by decide +kernel
theorem dX12_careOf_63 : decode cX12_careOf 63 = .ok (.invokevirtual 136, 3) := by decide +kernel
theorem dX12_careOf_66 : decode cX12_careOf 66 = .ok (.iadd, 1) := by decide +kernel
theorem dX12_careOf_67 : decode cX12_careOf 67 = .ok (.ireturn, 1) := by decide +kernel
theorem dX12_careOf_68 : decode cX12_careOf 68 = .ok (.iconst 4, 1) := by decide +kernel
theorem dX12_careOf_69 : decode cX12_careOf 69 = .ok (.aload_n 0, 1) := by decide +kernel
theorem dX12_careOf_70 : decode cX12_careOf 70 = .ok (.iload_n 1, 1) := by decide +kernel
theorem dX12_careOf_71 : decode cX12_careOf 71 = .ok (.iconst 3, 1) := by decide +kernel
theorem dX12_careOf_72 : decode cX12_careOf 72 = .ok (.invokevirtual 136, 3) := by decide +kernel
theorem dX12_careOf_75 : decode cX12_careOf 75 = .ok (.iadd, 1) := by decide +kernel
theorem dX12_careOf_76 : decode cX12_careOf 76 = .ok (.iload_n 2, 1) := by decide +kernel
theorem dX12_careOf_77 : decode cX12_careOf 77 = .ok (.isub, 1) := by decide +kernel
theorem dX12_careOf_78 : decode cX12_careOf 78 = .ok (.ireturn, 1) := by decide +kernel
theorem dX12_careOf_79 : decode cX12_careOf 79 = .ok (.iconst 1, 1) := by decide +kernel
theorem dX12_careOf_80 : decode cX12_careOf 80 = .ok (.ireturn, 1) := by decide +kernel
theorem dX12_careOf_81 : decode cX12_careOf 81 = .ok (.bipush 13, 2) := by decide +kernel
theorem dX12_careOf_83 : decode cX12_careOf 83 = .ok (.ireturn, 1) := by decide +kernel
theorem dX12_careOf_84 : decode cX12_careOf 84 = .ok (.bipush 8, 2) := by decide +kernel
theorem dX12_careOf_86 : decode cX12_careOf 86 = .ok (.ireturn, 1) := by decide +kernel
theorem dX12_careOf_87 : decode cX12_careOf 87 = .ok (.iload_n 2, 1) := by decide +kernel
theorem dX12_careOf_88 : decode cX12_careOf 88 = .ok (.ireturn, 1) := by decide +kernel
theorem dX12_careOf_89 : decode cX12_careOf 89 = .ok (.iconst 4, 1) := by decide +kernel
theorem dX12_careOf_90 : decode cX12_careOf 90 = .ok (.ireturn, 1) := by decide +kernel
theorem dX12_keep_0 : decode cX12_keep 0 = .ok (.iload_n 1, 1) := by decide +kernel
theorem dX12_keep_1 : decode cX12_keep 1 = .ok (.invokestatic 123, 3) := by decide +kernel
theorem dX12_keep_4 : decode cX12_keep 4 = .ok (.ifCond .eq 26, 3) := by decide +kernel
theorem dX12_keep_7 : decode cX12_keep 7 = .ok (.iload_n 2, 1) := by decide +kernel
theorem dX12_keep_8 : decode cX12_keep 8 = .ok (.i2l, 1) := by decide +kernel
theorem dX12_keep_9 : decode cX12_keep 9 = .ok (.lconst 0, 1) := by decide +kernel
theorem dX12_keep_10 : decode cX12_keep 10 = .ok (.lconst 1, 1) := by decide +kernel
theorem dX12_keep_11 : decode cX12_keep 11 = .ok (.invokestatic 65, 3) := by decide +kernel
theorem dX12_keep_14 : decode cX12_keep 14 = .ok (.ifCond .eq 16, 3) := by decide +kernel
theorem dX12_keep_17 : decode cX12_keep 17 = .ok (.iload_n 2, 1) := by decide +kernel
theorem dX12_keep_18 : decode cX12_keep 18 = .ok (.iconst 1, 1) := by decide +kernel
theorem dX12_keep_19 : decode cX12_keep 19 = .ok (.if_icmp .ne 13, 3) := by decide +kernel
theorem dX12_keep_22 : decode cX12_keep 22 = .ok (.aload_n 0, 1) := by decide +kernel
theorem dX12_keep_23 : decode cX12_keep 23 = .ok (.iload_n 3, 1) := by decide +kernel
theorem dX12_keep_24 : decode cX12_keep 24 = .ok (.invokevirtual 143, 3) := by decide +kernel
theorem dX12_keep_27 : decode cX12_keep 27 = .ok (.ifCond .ne 5, 3) := by decide +kernel
theorem dX12_keep_30 : decode cX12_keep 30 = .ok (.iconst (-1), 1) := by decide +kernel
theorem dX12_keep_31 : decode cX12_keep 31 = .ok (.ireturn, 1) := by decide +kernel
theorem dX12_keep_32 : decode cX12_keep 32 = .ok (.aload_n 0, 1) := by decide +kernel
theorem dX12_keep_33 : decode cX12_keep 33 = .ok (.getfield 19, 3) := by decide +kernel
theorem dX12_keep_36 : decode cX12_keep 36 = .ok (.iload_n 1, 1) := by decide +kernel
theorem dX12_keep_37 : decode cX12_keep 37 = .ok (.iload_n 2, 1) := by decide +kernel
theorem dX12_keep_38 : decode cX12_keep 38 = .ok (.iastore, 1) := by decide +kernel
theorem dX12_keep_39 : decode cX12_keep 39 = .ok (.iload_n 2, 1) := by decide +kernel
theorem dX12_keep_40 : decode cX12_keep 40 = .ok (.ifCond .ne 5, 3) := by decide +kernel
theorem dX12_keep_43 : decode cX12_keep 43 = .ok (.iconst 0, 1) := by decide +kernel
theorem dX12_keep_44 : decode cX12_keep 44 = .ok (.ireturn, 1) := by decide +kernel
theorem dX12_keep_45 : decode cX12_keep 45 = .ok (.aload_n 0, 1) := by decide +kernel
theorem dX12_keep_46 : decode cX12_keep 46 = .ok (.iload_n 3, 1) := by decide +kernel
theorem dX12_keep_47 : decode cX12_keep 47 = .ok (.iconst 0, 1) := by decide +kernel
theorem dX12_keep_48 : decode cX12_keep 48 = .ok (.invokevirtual 136, 3) := by decide +kernel
theorem dX12_keep_51 : decode cX12_keep 51 = .ok (.istore 4, 2) := by decide +kernel
theorem dX12_keep_53 : decode cX12_keep 53 = .ok (.aload_n 0, 1) := by decide +kernel
theorem dX12_keep_54 : decode cX12_keep 54 = .ok (.getfield 31, 3) := by decide +kernel
theorem dX12_keep_57 : decode cX12_keep 57 = .ok (.iload_n 1, 1) := by decide +kernel
theorem dX12_keep_58 : decode cX12_keep 58 = .ok (.aload_n 0, 1) := by decide +kernel
theorem dX12_keep_59 : decode cX12_keep 59 = .ok (.iload_n 3, 1) := by decide +kernel
theorem dX12_keep_60 : decode cX12_keep 60 = .ok (.invokevirtual 308, 3) := by decide +kernel
theorem dX12_keep_63 : decode cX12_keep 63 = .ok (.iastore, 1) := by decide +kernel
theorem dX12_keep_64 : decode cX12_keep 64 = .ok (.aload_n 0, 1) := by decide +kernel
theorem dX12_keep_65 : decode cX12_keep 65 = .ok (.getfield 34, 3) := by decide +kernel
theorem dX12_keep_68 : decode cX12_keep 68 = .ok (.iload_n 1, 1) := by decide +kernel
theorem dX12_keep_69 : decode cX12_keep 69 = .ok (.iload 4, 2) := by decide +kernel
theorem dX12_keep_71 : decode cX12_keep 71 = .ok (.iconst 3, 1) := by decide +kernel
theorem dX12_keep_72 : decode cX12_keep 72 = .ok (.if_icmp .eq 12, 3) := by decide +kernel
theorem dX12_keep_75 : decode cX12_keep 75 = .ok (.aload_n 0, 1) := by decide +kernel
theorem dX12_keep_76 : decode cX12_keep 76 = .ok (.iload_n 3, 1) := by decide +kernel
theorem dX12_keep_77 : decode cX12_keep 77 = .ok (.iconst 4, 1) := by decide +kernel
theorem dX12_keep_78 : decode cX12_keep 78 = .ok (.invokevirtual 136, 3) := by decide +kernel
theorem dX12_keep_81 : decode cX12_keep 81 = .ok (.ifCond .ne 8, 3) := by decide +kernel
theorem dX12_keep_84 : decode cX12_keep 84 = .ok (.bipush (-15), 2) := by decide +kernel
theorem dX12_keep_86 : decode cX12_keep 86 = .ok (.goto 36, 3) := by decide +kernel
theorem dX12_keep_89 : decode cX12_keep 89 = .ok (.iload 4, 2) := by decide +kernel
theorem dX12_keep_91 : decode cX12_keep 91 = .ok (.iconst 5, 1) := by decide +kernel
theorem dX12_keep_92 : decode cX12_keep 92 = .ok (.if_icmp .ne 10, 3) := by decide +kernel
theorem dX12_keep_95 : decode cX12_keep 95 = .ok (.bipush 100, 2) := by decide +kernel
theorem dX12_keep_97 : decode cX12_keep 97 = .ok (.iload_n 3, 1) := by decide +kernel
theorem dX12_keep_98 : decode cX12_keep 98 = .ok (.iadd, 1) := by decide +kernel
theorem dX12_keep_99 : decode cX12_keep 99 = .ok (.goto 23, 3) := by decide +kernel
theorem dX12_keep_102 : decode cX12_keep 102 = .ok (.iload 4, 2) := by decide +kernel
theorem dX12_keep_104 : decode cX12_keep 104 = .ok (.bipush 7, 2) := by decide +kernel
theorem dX12_keep_106 : decode cX12_keep 106 = .ok (.if_icmp .ne 15, 3) := by decide +kernel
theorem dX12_keep_109 : decode cX12_keep 109 = .ok (.sipush 200, 3) := by decide +kernel
theorem dX12_keep_112 : decode cX12_keep 112 = .ok (.aload_n 0, 1) := by decide +kernel
theorem dX12_keep_113 : decode cX12_keep 113 = .ok (.iload_n 3, 1) := by decide +kernel
theorem dX12_keep_114 : decode cX12_keep 114 = .ok (.invokevirtual 308, 3) := by decide +kernel
theorem dX12_keep_117 : decode cX12_keep 117 = .ok (.iadd, 1) := by decide +kernel
theorem dX12_keep_118 : decode cX12_keep 118 = .ok (.goto 4, 3) := by decide +kernel
theorem dX12_keep_121 : decode cX12_keep 121 = .ok (.iload_n 3, 1) := by decide +kernel
theorem dX12_keep_122 : decode cX12_keep 122 = .ok (.iastore, 1) := by decide +kernel
theorem dX12_keep_123 : decode cX12_keep 123 = .ok (.iconst 0, 1) := by decide +kernel
theorem dX12_keep_124 : decode cX12_keep 124 = .ok (.ireturn, 1) := by decide +kernel
theorem dX12_row_0 : decode cX12_row 0 = .ok (.iload_n 1, 1) := by decide +kernel
theorem dX12_row_1 : decode cX12_row 1 = .ok (.invokestatic 123, 3) := by decide +kernel
theorem dX12_row_4 : decode cX12_row 4 = .ok (.ifCond .eq 21, 3) := by decide +kernel
theorem dX12_row_7 : decode cX12_row 7 = .ok (.iload_n 2, 1) := by decide +kernel
theorem dX12_row_8 : decode cX12_row 8 = .ok (.i2l, 1) := by decide +kernel
theorem dX12_row_9 : decode cX12_row 9 = .ok (.lconst 0, 1) := by decide +kernel
theorem dX12_row_10 : decode cX12_row 10 = .ok (.ldc2_w 156, 3) := by decide +kernel
theorem dX12_row_13 : decode cX12_row 13 = .ok (.invokestatic 65, 3) := by decide +kernel
theorem dX12_row_16 : decode cX12_row 16 = .ok (.ifCond .eq 9, 3) := by decide +kernel
theorem dX12_row_19 : decode cX12_row 19 = .ok (.iload_n 3, 1) := by decide +kernel
theorem dX12_row_20 : decode cX12_row 20 = .ok (.bipush 100, 2) := by decide +kernel
theorem dX12_row_22 : decode cX12_row 22 = .ok (.if_icmp .le 5, 3) := by decide +kernel
theorem dX12_row_25 : decode cX12_row 25 = .ok (.iconst (-1), 1) := by decide +kernel
theorem dX12_row_26 : decode cX12_row 26 = .ok (.ireturn, 1) := by decide +kernel
theorem dX12_row_27 : decode cX12_row 27 = .ok (.iload_n 3, 1) := by decide +kernel
theorem dX12_row_28 : decode cX12_row 28 = .ok (.ifCond .ge 6, 3) := by decide +kernel
theorem dX12_row_31 : decode cX12_row 31 = .ok (.bipush (-14), 2) := by decide +kernel
theorem dX12_row_33 : decode cX12_row 33 = .ok (.ireturn, 1) := by decide +kernel
theorem dX12_row_34 : decode cX12_row 34 = .ok (.aload_n 0, 1) := by decide +kernel
theorem dX12_row_35 : decode cX12_row 35 = .ok (.getfield 19, 3) := by decide +kernel
theorem dX12_row_38 : decode cX12_row 38 = .ok (.iload_n 1, 1) := by decide +kernel
theorem dX12_row_39 : decode cX12_row 39 = .ok (.iconst 2, 1) := by decide +kernel
theorem dX12_row_40 : decode cX12_row 40 = .ok (.iastore, 1) := by decide +kernel
theorem dX12_row_41 : decode cX12_row 41 = .ok (.aload_n 0, 1) := by decide +kernel
theorem dX12_row_42 : decode cX12_row 42 = .ok (.getfield 22, 3) := by decide +kernel
theorem dX12_row_45 : decode cX12_row 45 = .ok (.iload_n 1, 1) := by decide +kernel
theorem dX12_row_46 : decode cX12_row 46 = .ok (.iload_n 2, 1) := by decide +kernel
theorem dX12_row_47 : decode cX12_row 47 = .ok (.iastore, 1) := by decide +kernel
theorem dX12_row_48 : decode cX12_row 48 = .ok (.aload_n 0, 1) := by decide +kernel
theorem dX12_row_49 : decode cX12_row 49 = .ok (.getfield 25, 3) := by decide +kernel
theorem dX12_row_52 : decode cX12_row 52 = .ok (.iload_n 1, 1) := by decide +kernel
theorem dX12_row_53 : decode cX12_row 53 = .ok (.iload_n 3, 1) := by decide +kernel
theorem dX12_row_54 : decode cX12_row 54 = .ok (.iastore, 1) := by decide +kernel
theorem dX12_row_55 : decode cX12_row 55 = .ok (.iconst 0, 1) := by decide +kernel
theorem dX12_row_56 : decode cX12_row 56 = .ok (.istore 4, 2) := by decide +kernel
theorem dX12_row_58 : decode cX12_row 58 = .ok (.iload 4, 2) := by decide +kernel
theorem dX12_row_60 : decode cX12_row 60 = .ok (.bipush 100, 2) := by decide +kernel
theorem dX12_row_62 : decode cX12_row 62 = .ok (.if_icmp .ge 22, 3) := by decide +kernel
theorem dX12_row_65 : decode cX12_row 65 = .ok (.aload_n 0, 1) := by decide +kernel
theorem dX12_row_66 : decode cX12_row 66 = .ok (.getfield 28, 3) := by decide +kernel
theorem dX12_row_69 : decode cX12_row 69 = .ok (.bipush 100, 2) := by decide +kernel
theorem dX12_row_71 : decode cX12_row 71 = .ok (.iload_n 1, 1) := by decide +kernel
theorem dX12_row_72 : decode cX12_row 72 = .ok (.imul, 1) := by decide +kernel
theorem dX12_row_73 : decode cX12_row 73 = .ok (.iload 4, 2) := by decide +kernel
theorem dX12_row_75 : decode cX12_row 75 = .ok (.iadd, 1) := by decide +kernel
theorem dX12_row_76 : decode cX12_row 76 = .ok (.iconst 0, 1) := by decide +kernel
theorem dX12_row_77 : decode cX12_row 77 = .ok (.iastore, 1) := by decide +kernel
theorem dX12_row_78 : decode cX12_row 78 = .ok (.iinc 4 1, 3) := by decide +kernel
theorem dX12_row_81 : decode cX12_row 81 = .ok (.goto (-23), 3) := by decide +kernel
theorem dX12_row_84 : decode cX12_row 84 = .ok (.iconst 0, 1) := by decide +kernel
theorem dX12_row_85 : decode cX12_row 85 = .ok (.ireturn, 1) := by decide +kernel
theorem dX12_put_0 : decode cX12_put 0 = .ok (.aload_n 0, 1) := by decide +kernel
theorem dX12_put_1 : decode cX12_put 1 = .ok (.iload_n 1, 1) := by decide +kernel
theorem dX12_put_2 : decode cX12_put 2 = .ok (.iconst (-1), 1) := by decide +kernel
theorem dX12_put_3 : decode cX12_put 3 = .ok (.invokevirtual 126, 3) := by decide +kernel
theorem dX12_put_6 : decode cX12_put 6 = .ok (.istore 4, 2) := by decide +kernel
theorem dX12_put_8 : decode cX12_put 8 = .ok (.iload 4, 2) := by decide +kernel
theorem dX12_put_10 : decode cX12_put 10 = .ok (.ifCond .eq 6, 3) := by decide +kernel
theorem dX12_put_13 : decode cX12_put 13 = .ok (.iload 4, 2) := by decide +kernel
theorem dX12_put_15 : decode cX12_put 15 = .ok (.ireturn, 1) := by decide +kernel
theorem dX12_put_16 : decode cX12_put 16 = .ok (.iload_n 2, 1) := by decide +kernel
theorem dX12_put_17 : decode cX12_put 17 = .ok (.i2l, 1) := by decide +kernel
theorem dX12_put_18 : decode cX12_put 18 = .ok (.lconst 0, 1) := by decide +kernel
theorem dX12_put_19 : decode cX12_put 19 = .ok (.aload_n 0, 1) := by decide +kernel
theorem dX12_put_20 : decode cX12_put 20 = .ok (.getfield 25, 3) := by decide +kernel
theorem dX12_put_23 : decode cX12_put 23 = .ok (.iload_n 1, 1) := by decide +kernel
theorem dX12_put_24 : decode cX12_put 24 = .ok (.iaload, 1) := by decide +kernel
theorem dX12_put_25 : decode cX12_put 25 = .ok (.iconst 1, 1) := by decide +kernel
theorem dX12_put_26 : decode cX12_put 26 = .ok (.isub, 1) := by decide +kernel
theorem dX12_put_27 : decode cX12_put 27 = .ok (.i2l, 1) := by decide +kernel
theorem dX12_put_28 : decode cX12_put 28 = .ok (.invokestatic 65, 3) := by decide +kernel
theorem dX12_put_31 : decode cX12_put 31 = .ok (.ifCond .ne 6, 3) := by decide +kernel
theorem dX12_put_34 : decode cX12_put 34 = .ok (.bipush (-13), 2) := by decide +kernel
theorem dX12_put_36 : decode cX12_put 36 = .ok (.ireturn, 1) := by decide +kernel
theorem dX12_put_37 : decode cX12_put 37 = .ok (.aload_n 0, 1) := by decide +kernel
theorem dX12_put_38 : decode cX12_put 38 = .ok (.getfield 28, 3) := by decide +kernel
theorem dX12_put_41 : decode cX12_put 41 = .ok (.bipush 100, 2) := by decide +kernel
theorem dX12_put_43 : decode cX12_put 43 = .ok (.iload_n 1, 1) := by decide +kernel
theorem dX12_put_44 : decode cX12_put 44 = .ok (.imul, 1) := by decide +kernel
theorem dX12_put_45 : decode cX12_put 45 = .ok (.iload_n 2, 1) := by decide +kernel
theorem dX12_put_46 : decode cX12_put 46 = .ok (.iadd, 1) := by decide +kernel
theorem dX12_put_47 : decode cX12_put 47 = .ok (.aload_n 0, 1) := by decide +kernel
theorem dX12_put_48 : decode cX12_put 48 = .ok (.getfield 22, 3) := by decide +kernel
theorem dX12_put_51 : decode cX12_put 51 = .ok (.iload_n 1, 1) := by decide +kernel
theorem dX12_put_52 : decode cX12_put 52 = .ok (.iaload, 1) := by decide +kernel
theorem dX12_put_53 : decode cX12_put 53 = .ok (.ifCond .ne 8, 3) := by decide +kernel
theorem dX12_put_56 : decode cX12_put 56 = .ok (.iload_n 3, 1) := by decide +kernel
theorem dX12_put_57 : decode cX12_put 57 = .ok (.i2b, 1) := by decide +kernel
theorem dX12_put_58 : decode cX12_put 58 = .ok (.goto 19, 3) := by decide +kernel
theorem dX12_put_61 : decode cX12_put 61 = .ok (.aload_n 0, 1) := by decide +kernel
theorem dX12_put_62 : decode cX12_put 62 = .ok (.getfield 22, 3) := by decide +kernel
theorem dX12_put_65 : decode cX12_put 65 = .ok (.iload_n 1, 1) := by decide +kernel
theorem dX12_put_66 : decode cX12_put 66 = .ok (.iaload, 1) := by decide +kernel
theorem dX12_put_67 : decode cX12_put 67 = .ok (.iconst 1, 1) := by decide +kernel
theorem dX12_put_68 : decode cX12_put 68 = .ok (.if_icmp .ne 8, 3) := by decide +kernel
theorem dX12_put_71 : decode cX12_put 71 = .ok (.iload_n 3, 1) := by decide +kernel
theorem dX12_put_72 : decode cX12_put 72 = .ok (.i2s, 1) := by decide +kernel
theorem dX12_put_73 : decode cX12_put 73 = .ok (.goto 4, 3) := by decide +kernel
theorem dX12_put_76 : decode cX12_put 76 = .ok (.iload_n 3, 1) := by decide +kernel
theorem dX12_put_77 : decode cX12_put 77 = .ok (.iastore, 1) := by decide +kernel
theorem dX12_put_78 : decode cX12_put 78 = .ok (.iconst 0, 1) := by decide +kernel
theorem dX12_put_79 : decode cX12_put 79 = .ok (.ireturn, 1) := by decide +kernel
theorem dX12_element_0 : decode cX12_element 0 = .ok (.aload_n 0, 1) := by decide +kernel
theorem dX12_element_1 : decode cX12_element 1 = .ok (.iload_n 1, 1) := by decide +kernel
theorem dX12_element_2 : decode cX12_element 2 = .ok (.invokestatic 123, 3) := by decide +kernel
theorem dX12_element_5 : decode cX12_element 5 = .ok (.ifCond .ne 7, 3) := by decide +kernel
theorem dX12_element_8 : decode cX12_element 8 = .ok (.iconst 1, 1) := by decide +kernel
theorem dX12_element_9 : decode cX12_element 9 = .ok (.goto 36, 3) := by decide +kernel
theorem dX12_element_12 : decode cX12_element 12 = .ok (.aload_n 0, 1) := by decide +kernel
theorem dX12_element_13 : decode cX12_element 13 = .ok (.getfield 19, 3) := by decide +kernel
theorem dX12_element_16 : decode cX12_element 16 = .ok (.iload_n 1, 1) := by decide +kernel
theorem dX12_element_17 : decode cX12_element 17 = .ok (.iaload, 1) := by decide +kernel
theorem dX12_element_18 : decode cX12_element 18 = .ok (.iconst 2, 1) := by decide +kernel
theorem dX12_element_19 : decode cX12_element 19 = .ok (.if_icmp .ne 21, 3) := by decide +kernel
theorem dX12_element_22 : decode cX12_element 22 = .ok (.iload_n 2, 1) := by decide +kernel
theorem dX12_element_23 : decode cX12_element 23 = .ok (.i2l, 1) := by decide +kernel
theorem dX12_element_24 : decode cX12_element 24 = .ok (.lconst 0, 1) := by decide +kernel
theorem dX12_element_25 : decode cX12_element 25 = .ok (.aload_n 0, 1) := by decide +kernel
theorem dX12_element_26 : decode cX12_element 26 = .ok (.getfield 25, 3) := by decide +kernel
theorem dX12_element_29 : decode cX12_element 29 = .ok (.iload_n 1, 1) := by decide +kernel
theorem dX12_element_30 : decode cX12_element 30 = .ok (.iaload, 1) := by decide +kernel
theorem dX12_element_31 : decode cX12_element 31 = .ok (.iconst 1, 1) := by decide +kernel
theorem dX12_element_32 : decode cX12_element 32 = .ok (.isub, 1) := by decide +kernel
theorem dX12_element_33 : decode cX12_element 33 = .ok (.i2l, 1) := by decide +kernel
theorem dX12_element_34 : decode cX12_element 34 = .ok (.invokestatic 65, 3) := by decide +kernel
theorem dX12_element_37 : decode cX12_element 37 = .ok (.ifCond .ne 7, 3) := by decide +kernel
theorem dX12_element_40 : decode cX12_element 40 = .ok (.iconst 2, 1) := by decide +kernel
theorem dX12_element_41 : decode cX12_element 41 = .ok (.goto 4, 3) := by decide +kernel
theorem dX12_element_44 : decode cX12_element 44 = .ok (.iconst 0, 1) := by decide +kernel
theorem dX12_element_45 : decode cX12_element 45 = .ok (.putfield 61, 3) := by decide +kernel
theorem dX12_element_48 : decode cX12_element 48 = .ok (.aload_n 0, 1) := by decide +kernel
theorem dX12_element_49 : decode cX12_element 49 = .ok (.getfield 61, 3) := by decide +kernel
theorem dX12_element_52 : decode cX12_element 52 = .ok (.ifCond .ne 18, 3) := by decide +kernel
theorem dX12_element_55 : decode cX12_element 55 = .ok (.aload_n 0, 1) := by decide +kernel
theorem dX12_element_56 : decode cX12_element 56 = .ok (.getfield 28, 3) := by decide +kernel
theorem dX12_element_59 : decode cX12_element 59 = .ok (.bipush 100, 2) := by decide +kernel
theorem dX12_element_61 : decode cX12_element 61 = .ok (.iload_n 1, 1) := by decide +kernel
theorem dX12_element_62 : decode cX12_element 62 = .ok (.imul, 1) := by decide +kernel
theorem dX12_element_63 : decode cX12_element 63 = .ok (.iload_n 2, 1) := by decide +kernel
theorem dX12_element_64 : decode cX12_element 64 = .ok (.iadd, 1) := by decide +kernel
theorem dX12_element_65 : decode cX12_element 65 = .ok (.iaload, 1) := by decide +kernel
theorem dX12_element_66 : decode cX12_element 66 = .ok (.i2l, 1) := by decide +kernel
theorem dX12_element_67 : decode cX12_element 67 = .ok (.goto 4, 3) := by decide +kernel
theorem dX12_element_70 : decode cX12_element 70 = .ok (.lconst 0, 1) := by decide +kernel
theorem dX12_element_71 : decode cX12_element 71 = .ok (.lreturn, 1) := by decide +kernel
theorem dX12_copy_0 : decode cX12_copy 0 = .ok (.iload_n 1, 1) := by decide +kernel
theorem dX12_copy_1 : decode cX12_copy 1 = .ok (.invokestatic 123, 3) := by decide +kernel
theorem dX12_copy_4 : decode cX12_copy 4 = .ok (.ifCond .eq 10, 3) := by decide +kernel
theorem dX12_copy_7 : decode cX12_copy 7 = .ok (.iload_n 3, 1) := by decide +kernel
theorem dX12_copy_8 : decode cX12_copy 8 = .ok (.invokestatic 123, 3) := by decide +kernel
theorem dX12_copy_11 : decode cX12_copy 11 = .ok (.ifCond .ne 5, 3) := by decide +kernel
theorem dX12_copy_14 : decode cX12_copy 14 = .ok (.iconst (-1), 1) := by decide +kernel
theorem dX12_copy_15 : decode cX12_copy 15 = .ok (.ireturn, 1) := by decide +kernel
theorem dX12_copy_16 : decode cX12_copy 16 = .ok (.aload_n 0, 1) := by decide +kernel
theorem dX12_copy_17 : decode cX12_copy 17 = .ok (.getfield 19, 3) := by decide +kernel
theorem dX12_copy_20 : decode cX12_copy 20 = .ok (.iload_n 1, 1) := by decide +kernel
theorem dX12_copy_21 : decode cX12_copy 21 = .ok (.iaload, 1) := by decide +kernel
theorem dX12_copy_22 : decode cX12_copy 22 = .ok (.ifCond .eq 12, 3) := by decide +kernel
theorem dX12_copy_25 : decode cX12_copy 25 = .ok (.aload_n 0, 1) := by decide +kernel
theorem dX12_copy_26 : decode cX12_copy 26 = .ok (.getfield 19, 3) := by decide +kernel
theorem dX12_copy_29 : decode cX12_copy 29 = .ok (.iload_n 3, 1) := by decide +kernel
theorem dX12_copy_30 : decode cX12_copy 30 = .ok (.iaload, 1) := by decide +kernel
theorem dX12_copy_31 : decode cX12_copy 31 = .ok (.ifCond .ne 6, 3) := by decide +kernel
theorem dX12_copy_34 : decode cX12_copy 34 = .ok (.bipush (-11), 2) := by decide +kernel
theorem dX12_copy_36 : decode cX12_copy 36 = .ok (.ireturn, 1) := by decide +kernel
theorem dX12_copy_37 : decode cX12_copy 37 = .ok (.aload_n 0, 1) := by decide +kernel
theorem dX12_copy_38 : decode cX12_copy 38 = .ok (.getfield 19, 3) := by decide +kernel
theorem dX12_copy_41 : decode cX12_copy 41 = .ok (.iload_n 1, 1) := by decide +kernel
theorem dX12_copy_42 : decode cX12_copy 42 = .ok (.iaload, 1) := by decide +kernel
theorem dX12_copy_43 : decode cX12_copy 43 = .ok (.iconst 2, 1) := by decide +kernel
theorem dX12_copy_44 : decode cX12_copy 44 = .ok (.if_icmp .ne 28, 3) := by decide +kernel
theorem dX12_copy_47 : decode cX12_copy 47 = .ok (.aload_n 0, 1) := by decide +kernel
theorem dX12_copy_48 : decode cX12_copy 48 = .ok (.getfield 19, 3) := by decide +kernel
theorem dX12_copy_51 : decode cX12_copy 51 = .ok (.iload_n 3, 1) := by decide +kernel
theorem dX12_copy_52 : decode cX12_copy 52 = .ok (.iaload, 1) := by decide +kernel
theorem dX12_copy_53 : decode cX12_copy 53 = .ok (.iconst 2, 1) := by decide +kernel
theorem dX12_copy_54 : decode cX12_copy 54 = .ok (.if_icmp .ne 18, 3) := by decide +kernel
theorem dX12_copy_57 : decode cX12_copy 57 = .ok (.aload_n 0, 1) := by decide +kernel
theorem dX12_copy_58 : decode cX12_copy 58 = .ok (.getfield 22, 3) := by decide +kernel
theorem dX12_copy_61 : decode cX12_copy 61 = .ok (.iload_n 1, 1) := by decide +kernel
theorem dX12_copy_62 : decode cX12_copy 62 = .ok (.iaload, 1) := by decide +kernel
theorem dX12_copy_63 : decode cX12_copy 63 = .ok (.aload_n 0, 1) := by decide +kernel
theorem dX12_copy_64 : decode cX12_copy 64 = .ok (.getfield 22, 3) := by decide +kernel
theorem dX12_copy_67 : decode cX12_copy 67 = .ok (.iload_n 3, 1) := by decide +kernel
theorem dX12_copy_68 : decode cX12_copy 68 = .ok (.iaload, 1) := by decide +kernel
theorem dX12_copy_69 : decode cX12_copy 69 = .ok (.if_icmp .eq 6, 3) := by decide +kernel
theorem dX12_copy_72 : decode cX12_copy 72 = .ok (.bipush (-12), 2) := by decide +kernel
theorem dX12_copy_74 : decode cX12_copy 74 = .ok (.ireturn, 1) := by decide +kernel
theorem dX12_copy_75 : decode cX12_copy 75 = .ok (.iload 5, 2) := by decide +kernel
theorem dX12_copy_77 : decode cX12_copy 77 = .ok (.ifCond .lt 39, 3) := by decide +kernel
theorem dX12_copy_80 : decode cX12_copy 80 = .ok (.iload_n 2, 1) := by decide +kernel
theorem dX12_copy_81 : decode cX12_copy 81 = .ok (.ifCond .lt 35, 3) := by decide +kernel
theorem dX12_copy_84 : decode cX12_copy 84 = .ok (.iload 4, 2) := by decide +kernel
theorem dX12_copy_86 : decode cX12_copy 86 = .ok (.ifCond .lt 30, 3) := by decide +kernel
theorem dX12_copy_89 : decode cX12_copy 89 = .ok (.iload 5, 2) := by decide +kernel
theorem dX12_copy_91 : decode cX12_copy 91 = .ok (.aload_n 0, 1) := by decide +kernel
theorem dX12_copy_92 : decode cX12_copy 92 = .ok (.getfield 25, 3) := by decide +kernel
theorem dX12_copy_95 : decode cX12_copy 95 = .ok (.iload_n 1, 1) := by decide +kernel
theorem dX12_copy_96 : decode cX12_copy 96 = .ok (.iaload, 1) := by decide +kernel
theorem dX12_copy_97 : decode cX12_copy 97 = .ok (.iload_n 2, 1) := by decide +kernel
theorem dX12_copy_98 : decode cX12_copy 98 = .ok (.isub, 1) := by decide +kernel
theorem dX12_copy_99 : decode cX12_copy 99 = .ok (.if_icmp .gt 17, 3) := by decide +kernel
theorem dX12_copy_102 : decode cX12_copy 102 = .ok (.iload 5, 2) := by decide +kernel
theorem dX12_copy_104 : decode cX12_copy 104 = .ok (.aload_n 0, 1) := by decide +kernel
theorem dX12_copy_105 : decode cX12_copy 105 = .ok (.getfield 25, 3) := by decide +kernel
theorem dX12_copy_108 : decode cX12_copy 108 = .ok (.iload_n 3, 1) := by decide +kernel
theorem dX12_copy_109 : decode cX12_copy 109 = .ok (.iaload, 1) := by decide +kernel
theorem dX12_copy_110 : decode cX12_copy 110 = .ok (.iload 4, 2) := by decide +kernel
theorem dX12_copy_112 : decode cX12_copy 112 = .ok (.isub, 1) := by decide +kernel
theorem dX12_copy_113 : decode cX12_copy 113 = .ok (.if_icmp .le 6, 3) := by decide +kernel
theorem dX12_copy_116 : decode cX12_copy 116 = .ok (.bipush (-13), 2) := by decide +kernel
theorem dX12_copy_118 : decode cX12_copy 118 = .ok (.ireturn, 1) := by decide +kernel
theorem dX12_copy_119 : decode cX12_copy 119 = .ok (.iconst 0, 1) := by decide +kernel
theorem dX12_copy_120 : decode cX12_copy 120 = .ok (.istore 6, 2) := by decide +kernel
theorem dX12_copy_122 : decode cX12_copy 122 = .ok (.iload 6, 2) := by decide +kernel
theorem dX12_copy_124 : decode cX12_copy 124 = .ok (.iload 5, 2) := by decide +kernel
theorem dX12_copy_126 : decode cX12_copy 126 = .ok (.if_icmp .ge 58, 3) := by decide +kernel
theorem dX12_copy_129 : decode cX12_copy 129 = .ok (.iload_n 2, 1) := by decide +kernel
theorem dX12_copy_130 : decode cX12_copy 130 = .ok (.iload 4, 2) := by decide +kernel
theorem dX12_copy_132 : decode cX12_copy 132 = .ok (.if_icmp .le 8, 3) := by decide +kernel
theorem dX12_copy_135 : decode cX12_copy 135 = .ok (.iload 6, 2) := by decide +kernel
theorem dX12_copy_137 : decode cX12_copy 137 = .ok (.goto 10, 3) := by decide +kernel
theorem dX12_copy_140 : decode cX12_copy 140 = .ok (.iload 5, 2) := by decide +kernel
theorem dX12_copy_142 : decode cX12_copy 142 = .ok (.iconst 1, 1) := by decide +kernel
theorem dX12_copy_143 : decode cX12_copy 143 = .ok (.isub, 1) := by decide +kernel
theorem dX12_copy_144 : decode cX12_copy 144 = .ok (.iload 6, 2) := by decide +kernel
theorem dX12_copy_146 : decode cX12_copy 146 = .ok (.isub, 1) := by decide +kernel
theorem dX12_copy_147 : decode cX12_copy 147 = .ok (.istore 7, 2) := by decide +kernel
theorem dX12_copy_149 : decode cX12_copy 149 = .ok (.aload_n 0, 1) := by decide +kernel
theorem dX12_copy_150 : decode cX12_copy 150 = .ok (.getfield 28, 3) := by decide +kernel
theorem dX12_copy_153 : decode cX12_copy 153 = .ok (.bipush 100, 2) := by decide +kernel
theorem dX12_copy_155 : decode cX12_copy 155 = .ok (.iload_n 3, 1) := by decide +kernel
theorem dX12_copy_156 : decode cX12_copy 156 = .ok (.imul, 1) := by decide +kernel
theorem dX12_copy_157 : decode cX12_copy 157 = .ok (.iload 4, 2) := by decide +kernel
theorem dX12_copy_159 : decode cX12_copy 159 = .ok (.iadd, 1) := by decide +kernel
theorem dX12_copy_160 : decode cX12_copy 160 = .ok (.iload 7, 2) := by decide +kernel
theorem dX12_copy_162 : decode cX12_copy 162 = .ok (.iadd, 1) := by decide +kernel
theorem dX12_copy_163 : decode cX12_copy 163 = .ok (.aload_n 0, 1) := by decide +kernel
theorem dX12_copy_164 : decode cX12_copy 164 = .ok (.getfield 28, 3) := by decide +kernel
theorem dX12_copy_167 : decode cX12_copy 167 = .ok (.bipush 100, 2) := by decide +kernel
theorem dX12_copy_169 : decode cX12_copy 169 = .ok (.iload_n 1, 1) := by decide +kernel
theorem dX12_copy_170 : decode cX12_copy 170 = .ok (.imul, 1) := by decide +kernel
theorem dX12_copy_171 : decode cX12_copy 171 = .ok (.iload_n 2, 1) := by decide +kernel
theorem dX12_copy_172 : decode cX12_copy 172 = .ok (.iadd, 1) := by decide +kernel
theorem dX12_copy_173 : decode cX12_copy 173 = .ok (.iload 7, 2) := by decide +kernel
theorem dX12_copy_175 : decode cX12_copy 175 = .ok (.iadd, 1) := by decide +kernel
theorem dX12_copy_176 : decode cX12_copy 176 = .ok (.iaload, 1) := by decide +kernel
theorem dX12_copy_177 : decode cX12_copy 177 = .ok (.iastore, 1) := by decide +kernel
theorem dX12_copy_178 : decode cX12_copy 178 = .ok (.iinc 6 1, 3) := by decide +kernel
theorem dX12_copy_181 : decode cX12_copy 181 = .ok (.goto (-59), 3) := by decide +kernel
theorem dX12_copy_184 : decode cX12_copy 184 = .ok (.iload 5, 2) := by decide +kernel
theorem dX12_copy_186 : decode cX12_copy 186 = .ok (.ireturn, 1) := by decide +kernel
theorem dX12_wrongKept_0 : decode cX12_wrongKept 0 = .ok (.iload_n 1, 1) := by decide +kernel
theorem dX12_wrongKept_1 : decode cX12_wrongKept 1 = .ok (.invokestatic 123, 3) := by decide +kernel
theorem dX12_wrongKept_4 : decode cX12_wrongKept 4 = .ok (.ifCond .ne 7, 3) := by decide +kernel
theorem dX12_wrongKept_7 : decode cX12_wrongKept 7 = .ok (.iconst (-1), 1) := by decide +kernel
theorem dX12_wrongKept_8 : decode cX12_wrongKept 8 = .ok (.goto 33, 3) := by decide +kernel
theorem dX12_wrongKept_11 : decode cX12_wrongKept 11 = .ok (.aload_n 0, 1) := by decide +kernel
theorem dX12_wrongKept_12 : decode cX12_wrongKept 12 = .ok (.getfield 19, 3) := by decide +kernel
theorem dX12_wrongKept_15 : decode cX12_wrongKept 15 = .ok (.iload_n 1, 1) := by decide +kernel
theorem dX12_wrongKept_16 : decode cX12_wrongKept 16 = .ok (.iaload, 1) := by decide +kernel
theorem dX12_wrongKept_17 : decode cX12_wrongKept 17 = .ok (.ifCond .ne 8, 3) := by decide +kernel
theorem dX12_wrongKept_20 : decode cX12_wrongKept 20 = .ok (.bipush (-11), 2) := by decide +kernel
theorem dX12_wrongKept_22 : decode cX12_wrongKept 22 = .ok (.goto 19, 3) := by decide +kernel
theorem dX12_wrongKept_25 : decode cX12_wrongKept 25 = .ok (.aload_n 0, 1) := by decide +kernel
theorem dX12_wrongKept_26 : decode cX12_wrongKept 26 = .ok (.getfield 19, 3) := by decide +kernel
theorem dX12_wrongKept_29 : decode cX12_wrongKept 29 = .ok (.iload_n 1, 1) := by decide +kernel
theorem dX12_wrongKept_30 : decode cX12_wrongKept 30 = .ok (.iaload, 1) := by decide +kernel
theorem dX12_wrongKept_31 : decode cX12_wrongKept 31 = .ok (.iconst 1, 1) := by decide +kernel
theorem dX12_wrongKept_32 : decode cX12_wrongKept 32 = .ok (.if_icmp .ne 7, 3) := by decide +kernel
theorem dX12_wrongKept_35 : decode cX12_wrongKept 35 = .ok (.iconst 0, 1) := by decide +kernel
theorem dX12_wrongKept_36 : decode cX12_wrongKept 36 = .ok (.goto 5, 3) := by decide +kernel
theorem dX12_wrongKept_39 : decode cX12_wrongKept 39 = .ok (.bipush (-12), 2) := by decide +kernel
theorem dX12_wrongKept_41 : decode cX12_wrongKept 41 = .ok (.ireturn, 1) := by decide +kernel
theorem dX12_care_0 : decode cX12_care 0 = .ok (.aload_n 0, 1) := by decide +kernel
theorem dX12_care_1 : decode cX12_care 1 = .ok (.iload_n 1, 1) := by decide +kernel
theorem dX12_care_2 : decode cX12_care 2 = .ok (.invokevirtual 311, 3) := by decide +kernel
theorem dX12_care_5 : decode cX12_care 5 = .ok (.istore_n 2, 1) := by decide +kernel
theorem dX12_care_6 : decode cX12_care 6 = .ok (.iload_n 2, 1) := by decide +kernel
theorem dX12_care_7 : decode cX12_care 7 = .ok (.ifCond .eq 7, 3) := by decide +kernel
theorem dX12_care_10 : decode cX12_care 10 = .ok (.iload_n 2, 1) := by decide +kernel
theorem dX12_care_11 : decode cX12_care 11 = .ok (.goto 9, 3) := by decide +kernel
theorem dX12_care_14 : decode cX12_care 14 = .ok (.aload_n 0, 1) := by decide +kernel
theorem dX12_care_15 : decode cX12_care 15 = .ok (.getfield 31, 3) := by decide +kernel
theorem dX12_care_18 : decode cX12_care 18 = .ok (.iload_n 1, 1) := by decide +kernel
theorem dX12_care_19 : decode cX12_care 19 = .ok (.iaload, 1) := by decide +kernel
theorem dX12_care_20 : decode cX12_care 20 = .ok (.ireturn, 1) := by decide +kernel
theorem dX12_toss_0 : decode cX12_toss 0 = .ok (.aload_n 0, 1) := by decide +kernel
theorem dX12_toss_1 : decode cX12_toss 1 = .ok (.iload_n 1, 1) := by decide +kernel
theorem dX12_toss_2 : decode cX12_toss 2 = .ok (.invokevirtual 311, 3) := by decide +kernel
theorem dX12_toss_5 : decode cX12_toss 5 = .ok (.istore_n 2, 1) := by decide +kernel
theorem dX12_toss_6 : decode cX12_toss 6 = .ok (.iload_n 2, 1) := by decide +kernel
theorem dX12_toss_7 : decode cX12_toss 7 = .ok (.ifCond .eq 7, 3) := by decide +kernel
theorem dX12_toss_10 : decode cX12_toss 10 = .ok (.iload_n 2, 1) := by decide +kernel
theorem dX12_toss_11 : decode cX12_toss 11 = .ok (.goto 9, 3) := by decide +kernel
theorem dX12_toss_14 : decode cX12_toss 14 = .ok (.aload_n 0, 1) := by decide +kernel
theorem dX12_toss_15 : decode cX12_toss 15 = .ok (.getfield 34, 3) := by decide +kernel
theorem dX12_toss_18 : decode cX12_toss 18 = .ok (.iload_n 1, 1) := by decide +kernel
theorem dX12_toss_19 : decode cX12_toss 19 = .ok (.iaload, 1) := by decide +kernel
theorem dX12_toss_20 : decode cX12_toss 20 = .ok (.ireturn, 1) := by decide +kernel
