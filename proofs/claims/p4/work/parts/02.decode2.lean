theorem dX2_blockByte_0 : decode cX2_blockByte 0 = .ok (.aload_n 0, 1) := by decide +kernel
theorem dX2_blockByte_1 : decode cX2_blockByte 1 = .ok (.getfield 33, 3) := by decide +kernel
theorem dX2_blockByte_4 : decode cX2_blockByte 4 = .ok (.ifCond .eq 19, 3) := by decide +kernel
theorem dX2_blockByte_7 : decode cX2_blockByte 7 = .ok (.iload_n 1, 1) := by decide +kernel
theorem dX2_blockByte_8 : decode cX2_blockByte 8 = .ok (.invokestatic 43, 3) := by decide +kernel
theorem dX2_blockByte_11 : decode cX2_blockByte 11 = .ok (.ifCond .eq 12, 3) := by decide +kernel
theorem dX2_blockByte_14 : decode cX2_blockByte 14 = .ok (.aload_n 0, 1) := by decide +kernel
theorem dX2_blockByte_15 : decode cX2_blockByte 15 = .ok (.getfield 23, 3) := by decide +kernel
theorem dX2_blockByte_18 : decode cX2_blockByte 18 = .ok (.iload_n 1, 1) := by decide +kernel
theorem dX2_blockByte_19 : decode cX2_blockByte 19 = .ok (.iaload, 1) := by decide +kernel
theorem dX2_blockByte_20 : decode cX2_blockByte 20 = .ok (.goto 4, 3) := by decide +kernel
theorem dX2_blockByte_23 : decode cX2_blockByte 23 = .ok (.iconst (-1), 1) := by decide +kernel
theorem dX2_blockByte_24 : decode cX2_blockByte 24 = .ok (.ireturn, 1) := by decide +kernel
theorem dX2_half_0 : decode cX2_half 0 = .ok (.aload_n 0, 1) := by decide +kernel
theorem dX2_half_1 : decode cX2_half 1 = .ok (.getfield 12, 3) := by decide +kernel
theorem dX2_half_4 : decode cX2_half 4 = .ok (.getfield 57, 3) := by decide +kernel
theorem dX2_half_7 : decode cX2_half 7 = .ok (.ifCond .eq 10, 3) := by decide +kernel
theorem dX2_half_10 : decode cX2_half 10 = .ok (.iload_n 2, 1) := by decide +kernel
theorem dX2_half_11 : decode cX2_half 11 = .ok (.invokestatic 43, 3) := by decide +kernel
theorem dX2_half_14 : decode cX2_half 14 = .ok (.ifCond .ne 5, 3) := by decide +kernel
theorem dX2_half_17 : decode cX2_half 17 = .ok (.iconst (-1), 1) := by decide +kernel
theorem dX2_half_18 : decode cX2_half 18 = .ok (.ireturn, 1) := by decide +kernel
theorem dX2_half_19 : decode cX2_half 19 = .ok (.iload_n 1, 1) := by decide +kernel
theorem dX2_half_20 : decode cX2_half 20 = .ok (.ifCond .ne 13, 3) := by decide +kernel
theorem dX2_half_23 : decode cX2_half 23 = .ok (.aload_n 0, 1) := by decide +kernel
theorem dX2_half_24 : decode cX2_half 24 = .ok (.getfield 12, 3) := by decide +kernel
theorem dX2_half_27 : decode cX2_half 27 = .ok (.getfield 110, 3) := by decide +kernel
theorem dX2_half_30 : decode cX2_half 30 = .ok (.iload_n 2, 1) := by decide +kernel
theorem dX2_half_31 : decode cX2_half 31 = .ok (.iaload, 1) := by decide +kernel
theorem dX2_half_32 : decode cX2_half 32 = .ok (.ireturn, 1) := by decide +kernel
theorem dX2_half_33 : decode cX2_half 33 = .ok (.iload_n 1, 1) := by decide +kernel
theorem dX2_half_34 : decode cX2_half 34 = .ok (.iconst 1, 1) := by decide +kernel
theorem dX2_half_35 : decode cX2_half 35 = .ok (.if_icmp .ne 15, 3) := by decide +kernel
theorem dX2_half_38 : decode cX2_half 38 = .ok (.aload_n 0, 1) := by decide +kernel
theorem dX2_half_39 : decode cX2_half 39 = .ok (.getfield 12, 3) := by decide +kernel
theorem dX2_half_42 : decode cX2_half 42 = .ok (.getfield 113, 3) := by decide +kernel
theorem dX2_half_45 : decode cX2_half 45 = .ok (.iload_n 2, 1) := by decide +kernel
theorem dX2_half_46 : decode cX2_half 46 = .ok (.iaload, 1) := by decide +kernel
theorem dX2_half_47 : decode cX2_half 47 = .ok (.goto 4, 3) := by decide +kernel
theorem dX2_half_50 : decode cX2_half 50 = .ok (.iconst (-1), 1) := by decide +kernel
theorem dX2_half_51 : decode cX2_half 51 = .ok (.ireturn, 1) := by decide +kernel
theorem dX2_chainForth_0 : decode cX2_chainForth 0 = .ok (.aload_n 0, 1) := by decide +kernel
theorem dX2_chainForth_1 : decode cX2_chainForth 1 = .ok (.getfield 23, 3) := by decide +kernel
theorem dX2_chainForth_4 : decode cX2_chainForth 4 = .ok (.aload_n 0, 1) := by decide +kernel
theorem dX2_chainForth_5 : decode cX2_chainForth 5 = .ok (.getfield 27, 3) := by decide +kernel
theorem dX2_chainForth_8 : decode cX2_chainForth 8 = .ok (.iconst 0, 1) := by decide +kernel
theorem dX2_chainForth_9 : decode cX2_chainForth 9 = .ok (.invokestatic 116, 3) := by decide +kernel
theorem dX2_chainForth_12 : decode cX2_chainForth 12 = .ok (.aload_n 0, 1) := by decide +kernel
theorem dX2_chainForth_13 : decode cX2_chainForth 13 = .ok (.getfield 12, 3) := by decide +kernel
theorem dX2_chainForth_16 : decode cX2_chainForth 16 = .ok (.aload_n 0, 1) := by decide +kernel
theorem dX2_chainForth_17 : decode cX2_chainForth 17 = .ok (.getfield 23, 3) := by decide +kernel
theorem dX2_chainForth_20 : decode cX2_chainForth 20 = .ok (.invokevirtual 91, 3) := by decide +kernel
theorem dX2_chainForth_23 : decode cX2_chainForth 23 = .ok (.aload_n 0, 1) := by decide +kernel
theorem dX2_chainForth_24 : decode cX2_chainForth 24 = .ok (.getfield 23, 3) := by decide +kernel
theorem dX2_chainForth_27 : decode cX2_chainForth 27 = .ok (.iconst 0, 1) := by decide +kernel
theorem dX2_chainForth_28 : decode cX2_chainForth 28 = .ok (.aload_n 0, 1) := by decide +kernel
theorem dX2_chainForth_29 : decode cX2_chainForth 29 = .ok (.getfield 27, 3) := by decide +kernel
theorem dX2_chainForth_32 : decode cX2_chainForth 32 = .ok (.iconst 0, 1) := by decide +kernel
theorem dX2_chainForth_33 : decode cX2_chainForth 33 = .ok (.bipush 16, 2) := by decide +kernel
theorem dX2_chainForth_35 : decode cX2_chainForth 35 = .ok (.invokestatic 120, 3) := by decide +kernel
theorem dX2_chainForth_38 : decode cX2_chainForth 38 = .ok (.return_, 1) := by decide +kernel
theorem dX2_chainBack_0 : decode cX2_chainBack 0 = .ok (.aload_n 0, 1) := by decide +kernel
theorem dX2_chainBack_1 : decode cX2_chainBack 1 = .ok (.getfield 23, 3) := by decide +kernel
theorem dX2_chainBack_4 : decode cX2_chainBack 4 = .ok (.iconst 0, 1) := by decide +kernel
theorem dX2_chainBack_5 : decode cX2_chainBack 5 = .ok (.aload_n 0, 1) := by decide +kernel
theorem dX2_chainBack_6 : decode cX2_chainBack 6 = .ok (.getfield 30, 3) := by decide +kernel
theorem dX2_chainBack_9 : decode cX2_chainBack 9 = .ok (.iconst 0, 1) := by decide +kernel
theorem dX2_chainBack_10 : decode cX2_chainBack 10 = .ok (.bipush 16, 2) := by decide +kernel
theorem dX2_chainBack_12 : decode cX2_chainBack 12 = .ok (.invokestatic 120, 3) := by decide +kernel
theorem dX2_chainBack_15 : decode cX2_chainBack 15 = .ok (.aload_n 0, 1) := by decide +kernel
theorem dX2_chainBack_16 : decode cX2_chainBack 16 = .ok (.getfield 12, 3) := by decide +kernel
theorem dX2_chainBack_19 : decode cX2_chainBack 19 = .ok (.aload_n 0, 1) := by decide +kernel
theorem dX2_chainBack_20 : decode cX2_chainBack 20 = .ok (.getfield 23, 3) := by decide +kernel
theorem dX2_chainBack_23 : decode cX2_chainBack 23 = .ok (.invokevirtual 95, 3) := by decide +kernel
theorem dX2_chainBack_26 : decode cX2_chainBack 26 = .ok (.aload_n 0, 1) := by decide +kernel
theorem dX2_chainBack_27 : decode cX2_chainBack 27 = .ok (.getfield 23, 3) := by decide +kernel
theorem dX2_chainBack_30 : decode cX2_chainBack 30 = .ok (.aload_n 0, 1) := by decide +kernel
theorem dX2_chainBack_31 : decode cX2_chainBack 31 = .ok (.getfield 27, 3) := by decide +kernel
theorem dX2_chainBack_34 : decode cX2_chainBack 34 = .ok (.iconst 0, 1) := by decide +kernel
theorem dX2_chainBack_35 : decode cX2_chainBack 35 = .ok (.invokestatic 116, 3) := by decide +kernel
theorem dX2_chainBack_38 : decode cX2_chainBack 38 = .ok (.aload_n 0, 1) := by decide +kernel
theorem dX2_chainBack_39 : decode cX2_chainBack 39 = .ok (.getfield 30, 3) := by decide +kernel
theorem dX2_chainBack_42 : decode cX2_chainBack 42 = .ok (.iconst 0, 1) := by decide +kernel
theorem dX2_chainBack_43 : decode cX2_chainBack 43 = .ok (.aload_n 0, 1) := by decide +kernel
theorem dX2_chainBack_44 : decode cX2_chainBack 44 = .ok (.getfield 27, 3) := by decide +kernel
theorem dX2_chainBack_47 : decode cX2_chainBack 47 = .ok (.iconst 0, 1) := by decide +kernel
theorem dX2_chainBack_48 : decode cX2_chainBack 48 = .ok (.bipush 16, 2) := by decide +kernel
theorem dX2_chainBack_50 : decode cX2_chainBack 50 = .ok (.invokestatic 120, 3) := by decide +kernel
theorem dX2_chainBack_53 : decode cX2_chainBack 53 = .ok (.return_, 1) := by decide +kernel
theorem dX2_isPlace_0 : decode cX2_isPlace 0 = .ok (.iload_n 0, 1) := by decide +kernel
theorem dX2_isPlace_1 : decode cX2_isPlace 1 = .ok (.ifCond .lt 13, 3) := by decide +kernel
theorem dX2_isPlace_4 : decode cX2_isPlace 4 = .ok (.iload_n 0, 1) := by decide +kernel
theorem dX2_isPlace_5 : decode cX2_isPlace 5 = .ok (.bipush 16, 2) := by decide +kernel
theorem dX2_isPlace_7 : decode cX2_isPlace 7 = .ok (.if_icmp .ge 7, 3) := by decide +kernel
theorem dX2_isPlace_10 : decode cX2_isPlace 10 = .ok (.iconst 1, 1) := by decide +kernel
theorem dX2_isPlace_11 : decode cX2_isPlace 11 = .ok (.goto 4, 3) := by decide +kernel
theorem dX2_isPlace_14 : decode cX2_isPlace 14 = .ok (.iconst 0, 1) := by decide +kernel
theorem dX2_isPlace_15 : decode cX2_isPlace 15 = .ok (.ireturn, 1) := by decide +kernel
theorem dX2_isByte_0 : decode cX2_isByte 0 = .ok (.iload_n 0, 1) := by decide +kernel
theorem dX2_isByte_1 : decode cX2_isByte 1 = .ok (.ifCond .lt 14, 3) := by decide +kernel
theorem dX2_isByte_4 : decode cX2_isByte 4 = .ok (.iload_n 0, 1) := by decide +kernel
theorem dX2_isByte_5 : decode cX2_isByte 5 = .ok (.sipush 255, 3) := by decide +kernel
theorem dX2_isByte_8 : decode cX2_isByte 8 = .ok (.if_icmp .gt 7, 3) := by decide +kernel
theorem dX2_isByte_11 : decode cX2_isByte 11 = .ok (.iconst 1, 1) := by decide +kernel
theorem dX2_isByte_12 : decode cX2_isByte 12 = .ok (.goto 4, 3) := by decide +kernel
theorem dX2_isByte_15 : decode cX2_isByte 15 = .ok (.iconst 0, 1) := by decide +kernel
theorem dX2_isByte_16 : decode cX2_isByte 16 = .ok (.ireturn, 1) := by decide +kernel
theorem dX2_xor_0 : decode cX2_xor 0 = .ok (.iconst 0, 1) := by decide +kernel
theorem dX2_xor_1 : decode cX2_xor 1 = .ok (.istore_n 3, 1) := by decide +kernel
theorem dX2_xor_2 : decode cX2_xor 2 = .ok (.iload_n 3, 1) := by decide +kernel
theorem dX2_xor_3 : decode cX2_xor 3 = .ok (.bipush 16, 2) := by decide +kernel
theorem dX2_xor_5 : decode cX2_xor 5 = .ok (.if_icmp .ge 20, 3) := by decide +kernel
theorem dX2_xor_8 : decode cX2_xor 8 = .ok (.aload_n 0, 1) := by decide +kernel
theorem dX2_xor_9 : decode cX2_xor 9 = .ok (.iload_n 3, 1) := by decide +kernel
theorem dX2_xor_10 : decode cX2_xor 10 = .ok (.dup2, 1) := by decide +kernel
theorem dX2_xor_11 : decode cX2_xor 11 = .ok (.iaload, 1) := by decide +kernel
theorem dX2_xor_12 : decode cX2_xor 12 = .ok (.aload_n 1, 1) := by decide +kernel
theorem dX2_xor_13 : decode cX2_xor 13 = .ok (.iload_n 2, 1) := by decide +kernel
theorem dX2_xor_14 : decode cX2_xor 14 = .ok (.iload_n 3, 1) := by decide +kernel
theorem dX2_xor_15 : decode cX2_xor 15 = .ok (.iadd, 1) := by decide +kernel
theorem dX2_xor_16 : decode cX2_xor 16 = .ok (.iaload, 1) := by decide +kernel
theorem dX2_xor_17 : decode cX2_xor 17 = .ok (.ixor, 1) := by decide +kernel
theorem dX2_xor_18 : decode cX2_xor 18 = .ok (.iastore, 1) := by decide +kernel
theorem dX2_xor_19 : decode cX2_xor 19 = .ok (.iinc 3 1, 3) := by decide +kernel
theorem dX2_xor_22 : decode cX2_xor 22 = .ok (.goto (-20), 3) := by decide +kernel
theorem dX2_xor_25 : decode cX2_xor 25 = .ok (.return_, 1) := by decide +kernel
theorem dX3_init_0 : decode cX3_init 0 = .ok (.aload_n 0, 1) := by decide +kernel
theorem dX3_init_1 : decode cX3_init 1 = .ok (.invokespecial 1, 3) := by decide +kernel
theorem dX3_init_4 : decode cX3_init 4 = .ok (.aload_n 0, 1) := by decide +kernel
theorem dX3_init_5 : decode cX3_init 5 = .ok (.bipush 16, 2) := by decide +kernel
theorem dX3_init_7 : decode cX3_init 7 = .ok (.newarray .int, 2) := by decide +kernel
theorem dX3_init_9 : decode cX3_init 9 = .ok (.putfield 7, 3) := by decide +kernel
theorem dX3_init_12 : decode cX3_init 12 = .ok (.aload_n 0, 1) := by decide +kernel
theorem dX3_init_13 : decode cX3_init 13 = .ok (.bipush 16, 2) := by decide +kernel
theorem dX3_init_15 : decode cX3_init 15 = .ok (.newarray .int, 2) := by decide +kernel
theorem dX3_init_17 : decode cX3_init 17 = .ok (.putfield 13, 3) := by decide +kernel
theorem dX3_init_20 : decode cX3_init 20 = .ok (.aload_n 0, 1) := by decide +kernel
theorem dX3_init_21 : decode cX3_init 21 = .ok (.bipush 16, 2) := by decide +kernel
theorem dX3_init_23 : decode cX3_init 23 = .ok (.newarray .int, 2) := by decide +kernel
theorem dX3_init_25 : decode cX3_init 25 = .ok (.putfield 16, 3) := by decide +kernel
theorem dX3_init_28 : decode cX3_init 28 = .ok (.aload_n 0, 1) := by decide +kernel
theorem dX3_init_29 : decode cX3_init 29 = .ok (.sipush 256, 3) := by decide +kernel
theorem dX3_init_32 : decode cX3_init 32 = .ok (.newarray .int, 2) := by decide +kernel
theorem dX3_init_34 : decode cX3_init 34 = .ok (.putfield 19, 3) := by decide +kernel
theorem dX3_init_37 : decode cX3_init 37 = .ok (.aload_n 0, 1) := by decide +kernel
theorem dX3_init_38 : decode cX3_init 38 = .ok (.sipush 256, 3) := by decide +kernel
theorem dX3_init_41 : decode cX3_init 41 = .ok (.newarray .int, 2) := by decide +kernel
theorem dX3_init_43 : decode cX3_init 43 = .ok (.putfield 22, 3) := by decide +kernel
theorem dX3_init_46 : decode cX3_init 46 = .ok (.aload_n 0, 1) := by decide +kernel
theorem dX3_init_47 : decode cX3_init 47 = .ok (.sipush 176, 3) := by decide +kernel
theorem dX3_init_50 : decode cX3_init 50 = .ok (.newarray .int, 2) := by decide +kernel
theorem dX3_init_52 : decode cX3_init 52 = .ok (.putfield 25, 3) := by decide +kernel
theorem dX3_init_55 : decode cX3_init 55 = .ok (.aload_n 0, 1) := by decide +kernel
theorem dX3_init_56 : decode cX3_init 56 = .ok (.bipush 32, 2) := by decide +kernel
theorem dX3_init_58 : decode cX3_init 58 = .ok (.newarray .int, 2) := by decide +kernel
theorem dX3_init_60 : decode cX3_init 60 = .ok (.putfield 28, 3) := by decide +kernel
theorem dX3_init_63 : decode cX3_init 63 = .ok (.aload_n 0, 1) := by decide +kernel
theorem dX3_init_64 : decode cX3_init 64 = .ok (.bipush 16, 2) := by decide +kernel
theorem dX3_init_66 : decode cX3_init 66 = .ok (.newarray .int, 2) := by decide +kernel
theorem dX3_init_68 : decode cX3_init 68 = .ok (.putfield 31, 3) := by decide +kernel
theorem dX3_init_71 : decode cX3_init 71 = .ok (.aload_n 0, 1) := by decide +kernel
theorem dX3_init_72 : decode cX3_init 72 = .ok (.bipush 16, 2) := by decide +kernel
theorem dX3_init_74 : decode cX3_init 74 = .ok (.newarray .int, 2) := by decide +kernel
theorem dX3_init_76 : decode cX3_init 76 = .ok (.putfield 34, 3) := by decide +kernel
theorem dX3_init_79 : decode cX3_init 79 = .ok (.aload_n 0, 1) := by decide +kernel
theorem dX3_init_80 : decode cX3_init 80 = .ok (.bipush 16, 2) := by decide +kernel
theorem dX3_init_82 : decode cX3_init 82 = .ok (.newarray .int, 2) := by decide +kernel
theorem dX3_init_84 : decode cX3_init 84 = .ok (.putfield 37, 3) := by decide +kernel
theorem dX3_init_87 : decode cX3_init 87 = .ok (.aload_n 0, 1) := by decide +kernel
theorem dX3_init_88 : decode cX3_init 88 = .ok (.bipush 16, 2) := by decide +kernel
theorem dX3_init_90 : decode cX3_init 90 = .ok (.newarray .int, 2) := by decide +kernel
theorem dX3_init_92 : decode cX3_init 92 = .ok (.putfield 40, 3) := by decide +kernel
theorem dX3_init_95 : decode cX3_init 95 = .ok (.aload_n 0, 1) := by decide +kernel
theorem dX3_init_96 : decode cX3_init 96 = .ok (.bipush 16, 2) := by decide +kernel
theorem dX3_init_98 : decode cX3_init 98 = .ok (.newarray .boolean, 2) := by decide +kernel
theorem dX3_init_100 : decode cX3_init 100 = .ok (.putfield 43, 3) := by decide +kernel
theorem dX3_init_103 : decode cX3_init 103 = .ok (.iconst 0, 1) := by decide +kernel
theorem dX3_init_104 : decode cX3_init 104 = .ok (.istore_n 1, 1) := by decide +kernel
theorem dX3_init_105 : decode cX3_init 105 = .ok (.iload_n 1, 1) := by decide +kernel
theorem dX3_init_106 : decode cX3_init 106 = .ok (.sipush 256, 3) := by decide +kernel
theorem dX3_init_109 : decode cX3_init 109 = .ok (.if_icmp .ge 145, 3) := by decide +kernel
theorem dX3_init_112 : decode cX3_init 112 = .ok (.iconst 0, 1) := by decide +kernel
theorem dX3_init_113 : decode cX3_init 113 = .ok (.istore_n 2, 1) := by decide +kernel
theorem dX3_init_114 : decode cX3_init 114 = .ok (.iconst 1, 1) := by decide +kernel
theorem dX3_init_115 : decode cX3_init 115 = .ok (.istore_n 3, 1) := by decide +kernel
theorem dX3_init_116 : decode cX3_init 116 = .ok (.iload_n 3, 1) := by decide +kernel
theorem dX3_init_117 : decode cX3_init 117 = .ok (.sipush 256, 3) := by decide +kernel
theorem dX3_init_120 : decode cX3_init 120 = .ok (.if_icmp .ge 32, 3) := by decide +kernel
theorem dX3_init_123 : decode cX3_init 123 = .ok (.iload_n 2, 1) := by decide +kernel
theorem dX3_init_124 : decode cX3_init 124 = .ok (.ifCond .ne 28, 3) := by decide +kernel
theorem dX3_init_127 : decode cX3_init 127 = .ok (.iload_n 1, 1) := by decide +kernel
theorem dX3_init_128 : decode cX3_init 128 = .ok (.ifCond .le 16, 3) := by decide +kernel
theorem dX3_init_131 : decode cX3_init 131 = .ok (.iload_n 1, 1) := by decide +kernel
theorem dX3_init_132 : decode cX3_init 132 = .ok (.iload_n 3, 1) := by decide +kernel
theorem dX3_init_133 : decode cX3_init 133 = .ok (.invokestatic 47, 3) := by decide +kernel
theorem dX3_init_136 : decode cX3_init 136 = .ok (.iconst 1, 1) := by decide +kernel
theorem dX3_init_137 : decode cX3_init 137 = .ok (.if_icmp .ne 7, 3) := by decide +kernel
theorem dX3_init_140 : decode cX3_init 140 = .ok (.iload_n 3, 1) := by decide +kernel
theorem dX3_init_141 : decode cX3_init 141 = .ok (.goto 4, 3) := by decide +kernel
theorem dX3_init_144 : decode cX3_init 144 = .ok (.iconst 0, 1) := by decide +kernel
theorem dX3_init_145 : decode cX3_init 145 = .ok (.istore_n 2, 1) := by decide +kernel
theorem dX3_init_146 : decode cX3_init 146 = .ok (.iinc 3 1, 3) := by decide +kernel
theorem dX3_init_149 : decode cX3_init 149 = .ok (.goto (-33), 3) := by decide +kernel
theorem dX3_init_152 : decode cX3_init 152 = .ok (.iconst 0, 1) := by decide +kernel
theorem dX3_init_153 : decode cX3_init 153 = .ok (.istore_n 3, 1) := by decide +kernel
theorem dX3_init_154 : decode cX3_init 154 = .ok (.iconst 0, 1) := by decide +kernel
theorem dX3_init_155 : decode cX3_init 155 = .ok (.istore 4, 2) := by decide +kernel
theorem dX3_init_157 : decode cX3_init 157 = .ok (.iload 4, 2) := by decide +kernel
theorem dX3_init_159 : decode cX3_init 159 = .ok (.bipush 8, 2) := by decide +kernel
theorem dX3_init_161 : decode cX3_init 161 = .ok (.if_icmp .ge 73, 3) := by decide +kernel
theorem dX3_init_164 : decode cX3_init 164 = .ok (.iload_n 2, 1) := by decide +kernel
theorem dX3_init_165 : decode cX3_init 165 = .ok (.iload 4, 2) := by decide +kernel
theorem dX3_init_167 : decode cX3_init 167 = .ok (.ishr, 1) := by decide +kernel
theorem dX3_init_168 : decode cX3_init 168 = .ok (.iload_n 2, 1) := by decide +kernel
theorem dX3_init_169 : decode cX3_init 169 = .ok (.iload 4, 2) := by decide +kernel
theorem dX3_init_171 : decode cX3_init 171 = .ok (.iconst 4, 1) := by decide +kernel
theorem dX3_init_172 : decode cX3_init 172 = .ok (.iadd, 1) := by decide +kernel
theorem dX3_init_173 : decode cX3_init 173 = .ok (.bipush 8, 2) := by decide +kernel
theorem dX3_init_175 : decode cX3_init 175 = .ok (.irem, 1) := by decide +kernel
theorem dX3_init_176 : decode cX3_init 176 = .ok (.ishr, 1) := by decide +kernel
theorem dX3_init_177 : decode cX3_init 177 = .ok (.iadd, 1) := by decide +kernel
theorem dX3_init_178 : decode cX3_init 178 = .ok (.iload_n 2, 1) := by decide +kernel
theorem dX3_init_179 : decode cX3_init 179 = .ok (.iload 4, 2) := by decide +kernel
theorem dX3_init_181 : decode cX3_init 181 = .ok (.iconst 5, 1) := by decide +kernel
theorem dX3_init_182 : decode cX3_init 182 = .ok (.iadd, 1) := by decide +kernel
theorem dX3_init_183 : decode cX3_init 183 = .ok (.bipush 8, 2) := by decide +kernel
theorem dX3_init_185 : decode cX3_init 185 = .ok (.irem, 1) := by decide +kernel
theorem dX3_init_186 : decode cX3_init 186 = .ok (.ishr, 1) := by decide +kernel
theorem dX3_init_187 : decode cX3_init 187 = .ok (.iadd, 1) := by decide +kernel
theorem dX3_init_188 : decode cX3_init 188 = .ok (.iload_n 2, 1) := by decide +kernel
theorem dX3_init_189 : decode cX3_init 189 = .ok (.iload 4, 2) := by decide +kernel
theorem dX3_init_191 : decode cX3_init 191 = .ok (.bipush 6, 2) := by decide +kernel
theorem dX3_init_193 : decode cX3_init 193 = .ok (.iadd, 1) := by decide +kernel
theorem dX3_init_194 : decode cX3_init 194 = .ok (.bipush 8, 2) := by decide +kernel
theorem dX3_init_196 : decode cX3_init 196 = .ok (.irem, 1) := by decide +kernel
theorem dX3_init_197 : decode cX3_init 197 = .ok (.ishr, 1) := by decide +kernel
theorem dX3_init_198 : decode cX3_init 198 = .ok (.iadd, 1) := by decide +kernel
theorem dX3_init_199 : decode cX3_init 199 = .ok (.iload_n 2, 1) := by decide +kernel
theorem dX3_init_200 : decode cX3_init 200 = .ok (.iload 4, 2) := by decide +kernel
theorem dX3_init_202 : decode cX3_init 202 = .ok (.bipush 7, 2) := by decide +kernel
theorem dX3_init_204 : decode cX3_init 204 = .ok (.iadd, 1) := by decide +kernel
theorem dX3_init_205 : decode cX3_init 205 = .ok (.bipush 8, 2) := by decide +kernel
theorem dX3_init_207 : decode cX3_init 207 = .ok (.irem, 1) := by decide +kernel
theorem dX3_init_208 : decode cX3_init 208 = .ok (.ishr, 1) := by decide +kernel
theorem dX3_init_209 : decode cX3_init 209 = .ok (.iadd, 1) := by decide +kernel
theorem dX3_init_210 : decode cX3_init 210 = .ok (.bipush 99, 2) := by decide +kernel
theorem dX3_init_212 : decode cX3_init 212 = .ok (.iload 4, 2) := by decide +kernel
theorem dX3_init_214 : decode cX3_init 214 = .ok (.ishr, 1) := by decide +kernel
theorem dX3_init_215 : decode cX3_init 215 = .ok (.iadd, 1) := by decide +kernel
theorem dX3_init_216 : decode cX3_init 216 = .ok (.istore 5, 2) := by decide +kernel
theorem dX3_init_218 : decode cX3_init 218 = .ok (.iload_n 3, 1) := by decide +kernel
theorem dX3_init_219 : decode cX3_init 219 = .ok (.iload 5, 2) := by decide +kernel
theorem dX3_init_221 : decode cX3_init 221 = .ok (.iconst 2, 1) := by decide +kernel
theorem dX3_init_222 : decode cX3_init 222 = .ok (.irem, 1) := by decide +kernel
theorem dX3_init_223 : decode cX3_init 223 = .ok (.iload 4, 2) := by decide +kernel
theorem dX3_init_225 : decode cX3_init 225 = .ok (.ishl, 1) := by decide +kernel
theorem dX3_init_226 : decode cX3_init 226 = .ok (.iadd, 1) := by decide +kernel
theorem dX3_init_227 : decode cX3_init 227 = .ok (.istore_n 3, 1) := by decide +kernel
theorem dX3_init_228 : decode cX3_init 228 = .ok (.iinc 4 1, 3) := by decide +kernel
theorem dX3_init_231 : decode cX3_init 231 = .ok (.goto (-74), 3) := by decide +kernel
theorem dX3_init_234 : decode cX3_init 234 = .ok (.aload_n 0, 1) := by decide +kernel
theorem dX3_init_235 : decode cX3_init 235 = .ok (.getfield 19, 3) := by decide +kernel
theorem dX3_init_238 : decode cX3_init 238 = .ok (.iload_n 1, 1) := by decide +kernel
theorem dX3_init_239 : decode cX3_init 239 = .ok (.iload_n 3, 1) := by decide +kernel
theorem dX3_init_240 : decode cX3_init 240 = .ok (.iastore, 1) := by decide +kernel
theorem dX3_init_241 : decode cX3_init 241 = .ok (.aload_n 0, 1) := by decide +kernel
theorem dX3_init_242 : decode cX3_init 242 = .ok (.getfield 22, 3) := by decide +kernel
theorem dX3_init_245 : decode cX3_init 245 = .ok (.iload_n 3, 1) := by decide +kernel
theorem dX3_init_246 : decode cX3_init 246 = .ok (.iload_n 1, 1) := by decide +kernel
theorem dX3_init_247 : decode cX3_init 247 = .ok (.iastore, 1) := by decide +kernel
theorem dX3_init_248 : decode cX3_init 248 = .ok (.iinc 1 1, 3) := by decide +kernel
theorem dX3_init_251 : decode cX3_init 251 = .ok (.goto (-146), 3) := by decide +kernel
theorem dX3_init_254 : decode cX3_init 254 = .ok (.return_, 1) := by decide +kernel
theorem dX3_times_0 : decode cX3_times 0 = .ok (.iconst 0, 1) := by decide +kernel
theorem dX3_times_1 : decode cX3_times 1 = .ok (.istore_n 2, 1) := by decide +kernel
theorem dX3_times_2 : decode cX3_times 2 = .ok (.iload_n 0, 1) := by decide +kernel
theorem dX3_times_3 : decode cX3_times 3 = .ok (.istore_n 3, 1) := by decide +kernel
theorem dX3_times_4 : decode cX3_times 4 = .ok (.iconst 0, 1) := by decide +kernel
theorem dX3_times_5 : decode cX3_times 5 = .ok (.istore 4, 2) := by decide +kernel
theorem dX3_times_7 : decode cX3_times 7 = .ok (.iload 4, 2) := by decide +kernel
theorem dX3_times_9 : decode cX3_times 9 = .ok (.bipush 8, 2) := by decide +kernel
theorem dX3_times_11 : decode cX3_times 11 = .ok (.if_icmp .ge 51, 3) := by decide +kernel
theorem dX3_times_14 : decode cX3_times 14 = .ok (.iload_n 1, 1) := by decide +kernel
theorem dX3_times_15 : decode cX3_times 15 = .ok (.iload 4, 2) := by decide +kernel
theorem dX3_times_17 : decode cX3_times 17 = .ok (.ishr, 1) := by decide +kernel
theorem dX3_times_18 : decode cX3_times 18 = .ok (.iconst 1, 1) := by decide +kernel
theorem dX3_times_19 : decode cX3_times 19 = .ok (.iand, 1) := by decide +kernel
theorem dX3_times_20 : decode cX3_times 20 = .ok (.iconst 1, 1) := by decide +kernel
theorem dX3_times_21 : decode cX3_times 21 = .ok (.if_icmp .ne 9, 3) := by decide +kernel
theorem dX3_times_24 : decode cX3_times 24 = .ok (.iload_n 2, 1) := by decide +kernel
theorem dX3_times_25 : decode cX3_times 25 = .ok (.iload_n 3, 1) := by decide +kernel
theorem dX3_times_26 : decode cX3_times 26 = .ok (.ixor, 1) := by decide +kernel
theorem dX3_times_27 : decode cX3_times 27 = .ok (.goto 4, 3) := by decide +kernel
theorem dX3_times_30 : decode cX3_times 30 = .ok (.iload_n 2, 1) := by decide +kernel
theorem dX3_times_31 : decode cX3_times 31 = .ok (.istore_n 2, 1) := by decide +kernel
theorem dX3_times_32 : decode cX3_times 32 = .ok (.iload_n 3, 1) := by decide +kernel
theorem dX3_times_33 : decode cX3_times 33 = .ok (.sipush 128, 3) := by decide +kernel
theorem dX3_times_36 : decode cX3_times 36 = .ok (.if_icmp .ge 9, 3) := by decide +kernel
theorem dX3_times_39 : decode cX3_times 39 = .ok (.iconst 2, 1) := by decide +kernel
theorem dX3_times_40 : decode cX3_times 40 = .ok (.iload_n 3, 1) := by decide +kernel
theorem dX3_times_41 : decode cX3_times 41 = .ok (.imul, 1) := by decide +kernel
theorem dX3_times_42 : decode cX3_times 42 = .ok (.goto 13, 3) := by decide +kernel
theorem dX3_times_45 : decode cX3_times 45 = .ok (.iconst 2, 1) := by decide +kernel
theorem dX3_times_46 : decode cX3_times 46 = .ok (.iload_n 3, 1) := by decide +kernel
theorem dX3_times_47 : decode cX3_times 47 = .ok (.imul, 1) := by decide +kernel
theorem dX3_times_48 : decode cX3_times 48 = .ok (.sipush 256, 3) := by decide +kernel
theorem dX3_times_51 : decode cX3_times 51 = .ok (.isub, 1) := by decide +kernel
theorem dX3_times_52 : decode cX3_times 52 = .ok (.bipush 27, 2) := by decide +kernel
theorem dX3_times_54 : decode cX3_times 54 = .ok (.ixor, 1) := by decide +kernel
theorem dX3_times_55 : decode cX3_times 55 = .ok (.istore_n 3, 1) := by decide +kernel
theorem dX3_times_56 : decode cX3_times 56 = .ok (.iinc 4 1, 3) := by decide +kernel
theorem dX3_times_59 : decode cX3_times 59 = .ok (.goto (-52), 3) := by decide +kernel
theorem dX3_times_62 : decode cX3_times 62 = .ok (.iload_n 2, 1) := by decide +kernel
theorem dX3_times_63 : decode cX3_times 63 = .ok (.ireturn, 1) := by decide +kernel
theorem dX3_isIn_0 : decode cX3_isIn 0 = .ok (.iload_n 0, 1) := by decide +kernel
theorem dX3_isIn_1 : decode cX3_isIn 1 = .ok (.ifCond .lt 12, 3) := by decide +kernel
theorem dX3_isIn_4 : decode cX3_isIn 4 = .ok (.iload_n 0, 1) := by decide +kernel
theorem dX3_isIn_5 : decode cX3_isIn 5 = .ok (.iload_n 1, 1) := by decide +kernel
theorem dX3_isIn_6 : decode cX3_isIn 6 = .ok (.if_icmp .gt 7, 3) := by decide +kernel
theorem dX3_isIn_9 : decode cX3_isIn 9 = .ok (.iconst 1, 1) := by decide +kernel
theorem dX3_isIn_10 : decode cX3_isIn 10 = .ok (.goto 4, 3) := by decide +kernel
theorem dX3_isIn_13 : decode cX3_isIn 13 = .ok (.iconst 0, 1) := by decide +kernel
theorem dX3_isIn_14 : decode cX3_isIn 14 = .ok (.ireturn, 1) := by decide +kernel
theorem dX3_init__0 : decode cX3_init_ 0 = .ok (.aload_n 0, 1) := by decide +kernel
theorem dX3_init__1 : decode cX3_init_ 1 = .ok (.iconst 0, 1) := by decide +kernel
theorem dX3_init__2 : decode cX3_init_ 2 = .ok (.putfield 51, 3) := by decide +kernel
theorem dX3_init__5 : decode cX3_init_ 5 = .ok (.iconst 0, 1) := by decide +kernel
theorem dX3_init__6 : decode cX3_init_ 6 = .ok (.istore_n 1, 1) := by decide +kernel
theorem dX3_init__7 : decode cX3_init_ 7 = .ok (.iload_n 1, 1) := by decide +kernel
theorem dX3_init__8 : decode cX3_init_ 8 = .ok (.bipush 16, 2) := by decide +kernel
theorem dX3_init__10 : decode cX3_init_ 10 = .ok (.if_icmp .ge 16, 3) := by decide +kernel
theorem dX3_init__13 : decode cX3_init_ 13 = .ok (.aload_n 0, 1) := by decide +kernel
theorem dX3_init__14 : decode cX3_init_ 14 = .ok (.getfield 7, 3) := by decide +kernel
theorem dX3_init__17 : decode cX3_init_ 17 = .ok (.iload_n 1, 1) := by decide +kernel
theorem dX3_init__18 : decode cX3_init_ 18 = .ok (.iconst 0, 1) := by decide +kernel
theorem dX3_init__19 : decode cX3_init_ 19 = .ok (.iastore, 1) := by decide +kernel
theorem dX3_init__20 : decode cX3_init_ 20 = .ok (.iinc 1 1, 3) := by decide +kernel
theorem dX3_init__23 : decode cX3_init_ 23 = .ok (.goto (-16), 3) := by decide +kernel
theorem dX3_init__26 : decode cX3_init_ 26 = .ok (.aload_n 0, 1) := by decide +kernel
theorem dX3_init__27 : decode cX3_init_ 27 = .ok (.iconst 1, 1) := by decide +kernel
theorem dX3_init__28 : decode cX3_init_ 28 = .ok (.putfield 55, 3) := by decide +kernel
theorem dX3_init__31 : decode cX3_init_ 31 = .ok (.aload_n 0, 1) := by decide +kernel
theorem dX3_init__32 : decode cX3_init_ 32 = .ok (.iconst 0, 1) := by decide +kernel
theorem dX3_init__33 : decode cX3_init_ 33 = .ok (.putfield 59, 3) := by decide +kernel
theorem dX3_init__36 : decode cX3_init_ 36 = .ok (.aload_n 0, 1) := by decide +kernel
theorem dX3_init__37 : decode cX3_init_ 37 = .ok (.iconst 0, 1) := by decide +kernel
theorem dX3_init__38 : decode cX3_init_ 38 = .ok (.putfield 62, 3) := by decide +kernel
theorem dX3_init__41 : decode cX3_init_ 41 = .ok (.return_, 1) := by decide +kernel
theorem dX3_setKeyByte_0 : decode cX3_setKeyByte 0 = .ok (.aload_n 0, 1) := by decide +kernel
theorem dX3_setKeyByte_1 : decode cX3_setKeyByte 1 = .ok (.iconst 0, 1) := by decide +kernel
theorem dX3_setKeyByte_2 : decode cX3_setKeyByte 2 = .ok (.putfield 51, 3) := by decide +kernel
theorem dX3_setKeyByte_5 : decode cX3_setKeyByte 5 = .ok (.aload_n 0, 1) := by decide +kernel
theorem dX3_setKeyByte_6 : decode cX3_setKeyByte 6 = .ok (.getfield 55, 3) := by decide +kernel
theorem dX3_setKeyByte_9 : decode cX3_setKeyByte 9 = .ok (.ifCond .eq 22, 3) := by decide +kernel
theorem dX3_setKeyByte_12 : decode cX3_setKeyByte 12 = .ok (.iload_n 1, 1) := by decide +kernel
theorem dX3_setKeyByte_13 : decode cX3_setKeyByte 13 = .ok (.bipush 15, 2) := by decide +kernel
theorem dX3_setKeyByte_15 : decode cX3_setKeyByte 15 = .ok (.invokestatic 65, 3) := by decide +kernel
theorem dX3_setKeyByte_18 : decode cX3_setKeyByte 18 = .ok (.ifCond .eq 13, 3) := by decide +kernel
theorem dX3_setKeyByte_21 : decode cX3_setKeyByte 21 = .ok (.iload_n 2, 1) := by decide +kernel
theorem dX3_setKeyByte_22 : decode cX3_setKeyByte 22 = .ok (.sipush 255, 3) := by decide +kernel
theorem dX3_setKeyByte_25 : decode cX3_setKeyByte 25 = .ok (.invokestatic 65, 3) := by decide +kernel
theorem dX3_setKeyByte_28 : decode cX3_setKeyByte 28 = .ok (.ifCond .ne 5, 3) := by decide +kernel
theorem dX3_setKeyByte_31 : decode cX3_setKeyByte 31 = .ok (.iconst 0, 1) := by decide +kernel
theorem dX3_setKeyByte_32 : decode cX3_setKeyByte 32 = .ok (.ireturn, 1) := by decide +kernel
theorem dX3_setKeyByte_33 : decode cX3_setKeyByte 33 = .ok (.aload_n 0, 1) := by decide +kernel
theorem dX3_setKeyByte_34 : decode cX3_setKeyByte 34 = .ok (.getfield 7, 3) := by decide +kernel
theorem dX3_setKeyByte_37 : decode cX3_setKeyByte 37 = .ok (.iload_n 1, 1) := by decide +kernel
theorem dX3_setKeyByte_38 : decode cX3_setKeyByte 38 = .ok (.iload_n 2, 1) := by decide +kernel
theorem dX3_setKeyByte_39 : decode cX3_setKeyByte 39 = .ok (.iastore, 1) := by decide +kernel
theorem dX3_setKeyByte_40 : decode cX3_setKeyByte 40 = .ok (.aload_n 0, 1) := by decide +kernel
theorem dX3_setKeyByte_41 : decode cX3_setKeyByte 41 = .ok (.iconst 0, 1) := by decide +kernel
theorem dX3_setKeyByte_42 : decode cX3_setKeyByte 42 = .ok (.putfield 59, 3) := by decide +kernel
theorem dX3_setKeyByte_45 : decode cX3_setKeyByte 45 = .ok (.aload_n 0, 1) := by decide +kernel
theorem dX3_setKeyByte_46 : decode cX3_setKeyByte 46 = .ok (.iconst 0, 1) := by decide +kernel
theorem dX3_setKeyByte_47 : decode cX3_setKeyByte 47 = .ok (.putfield 62, 3) := by decide +kernel
theorem dX3_setKeyByte_50 : decode cX3_setKeyByte 50 = .ok (.iconst 1, 1) := by decide +kernel
theorem dX3_setKeyByte_51 : decode cX3_setKeyByte 51 = .ok (.ireturn, 1) := by decide +kernel
theorem dX3_makeWords_0 : decode cX3_makeWords 0 = .ok (.iconst 1, 1) := by decide +kernel
theorem dX3_makeWords_1 : decode cX3_makeWords 1 = .ok (.istore_n 1, 1) := by decide +kernel
theorem dX3_makeWords_2 : decode cX3_makeWords 2 = .ok (.iconst 0, 1) := by decide +kernel
theorem dX3_makeWords_3 : decode cX3_makeWords 3 = .ok (.istore_n 2, 1) := by decide +kernel
theorem dX3_makeWords_4 : decode cX3_makeWords 4 = .ok (.iload_n 2, 1) := by decide +kernel
theorem dX3_makeWords_5 : decode cX3_makeWords 5 = .ok (.sipush 176, 3) := by decide +kernel
theorem dX3_makeWords_8 : decode cX3_makeWords 8 = .ok (.if_icmp .ge 141, 3) := by decide +kernel
theorem dX3_makeWords_11 : decode cX3_makeWords 11 = .ok (.iload_n 2, 1) := by decide +kernel
theorem dX3_makeWords_12 : decode cX3_makeWords 12 = .ok (.bipush 16, 2) := by decide +kernel
theorem dX3_makeWords_14 : decode cX3_makeWords 14 = .ok (.if_icmp .ge 18, 3) := by decide +kernel
theorem dX3_makeWords_17 : decode cX3_makeWords 17 = .ok (.aload_n 0, 1) := by decide +kernel
theorem dX3_makeWords_18 : decode cX3_makeWords 18 = .ok (.getfield 25, 3) := by decide +kernel
theorem dX3_makeWords_21 : decode cX3_makeWords 21 = .ok (.iload_n 2, 1) := by decide +kernel
theorem dX3_makeWords_22 : decode cX3_makeWords 22 = .ok (.aload_n 0, 1) := by decide +kernel
theorem dX3_makeWords_23 : decode cX3_makeWords 23 = .ok (.getfield 7, 3) := by decide +kernel
theorem dX3_makeWords_26 : decode cX3_makeWords 26 = .ok (.iload_n 2, 1) := by decide +kernel
theorem dX3_makeWords_27 : decode cX3_makeWords 27 = .ok (.iaload, 1) := by decide +kernel
theorem dX3_makeWords_28 : decode cX3_makeWords 28 = .ok (.iastore, 1) := by decide +kernel
theorem dX3_makeWords_29 : decode cX3_makeWords 29 = .ok (.goto 114, 3) := by decide +kernel
theorem dX3_makeWords_32 : decode cX3_makeWords 32 = .ok (.iload_n 2, 1) := by decide +kernel
theorem dX3_makeWords_33 : decode cX3_makeWords 33 = .ok (.bipush 16, 2) := by decide +kernel
theorem dX3_makeWords_35 : decode cX3_makeWords 35 = .ok (.irem, 1) := by decide +kernel
theorem dX3_makeWords_36 : decode cX3_makeWords 36 = .ok (.iconst 4, 1) := by decide +kernel
theorem dX3_makeWords_37 : decode cX3_makeWords 37 = .ok (.if_icmp .ge 82, 3) := by decide +kernel
theorem dX3_makeWords_40 : decode cX3_makeWords 40 = .ok (.iload_n 2, 1) := by decide +kernel
theorem dX3_makeWords_41 : decode cX3_makeWords 41 = .ok (.iconst 4, 1) := by decide +kernel
theorem dX3_makeWords_42 : decode cX3_makeWords 42 = .ok (.irem, 1) := by decide +kernel
theorem dX3_makeWords_43 : decode cX3_makeWords 43 = .ok (.iconst 3, 1) := by decide +kernel
theorem dX3_makeWords_44 : decode cX3_makeWords 44 = .ok (.if_icmp .ge 9, 3) := by decide +kernel
theorem dX3_makeWords_47 : decode cX3_makeWords 47 = .ok (.iload_n 2, 1) := by decide +kernel
theorem dX3_makeWords_48 : decode cX3_makeWords 48 = .ok (.iconst 3, 1) := by decide +kernel
theorem dX3_makeWords_49 : decode cX3_makeWords 49 = .ok (.isub, 1) := by decide +kernel
theorem dX3_makeWords_50 : decode cX3_makeWords 50 = .ok (.goto 7, 3) := by decide +kernel
theorem dX3_makeWords_53 : decode cX3_makeWords 53 = .ok (.iload_n 2, 1) := by decide +kernel
theorem dX3_makeWords_54 : decode cX3_makeWords 54 = .ok (.bipush 7, 2) := by decide +kernel
theorem dX3_makeWords_56 : decode cX3_makeWords 56 = .ok (.isub, 1) := by decide +kernel
theorem dX3_makeWords_57 : decode cX3_makeWords 57 = .ok (.istore_n 3, 1) := by decide +kernel
theorem dX3_makeWords_58 : decode cX3_makeWords 58 = .ok (.aload_n 0, 1) := by decide +kernel
theorem dX3_makeWords_59 : decode cX3_makeWords 59 = .ok (.getfield 25, 3) := by decide +kernel
theorem dX3_makeWords_62 : decode cX3_makeWords 62 = .ok (.iload_n 2, 1) := by decide +kernel
theorem dX3_makeWords_63 : decode cX3_makeWords 63 = .ok (.aload_n 0, 1) := by decide +kernel
theorem dX3_makeWords_64 : decode cX3_makeWords 64 = .ok (.getfield 25, 3) := by decide +kernel
theorem dX3_makeWords_67 : decode cX3_makeWords 67 = .ok (.iload_n 2, 1) := by decide +kernel
theorem dX3_makeWords_68 : decode cX3_makeWords 68 = .ok (.bipush 16, 2) := by decide +kernel
theorem dX3_makeWords_70 : decode cX3_makeWords 70 = .ok (.isub, 1) := by decide +kernel
theorem dX3_makeWords_71 : decode cX3_makeWords 71 = .ok (.iaload, 1) := by decide +kernel
theorem dX3_makeWords_72 : decode cX3_makeWords 72 = .ok (.aload_n 0, 1) := by decide +kernel
theorem dX3_makeWords_73 : decode cX3_makeWords 73 = .ok (.getfield 19, 3) := by decide +kernel
theorem dX3_makeWords_76 : decode cX3_makeWords 76 = .ok (.aload_n 0, 1) := by decide +kernel
theorem dX3_makeWords_77 : decode cX3_makeWords 77 = .ok (.getfield 25, 3) := by decide +kernel
theorem dX3_makeWords_80 : decode cX3_makeWords 80 = .ok (.iload_n 3, 1) := by decide +kernel
theorem dX3_makeWords_81 : decode cX3_makeWords 81 = .ok (.iaload, 1) := by decide +kernel
theorem dX3_makeWords_82 : decode cX3_makeWords 82 = .ok (.iaload, 1) := by decide +kernel
theorem dX3_makeWords_83 : decode cX3_makeWords 83 = .ok (.ixor, 1) := by decide +kernel
theorem dX3_makeWords_84 : decode cX3_makeWords 84 = .ok (.iload_n 2, 1) := by decide +kernel
theorem dX3_makeWords_85 : decode cX3_makeWords 85 = .ok (.bipush 16, 2) := by decide +kernel
theorem dX3_makeWords_87 : decode cX3_makeWords 87 = .ok (.irem, 1) := by decide +kernel
theorem dX3_makeWords_88 : decode cX3_makeWords 88 = .ok (.ifCond .ne 7, 3) := by decide +kernel
theorem dX3_makeWords_91 : decode cX3_makeWords 91 = .ok (.iload_n 1, 1) := by decide +kernel
theorem dX3_makeWords_92 : decode cX3_makeWords 92 = .ok (.goto 4, 3) := by decide +kernel
theorem dX3_makeWords_95 : decode cX3_makeWords 95 = .ok (.iconst 0, 1) := by decide +kernel
theorem dX3_makeWords_96 : decode cX3_makeWords 96 = .ok (.ixor, 1) := by decide +kernel
theorem dX3_makeWords_97 : decode cX3_makeWords 97 = .ok (.iastore, 1) := by decide +kernel
theorem dX3_makeWords_98 : decode cX3_makeWords 98 = .ok (.iload_n 2, 1) := by decide +kernel
theorem dX3_makeWords_99 : decode cX3_makeWords 99 = .ok (.bipush 16, 2) := by decide +kernel
theorem dX3_makeWords_101 : decode cX3_makeWords 101 = .ok (.irem, 1) := by decide +kernel
theorem dX3_makeWords_102 : decode cX3_makeWords 102 = .ok (.iconst 3, 1) := by decide +kernel
theorem dX3_makeWords_103 : decode cX3_makeWords 103 = .ok (.if_icmp .ne 11, 3) := by decide +kernel
theorem dX3_makeWords_106 : decode cX3_makeWords 106 = .ok (.iload_n 1, 1) := by decide +kernel
theorem dX3_makeWords_107 : decode cX3_makeWords 107 = .ok (.iconst 2, 1) := by decide +kernel
theorem dX3_makeWords_108 : decode cX3_makeWords 108 = .ok (.invokestatic 47, 3) := by decide +kernel
theorem dX3_makeWords_111 : decode cX3_makeWords 111 = .ok (.goto 4, 3) := by decide +kernel
theorem dX3_makeWords_114 : decode cX3_makeWords 114 = .ok (.iload_n 1, 1) := by decide +kernel
theorem dX3_makeWords_115 : decode cX3_makeWords 115 = .ok (.istore_n 1, 1) := by decide +kernel
theorem dX3_makeWords_116 : decode cX3_makeWords 116 = .ok (.goto 27, 3) := by decide +kernel
theorem dX3_makeWords_119 : decode cX3_makeWords 119 = .ok (.aload_n 0, 1) := by decide +kernel
theorem dX3_makeWords_120 : decode cX3_makeWords 120 = .ok (.getfield 25, 3) := by decide +kernel
theorem dX3_makeWords_123 : decode cX3_makeWords 123 = .ok (.iload_n 2, 1) := by decide +kernel
theorem dX3_makeWords_124 : decode cX3_makeWords 124 = .ok (.aload_n 0, 1) := by decide +kernel
theorem dX3_makeWords_125 : decode cX3_makeWords 125 = .ok (.getfield 25, 3) := by decide +kernel
theorem dX3_makeWords_128 : decode cX3_makeWords 128 = .ok (.iload_n 2, 1) := by decide +kernel
theorem dX3_makeWords_129 : decode cX3_makeWords 129 = .ok (.bipush 16, 2) := by decide +kernel
theorem dX3_makeWords_131 : decode cX3_makeWords 131 = .ok (.isub, 1) := by decide +kernel
theorem dX3_makeWords_132 : decode cX3_makeWords 132 = .ok (.iaload, 1) := by decide +kernel
theorem dX3_makeWords_133 : decode cX3_makeWords 133 = .ok (.aload_n 0, 1) := by decide +kernel
theorem dX3_makeWords_134 : decode cX3_makeWords 134 = .ok (.getfield 25, 3) := by decide +kernel
theorem dX3_makeWords_137 : decode cX3_makeWords 137 = .ok (.iload_n 2, 1) := by decide +kernel
theorem dX3_makeWords_138 : decode cX3_makeWords 138 = .ok (.iconst 4, 1) := by decide +kernel
theorem dX3_makeWords_139 : decode cX3_makeWords 139 = .ok (.isub, 1) := by decide +kernel
theorem dX3_makeWords_140 : decode cX3_makeWords 140 = .ok (.iaload, 1) := by decide +kernel
theorem dX3_makeWords_141 : decode cX3_makeWords 141 = .ok (.ixor, 1) := by decide +kernel
theorem dX3_makeWords_142 : decode cX3_makeWords 142 = .ok (.iastore, 1) := by decide +kernel
theorem dX3_makeWords_143 : decode cX3_makeWords 143 = .ok (.iinc 2 1, 3) := by decide +kernel
theorem dX3_makeWords_146 : decode cX3_makeWords 146 = .ok (.goto (-142), 3) := by decide +kernel
theorem dX3_makeWords_149 : decode cX3_makeWords 149 = .ok (.return_, 1) := by decide +kernel
theorem dX3_add_0 : decode cX3_add 0 = .ok (.iconst 0, 1) := by decide +kernel
theorem dX3_add_1 : decode cX3_add 1 = .ok (.istore_n 2, 1) := by decide +kernel
theorem dX3_add_2 : decode cX3_add 2 = .ok (.iload_n 2, 1) := by decide +kernel
theorem dX3_add_3 : decode cX3_add 3 = .ok (.bipush 16, 2) := by decide +kernel
theorem dX3_add_5 : decode cX3_add 5 = .ok (.if_icmp .ge 33, 3) := by decide +kernel
theorem dX3_add_8 : decode cX3_add 8 = .ok (.aload_n 0, 1) := by decide +kernel
theorem dX3_add_9 : decode cX3_add 9 = .ok (.getfield 31, 3) := by decide +kernel
theorem dX3_add_12 : decode cX3_add 12 = .ok (.iload_n 2, 1) := by decide +kernel
theorem dX3_add_13 : decode cX3_add 13 = .ok (.aload_n 0, 1) := by decide +kernel
theorem dX3_add_14 : decode cX3_add 14 = .ok (.getfield 31, 3) := by decide +kernel
theorem dX3_add_17 : decode cX3_add 17 = .ok (.iload_n 2, 1) := by decide +kernel
theorem dX3_add_18 : decode cX3_add 18 = .ok (.iaload, 1) := by decide +kernel
theorem dX3_add_19 : decode cX3_add 19 = .ok (.aload_n 0, 1) := by decide +kernel
theorem dX3_add_20 : decode cX3_add 20 = .ok (.getfield 25, 3) := by decide +kernel
theorem dX3_add_23 : decode cX3_add 23 = .ok (.bipush 16, 2) := by decide +kernel
theorem dX3_add_25 : decode cX3_add 25 = .ok (.iload_n 1, 1) := by decide +kernel
theorem dX3_add_26 : decode cX3_add 26 = .ok (.imul, 1) := by decide +kernel
theorem dX3_add_27 : decode cX3_add 27 = .ok (.iload_n 2, 1) := by decide +kernel
theorem dX3_add_28 : decode cX3_add 28 = .ok (.iadd, 1) := by decide +kernel
theorem dX3_add_29 : decode cX3_add 29 = .ok (.iaload, 1) := by decide +kernel
theorem dX3_add_30 : decode cX3_add 30 = .ok (.ixor, 1) := by decide +kernel
theorem dX3_add_31 : decode cX3_add 31 = .ok (.iastore, 1) := by decide +kernel
theorem dX3_add_32 : decode cX3_add 32 = .ok (.iinc 2 1, 3) := by decide +kernel
theorem dX3_add_35 : decode cX3_add 35 = .ok (.goto (-33), 3) := by decide +kernel
theorem dX3_add_38 : decode cX3_add 38 = .ok (.return_, 1) := by decide +kernel
theorem dX3_columns_0 : decode cX3_columns 0 = .ok (.iconst 0, 1) := by decide +kernel
theorem dX3_columns_1 : decode cX3_columns 1 = .ok (.istore 5, 2) := by decide +kernel
theorem dX3_columns_3 : decode cX3_columns 3 = .ok (.iload 5, 2) := by decide +kernel
theorem dX3_columns_5 : decode cX3_columns 5 = .ok (.bipush 16, 2) := by decide +kernel
theorem dX3_columns_7 : decode cX3_columns 7 = .ok (.if_icmp .ge 94, 3) := by decide +kernel
theorem dX3_columns_10 : decode cX3_columns 10 = .ok (.iload 5, 2) := by decide +kernel
theorem dX3_columns_12 : decode cX3_columns 12 = .ok (.iload 5, 2) := by decide +kernel
theorem dX3_columns_14 : decode cX3_columns 14 = .ok (.iconst 4, 1) := by decide +kernel
theorem dX3_columns_15 : decode cX3_columns 15 = .ok (.irem, 1) := by decide +kernel
theorem dX3_columns_16 : decode cX3_columns 16 = .ok (.isub, 1) := by decide +kernel
theorem dX3_columns_17 : decode cX3_columns 17 = .ok (.istore 6, 2) := by decide +kernel
theorem dX3_columns_19 : decode cX3_columns 19 = .ok (.aload_n 0, 1) := by decide +kernel
theorem dX3_columns_20 : decode cX3_columns 20 = .ok (.getfield 34, 3) := by decide +kernel
theorem dX3_columns_23 : decode cX3_columns 23 = .ok (.iload 5, 2) := by decide +kernel
theorem dX3_columns_25 : decode cX3_columns 25 = .ok (.aload_n 0, 1) := by decide +kernel
theorem dX3_columns_26 : decode cX3_columns 26 = .ok (.getfield 31, 3) := by decide +kernel
theorem dX3_columns_29 : decode cX3_columns 29 = .ok (.iload 5, 2) := by decide +kernel
theorem dX3_columns_31 : decode cX3_columns 31 = .ok (.iaload, 1) := by decide +kernel
theorem dX3_columns_32 : decode cX3_columns 32 = .ok (.iload_n 1, 1) := by decide +kernel
theorem dX3_columns_33 : decode cX3_columns 33 = .ok (.invokestatic 47, 3) := by decide +kernel
theorem dX3_columns_36 : decode cX3_columns 36 = .ok (.aload_n 0, 1) := by decide +kernel
theorem dX3_columns_37 : decode cX3_columns 37 = .ok (.getfield 31, 3) := by decide +kernel
theorem dX3_columns_40 : decode cX3_columns 40 = .ok (.iload 6, 2) := by decide +kernel
theorem dX3_columns_42 : decode cX3_columns 42 = .ok (.iload 5, 2) := by decide +kernel
theorem dX3_columns_44 : decode cX3_columns 44 = .ok (.iconst 1, 1) := by decide +kernel
theorem dX3_columns_45 : decode cX3_columns 45 = .ok (.iadd, 1) := by decide +kernel
theorem dX3_columns_46 : decode cX3_columns 46 = .ok (.iconst 4, 1) := by decide +kernel
theorem dX3_columns_47 : decode cX3_columns 47 = .ok (.irem, 1) := by decide +kernel
theorem dX3_columns_48 : decode cX3_columns 48 = .ok (.iadd, 1) := by decide +kernel
theorem dX3_columns_49 : decode cX3_columns 49 = .ok (.iaload, 1) := by decide +kernel
theorem dX3_columns_50 : decode cX3_columns 50 = .ok (.iload_n 2, 1) := by decide +kernel
theorem dX3_columns_51 : decode cX3_columns 51 = .ok (.invokestatic 47, 3) := by decide +kernel
theorem dX3_columns_54 : decode cX3_columns 54 = .ok (.ixor, 1) := by decide +kernel
theorem dX3_columns_55 : decode cX3_columns 55 = .ok (.aload_n 0, 1) := by decide +kernel
theorem dX3_columns_56 : decode cX3_columns 56 = .ok (.getfield 31, 3) := by decide +kernel
theorem dX3_columns_59 : decode cX3_columns 59 = .ok (.iload 6, 2) := by decide +kernel
theorem dX3_columns_61 : decode cX3_columns 61 = .ok (.iload 5, 2) := by decide +kernel
theorem dX3_columns_63 : decode cX3_columns 63 = .ok (.iconst 2, 1) := by decide +kernel
theorem dX3_columns_64 : decode cX3_columns 64 = .ok (.iadd, 1) := by decide +kernel
theorem dX3_columns_65 : decode cX3_columns 65 = .ok (.iconst 4, 1) := by decide +kernel
theorem dX3_columns_66 : decode cX3_columns 66 = .ok (.irem, 1) := by decide +kernel
theorem dX3_columns_67 : decode cX3_columns 67 = .ok (.iadd, 1) := by decide +kernel
theorem dX3_columns_68 : decode cX3_columns 68 = .ok (.iaload, 1) := by decide +kernel
theorem dX3_columns_69 : decode cX3_columns 69 = .ok (.iload_n 3, 1) := by decide +kernel
theorem dX3_columns_70 : decode cX3_columns 70 = .ok (.invokestatic 47, 3) := by decide +kernel
theorem dX3_columns_73 : decode cX3_columns 73 = .ok (.ixor, 1) := by decide +kernel
theorem dX3_columns_74 : decode cX3_columns 74 = .ok (.aload_n 0, 1) := by decide +kernel
theorem dX3_columns_75 : decode cX3_columns 75 = .ok (.getfield 31, 3) := by decide +kernel
theorem dX3_columns_78 : decode cX3_columns 78 = .ok (.iload 6, 2) := by decide +kernel
theorem dX3_columns_80 : decode cX3_columns 80 = .ok (.iload 5, 2) := by decide +kernel
theorem dX3_columns_82 : decode cX3_columns 82 = .ok (.iconst 3, 1) := by decide +kernel
theorem dX3_columns_83 : decode cX3_columns 83 = .ok (.iadd, 1) := by decide +kernel
theorem dX3_columns_84 : decode cX3_columns 84 = .ok (.iconst 4, 1) := by decide +kernel
theorem dX3_columns_85 : decode cX3_columns 85 = .ok (.irem, 1) := by decide +kernel
theorem dX3_columns_86 : decode cX3_columns 86 = .ok (.iadd, 1) := by decide +kernel
theorem dX3_columns_87 : decode cX3_columns 87 = .ok (.iaload, 1) := by decide +kernel
theorem dX3_columns_88 : decode cX3_columns 88 = .ok (.iload 4, 2) := by decide +kernel
theorem dX3_columns_90 : decode cX3_columns 90 = .ok (.invokestatic 47, 3) := by decide +kernel
theorem dX3_columns_93 : decode cX3_columns 93 = .ok (.ixor, 1) := by decide +kernel
theorem dX3_columns_94 : decode cX3_columns 94 = .ok (.iastore, 1) := by decide +kernel
theorem dX3_columns_95 : decode cX3_columns 95 = .ok (.iinc 5 1, 3) := by decide +kernel
theorem dX3_columns_98 : decode cX3_columns 98 = .ok (.goto (-95), 3) := by decide +kernel
theorem dX3_columns_101 : decode cX3_columns 101 = .ok (.iconst 0, 1) := by decide +kernel
theorem dX3_columns_102 : decode cX3_columns 102 = .ok (.istore 5, 2) := by decide +kernel
theorem dX3_columns_104 : decode cX3_columns 104 = .ok (.iload 5, 2) := by decide +kernel
theorem dX3_columns_106 : decode cX3_columns 106 = .ok (.bipush 16, 2) := by decide +kernel
theorem dX3_columns_108 : decode cX3_columns 108 = .ok (.if_icmp .ge 23, 3) := by decide +kernel
theorem dX3_columns_111 : decode cX3_columns 111 = .ok (.aload_n 0, 1) := by decide +kernel
theorem dX3_columns_112 : decode cX3_columns 112 = .ok (.getfield 31, 3) := by decide +kernel
theorem dX3_columns_115 : decode cX3_columns 115 = .ok (.iload 5, 2) := by decide +kernel
theorem dX3_columns_117 : decode cX3_columns 117 = .ok (.aload_n 0, 1) := by decide +kernel
theorem dX3_columns_118 : decode cX3_columns 118 = .ok (.getfield 34, 3) := by decide +kernel
theorem dX3_columns_121 : decode cX3_columns 121 = .ok (.iload 5, 2) := by decide +kernel
theorem dX3_columns_123 : decode cX3_columns 123 = .ok (.iaload, 1) := by decide +kernel
theorem dX3_columns_124 : decode cX3_columns 124 = .ok (.iastore, 1) := by decide +kernel
theorem dX3_columns_125 : decode cX3_columns 125 = .ok (.iinc 5 1, 3) := by decide +kernel
theorem dX3_columns_128 : decode cX3_columns 128 = .ok (.goto (-24), 3) := by decide +kernel
theorem dX3_columns_131 : decode cX3_columns 131 = .ok (.return_, 1) := by decide +kernel
theorem dX3_forth_0 : decode cX3_forth 0 = .ok (.aload_n 0, 1) := by decide +kernel
theorem dX3_forth_1 : decode cX3_forth 1 = .ok (.iconst 0, 1) := by decide +kernel
theorem dX3_forth_2 : decode cX3_forth 2 = .ok (.invokevirtual 69, 3) := by decide +kernel
theorem dX3_forth_5 : decode cX3_forth 5 = .ok (.iconst 1, 1) := by decide +kernel
theorem dX3_forth_6 : decode cX3_forth 6 = .ok (.istore_n 1, 1) := by decide +kernel
theorem dX3_forth_7 : decode cX3_forth 7 = .ok (.iload_n 1, 1) := by decide +kernel
theorem dX3_forth_8 : decode cX3_forth 8 = .ok (.bipush 10, 2) := by decide +kernel
theorem dX3_forth_10 : decode cX3_forth 10 = .ok (.if_icmp .gt 99, 3) := by decide +kernel
theorem dX3_forth_13 : decode cX3_forth 13 = .ok (.iconst 0, 1) := by decide +kernel
theorem dX3_forth_14 : decode cX3_forth 14 = .ok (.istore_n 2, 1) := by decide +kernel
theorem dX3_forth_15 : decode cX3_forth 15 = .ok (.iload_n 2, 1) := by decide +kernel
theorem dX3_forth_16 : decode cX3_forth 16 = .ok (.bipush 16, 2) := by decide +kernel
theorem dX3_forth_18 : decode cX3_forth 18 = .ok (.if_icmp .ge 40, 3) := by decide +kernel
theorem dX3_forth_21 : decode cX3_forth 21 = .ok (.aload_n 0, 1) := by decide +kernel
theorem dX3_forth_22 : decode cX3_forth 22 = .ok (.getfield 34, 3) := by decide +kernel
theorem dX3_forth_25 : decode cX3_forth 25 = .ok (.iload_n 2, 1) := by decide +kernel
theorem dX3_forth_26 : decode cX3_forth 26 = .ok (.aload_n 0, 1) := by decide +kernel
theorem dX3_forth_27 : decode cX3_forth 27 = .ok (.getfield 19, 3) := by decide +kernel
theorem dX3_forth_30 : decode cX3_forth 30 = .ok (.aload_n 0, 1) := by decide +kernel
theorem dX3_forth_31 : decode cX3_forth 31 = .ok (.getfield 31, 3) := by decide +kernel
theorem dX3_forth_34 : decode cX3_forth 34 = .ok (.iload_n 2, 1) := by decide +kernel
theorem dX3_forth_35 : decode cX3_forth 35 = .ok (.iconst 4, 1) := by decide +kernel
theorem dX3_forth_36 : decode cX3_forth 36 = .ok (.idiv, 1) := by decide +kernel
theorem dX3_forth_37 : decode cX3_forth 37 = .ok (.iload_n 2, 1) := by decide +kernel
theorem dX3_forth_38 : decode cX3_forth 38 = .ok (.iconst 4, 1) := by decide +kernel
theorem dX3_forth_39 : decode cX3_forth 39 = .ok (.irem, 1) := by decide +kernel
theorem dX3_forth_40 : decode cX3_forth 40 = .ok (.iadd, 1) := by decide +kernel
theorem dX3_forth_41 : decode cX3_forth 41 = .ok (.iconst 4, 1) := by decide +kernel
theorem dX3_forth_42 : decode cX3_forth 42 = .ok (.irem, 1) := by decide +kernel
theorem dX3_forth_43 : decode cX3_forth 43 = .ok (.iconst 4, 1) := by decide +kernel
theorem dX3_forth_44 : decode cX3_forth 44 = .ok (.imul, 1) := by decide +kernel
theorem dX3_forth_45 : decode cX3_forth 45 = .ok (.iload_n 2, 1) := by decide +kernel
theorem dX3_forth_46 : decode cX3_forth 46 = .ok (.iconst 4, 1) := by decide +kernel
theorem dX3_forth_47 : decode cX3_forth 47 = .ok (.irem, 1) := by decide +kernel
theorem dX3_forth_48 : decode cX3_forth 48 = .ok (.iadd, 1) := by decide +kernel
theorem dX3_forth_49 : decode cX3_forth 49 = .ok (.iaload, 1) := by decide +kernel
theorem dX3_forth_50 : decode cX3_forth 50 = .ok (.iaload, 1) := by decide +kernel
theorem dX3_forth_51 : decode cX3_forth 51 = .ok (.iastore, 1) := by decide +kernel
theorem dX3_forth_52 : decode cX3_forth 52 = .ok (.iinc 2 1, 3) := by decide +kernel
theorem dX3_forth_55 : decode cX3_forth 55 = .ok (.goto (-40), 3) := by decide +kernel
theorem dX3_forth_58 : decode cX3_forth 58 = .ok (.iconst 0, 1) := by decide +kernel
theorem dX3_forth_59 : decode cX3_forth 59 = .ok (.istore_n 2, 1) := by decide +kernel
theorem dX3_forth_60 : decode cX3_forth 60 = .ok (.iload_n 2, 1) := by decide +kernel
theorem dX3_forth_61 : decode cX3_forth 61 = .ok (.bipush 16, 2) := by decide +kernel
theorem dX3_forth_63 : decode cX3_forth 63 = .ok (.if_icmp .ge 21, 3) := by decide +kernel
theorem dX3_forth_66 : decode cX3_forth 66 = .ok (.aload_n 0, 1) := by decide +kernel
theorem dX3_forth_67 : decode cX3_forth 67 = .ok (.getfield 31, 3) := by decide +kernel
theorem dX3_forth_70 : decode cX3_forth 70 = .ok (.iload_n 2, 1) := by decide +kernel
theorem dX3_forth_71 : decode cX3_forth 71 = .ok (.aload_n 0, 1) := by decide +kernel
theorem dX3_forth_72 : decode cX3_forth 72 = .ok (.getfield 34, 3) := by decide +kernel
theorem dX3_forth_75 : decode cX3_forth 75 = .ok (.iload_n 2, 1) := by decide +kernel
theorem dX3_forth_76 : decode cX3_forth 76 = .ok (.iaload, 1) := by decide +kernel
theorem dX3_forth_77 : decode cX3_forth 77 = .ok (.iastore, 1) := by decide +kernel
theorem dX3_forth_78 : decode cX3_forth 78 = .ok (.iinc 2 1, 3) := by decide +kernel
theorem dX3_forth_81 : decode cX3_forth 81 = .ok (.goto (-21), 3) := by decide +kernel
theorem dX3_forth_84 : decode cX3_forth 84 = .ok (.iload_n 1, 1) := by decide +kernel
theorem dX3_forth_85 : decode cX3_forth 85 = .ok (.bipush 10, 2) := by decide +kernel
theorem dX3_forth_87 : decode cX3_forth 87 = .ok (.if_icmp .ge 11, 3) := by decide +kernel
theorem dX3_forth_90 : decode cX3_forth 90 = .ok (.aload_n 0, 1) := by decide +kernel
theorem dX3_forth_91 : decode cX3_forth 91 = .ok (.iconst 2, 1) := by decide +kernel
theorem dX3_forth_92 : decode cX3_forth 92 = .ok (.iconst 3, 1) := by decide +kernel
theorem dX3_forth_93 : decode cX3_forth 93 = .ok (.iconst 1, 1) := by decide +kernel
theorem dX3_forth_94 : decode cX3_forth 94 = .ok (.iconst 1, 1) := by decide +kernel
theorem dX3_forth_95 : decode cX3_forth 95 = .ok (.invokevirtual 73, 3) := by decide +kernel
theorem dX3_forth_98 : decode cX3_forth 98 = .ok (.aload_n 0, 1) := by decide +kernel
theorem dX3_forth_99 : decode cX3_forth 99 = .ok (.iload_n 1, 1) := by decide +kernel
theorem dX3_forth_100 : decode cX3_forth 100 = .ok (.invokevirtual 69, 3) := by decide +kernel
theorem dX3_forth_103 : decode cX3_forth 103 = .ok (.iinc 1 1, 3) := by decide +kernel
theorem dX3_forth_106 : decode cX3_forth 106 = .ok (.goto (-99), 3) := by decide +kernel
theorem dX3_forth_109 : decode cX3_forth 109 = .ok (.return_, 1) := by decide +kernel
theorem dX3_back_0 : decode cX3_back 0 = .ok (.bipush 10, 2) := by decide +kernel
theorem dX3_back_2 : decode cX3_back 2 = .ok (.istore_n 1, 1) := by decide +kernel
theorem dX3_back_3 : decode cX3_back 3 = .ok (.iload_n 1, 1) := by decide +kernel
theorem dX3_back_4 : decode cX3_back 4 = .ok (.ifCond .le 103, 3) := by decide +kernel
theorem dX3_back_7 : decode cX3_back 7 = .ok (.aload_n 0, 1) := by decide +kernel
theorem dX3_back_8 : decode cX3_back 8 = .ok (.iload_n 1, 1) := by decide +kernel
theorem dX3_back_9 : decode cX3_back 9 = .ok (.invokevirtual 69, 3) := by decide +kernel
theorem dX3_back_12 : decode cX3_back 12 = .ok (.iload_n 1, 1) := by decide +kernel
theorem dX3_back_13 : decode cX3_back 13 = .ok (.bipush 10, 2) := by decide +kernel
theorem dX3_back_15 : decode cX3_back 15 = .ok (.if_icmp .ge 15, 3) := by decide +kernel
theorem dX3_back_18 : decode cX3_back 18 = .ok (.aload_n 0, 1) := by decide +kernel
theorem dX3_back_19 : decode cX3_back 19 = .ok (.bipush 14, 2) := by decide +kernel
theorem dX3_back_21 : decode cX3_back 21 = .ok (.bipush 11, 2) := by decide +kernel
theorem dX3_back_23 : decode cX3_back 23 = .ok (.bipush 13, 2) := by decide +kernel
theorem dX3_back_25 : decode cX3_back 25 = .ok (.bipush 9, 2) := by decide +kernel
theorem dX3_back_27 : decode cX3_back 27 = .ok (.invokevirtual 73, 3) := by decide +kernel
theorem dX3_back_30 : decode cX3_back 30 = .ok (.iconst 0, 1) := by decide +kernel
theorem dX3_back_31 : decode cX3_back 31 = .ok (.istore_n 2, 1) := by decide +kernel
theorem dX3_back_32 : decode cX3_back 32 = .ok (.iload_n 2, 1) := by decide +kernel
theorem dX3_back_33 : decode cX3_back 33 = .ok (.bipush 16, 2) := by decide +kernel
theorem dX3_back_35 : decode cX3_back 35 = .ok (.if_icmp .ge 40, 3) := by decide +kernel
theorem dX3_back_38 : decode cX3_back 38 = .ok (.aload_n 0, 1) := by decide +kernel
theorem dX3_back_39 : decode cX3_back 39 = .ok (.getfield 34, 3) := by decide +kernel
theorem dX3_back_42 : decode cX3_back 42 = .ok (.iload_n 2, 1) := by decide +kernel
theorem dX3_back_43 : decode cX3_back 43 = .ok (.iconst 4, 1) := by decide +kernel
theorem dX3_back_44 : decode cX3_back 44 = .ok (.idiv, 1) := by decide +kernel
theorem dX3_back_45 : decode cX3_back 45 = .ok (.iload_n 2, 1) := by decide +kernel
theorem dX3_back_46 : decode cX3_back 46 = .ok (.iconst 4, 1) := by decide +kernel
theorem dX3_back_47 : decode cX3_back 47 = .ok (.irem, 1) := by decide +kernel
theorem dX3_back_48 : decode cX3_back 48 = .ok (.iadd, 1) := by decide +kernel
theorem dX3_back_49 : decode cX3_back 49 = .ok (.iconst 4, 1) := by decide +kernel
theorem dX3_back_50 : decode cX3_back 50 = .ok (.irem, 1) := by decide +kernel
theorem dX3_back_51 : decode cX3_back 51 = .ok (.iconst 4, 1) := by decide +kernel
theorem dX3_back_52 : decode cX3_back 52 = .ok (.imul, 1) := by decide +kernel
theorem dX3_back_53 : decode cX3_back 53 = .ok (.iload_n 2, 1) := by decide +kernel
theorem dX3_back_54 : decode cX3_back 54 = .ok (.iconst 4, 1) := by decide +kernel
theorem dX3_back_55 : decode cX3_back 55 = .ok (.irem, 1) := by decide +kernel
theorem dX3_back_56 : decode cX3_back 56 = .ok (.iadd, 1) := by decide +kernel
theorem dX3_back_57 : decode cX3_back 57 = .ok (.aload_n 0, 1) := by decide +kernel
theorem dX3_back_58 : decode cX3_back 58 = .ok (.getfield 22, 3) := by decide +kernel
theorem dX3_back_61 : decode cX3_back 61 = .ok (.aload_n 0, 1) := by decide +kernel
theorem dX3_back_62 : decode cX3_back 62 = .ok (.getfield 31, 3) := by decide +kernel
theorem dX3_back_65 : decode cX3_back 65 = .ok (.iload_n 2, 1) := by decide +kernel
theorem dX3_back_66 : decode cX3_back 66 = .ok (.iaload, 1) := by decide +kernel
theorem dX3_back_67 : decode cX3_back 67 = .ok (.iaload, 1) := by decide +kernel
theorem dX3_back_68 : decode cX3_back 68 = .ok (.iastore, 1) := by decide +kernel
theorem dX3_back_69 : decode cX3_back 69 = .ok (.iinc 2 1, 3) := by decide +kernel
theorem dX3_back_72 : decode cX3_back 72 = .ok (.goto (-40), 3) := by decide +kernel
theorem dX3_back_75 : decode cX3_back 75 = .ok (.iconst 0, 1) := by decide +kernel
theorem dX3_back_76 : decode cX3_back 76 = .ok (.istore_n 2, 1) := by decide +kernel
theorem dX3_back_77 : decode cX3_back 77 = .ok (.iload_n 2, 1) := by decide +kernel
theorem dX3_back_78 : decode cX3_back 78 = .ok (.bipush 16, 2) := by decide +kernel
theorem dX3_back_80 : decode cX3_back 80 = .ok (.if_icmp .ge 21, 3) := by decide +kernel
theorem dX3_back_83 : decode cX3_back 83 = .ok (.aload_n 0, 1) := by decide +kernel
theorem dX3_back_84 : decode cX3_back 84 = .ok (.getfield 31, 3) := by decide +kernel
theorem dX3_back_87 : decode cX3_back 87 = .ok (.iload_n 2, 1) := by decide +kernel
theorem dX3_back_88 : decode cX3_back 88 = .ok (.aload_n 0, 1) := by decide +kernel
theorem dX3_back_89 : decode cX3_back 89 = .ok (.getfield 34, 3) := by decide +kernel
theorem dX3_back_92 : decode cX3_back 92 = .ok (.iload_n 2, 1) := by decide +kernel
theorem dX3_back_93 : decode cX3_back 93 = .ok (.iaload, 1) := by decide +kernel
theorem dX3_back_94 : decode cX3_back 94 = .ok (.iastore, 1) := by decide +kernel
theorem dX3_back_95 : decode cX3_back 95 = .ok (.iinc 2 1, 3) := by decide +kernel
theorem dX3_back_98 : decode cX3_back 98 = .ok (.goto (-21), 3) := by decide +kernel
theorem dX3_back_101 : decode cX3_back 101 = .ok (.iinc 1 (-1), 3) := by decide +kernel
theorem dX3_back_104 : decode cX3_back 104 = .ok (.goto (-101), 3) := by decide +kernel
theorem dX3_back_107 : decode cX3_back 107 = .ok (.aload_n 0, 1) := by decide +kernel
theorem dX3_back_108 : decode cX3_back 108 = .ok (.iconst 0, 1) := by decide +kernel
theorem dX3_back_109 : decode cX3_back 109 = .ok (.invokevirtual 69, 3) := by decide +kernel
theorem dX3_back_112 : decode cX3_back 112 = .ok (.return_, 1) := by decide +kernel
theorem dX3_twice_0 : decode cX3_twice 0 = .ok (.iconst 0, 1) := by decide +kernel
theorem dX3_twice_1 : decode cX3_twice 1 = .ok (.istore_n 2, 1) := by decide +kernel
theorem dX3_twice_2 : decode cX3_twice 2 = .ok (.bipush 15, 2) := by decide +kernel
theorem dX3_twice_4 : decode cX3_twice 4 = .ok (.istore_n 3, 1) := by decide +kernel
theorem dX3_twice_5 : decode cX3_twice 5 = .ok (.iload_n 3, 1) := by decide +kernel
theorem dX3_twice_6 : decode cX3_twice 6 = .ok (.ifCond .lt 58, 3) := by decide +kernel
theorem dX3_twice_9 : decode cX3_twice 9 = .ok (.iconst 2, 1) := by decide +kernel
theorem dX3_twice_10 : decode cX3_twice 10 = .ok (.iload_n 1, 1) := by decide +kernel
theorem dX3_twice_11 : decode cX3_twice 11 = .ok (.ifCond .ne 12, 3) := by decide +kernel
theorem dX3_twice_14 : decode cX3_twice 14 = .ok (.aload_n 0, 1) := by decide +kernel
theorem dX3_twice_15 : decode cX3_twice 15 = .ok (.getfield 31, 3) := by decide +kernel
theorem dX3_twice_18 : decode cX3_twice 18 = .ok (.iload_n 3, 1) := by decide +kernel
theorem dX3_twice_19 : decode cX3_twice 19 = .ok (.iaload, 1) := by decide +kernel
theorem dX3_twice_20 : decode cX3_twice 20 = .ok (.goto 9, 3) := by decide +kernel
theorem dX3_twice_23 : decode cX3_twice 23 = .ok (.aload_n 0, 1) := by decide +kernel
theorem dX3_twice_24 : decode cX3_twice 24 = .ok (.getfield 28, 3) := by decide +kernel
theorem dX3_twice_27 : decode cX3_twice 27 = .ok (.iload_n 3, 1) := by decide +kernel
theorem dX3_twice_28 : decode cX3_twice 28 = .ok (.iaload, 1) := by decide +kernel
theorem dX3_twice_29 : decode cX3_twice 29 = .ok (.imul, 1) := by decide +kernel
theorem dX3_twice_30 : decode cX3_twice 30 = .ok (.iload_n 2, 1) := by decide +kernel
theorem dX3_twice_31 : decode cX3_twice 31 = .ok (.iadd, 1) := by decide +kernel
theorem dX3_twice_32 : decode cX3_twice 32 = .ok (.istore 4, 2) := by decide +kernel
theorem dX3_twice_34 : decode cX3_twice 34 = .ok (.aload_n 0, 1) := by decide +kernel
theorem dX3_twice_35 : decode cX3_twice 35 = .ok (.getfield 28, 3) := by decide +kernel
theorem dX3_twice_38 : decode cX3_twice 38 = .ok (.bipush 16, 2) := by decide +kernel
theorem dX3_twice_40 : decode cX3_twice 40 = .ok (.iload_n 1, 1) := by decide +kernel
theorem dX3_twice_41 : decode cX3_twice 41 = .ok (.imul, 1) := by decide +kernel
theorem dX3_twice_42 : decode cX3_twice 42 = .ok (.iload_n 3, 1) := by decide +kernel
theorem dX3_twice_43 : decode cX3_twice 43 = .ok (.iadd, 1) := by decide +kernel
theorem dX3_twice_44 : decode cX3_twice 44 = .ok (.iload 4, 2) := by decide +kernel
theorem dX3_twice_46 : decode cX3_twice 46 = .ok (.sipush 256, 3) := by decide +kernel
theorem dX3_twice_49 : decode cX3_twice 49 = .ok (.irem, 1) := by decide +kernel
theorem dX3_twice_50 : decode cX3_twice 50 = .ok (.iastore, 1) := by decide +kernel
theorem dX3_twice_51 : decode cX3_twice 51 = .ok (.iload 4, 2) := by decide +kernel
theorem dX3_twice_53 : decode cX3_twice 53 = .ok (.sipush 256, 3) := by decide +kernel
theorem dX3_twice_56 : decode cX3_twice 56 = .ok (.idiv, 1) := by decide +kernel
theorem dX3_twice_57 : decode cX3_twice 57 = .ok (.istore_n 2, 1) := by decide +kernel
theorem dX3_twice_58 : decode cX3_twice 58 = .ok (.iinc 3 (-1), 3) := by decide +kernel
theorem dX3_twice_61 : decode cX3_twice 61 = .ok (.goto (-56), 3) := by decide +kernel
theorem dX3_twice_64 : decode cX3_twice 64 = .ok (.aload_n 0, 1) := by decide +kernel
theorem dX3_twice_65 : decode cX3_twice 65 = .ok (.getfield 28, 3) := by decide +kernel
theorem dX3_twice_68 : decode cX3_twice 68 = .ok (.bipush 16, 2) := by decide +kernel
theorem dX3_twice_70 : decode cX3_twice 70 = .ok (.iload_n 1, 1) := by decide +kernel
theorem dX3_twice_71 : decode cX3_twice 71 = .ok (.imul, 1) := by decide +kernel
theorem dX3_twice_72 : decode cX3_twice 72 = .ok (.bipush 15, 2) := by decide +kernel
theorem dX3_twice_74 : decode cX3_twice 74 = .ok (.iadd, 1) := by decide +kernel
theorem dX3_twice_75 : decode cX3_twice 75 = .ok (.aload_n 0, 1) := by decide +kernel
theorem dX3_twice_76 : decode cX3_twice 76 = .ok (.getfield 28, 3) := by decide +kernel
theorem dX3_twice_79 : decode cX3_twice 79 = .ok (.bipush 16, 2) := by decide +kernel
theorem dX3_twice_81 : decode cX3_twice 81 = .ok (.iload_n 1, 1) := by decide +kernel
theorem dX3_twice_82 : decode cX3_twice 82 = .ok (.imul, 1) := by decide +kernel
theorem dX3_twice_83 : decode cX3_twice 83 = .ok (.bipush 15, 2) := by decide +kernel
theorem dX3_twice_85 : decode cX3_twice 85 = .ok (.iadd, 1) := by decide +kernel
theorem dX3_twice_86 : decode cX3_twice 86 = .ok (.iaload, 1) := by decide +kernel
theorem dX3_twice_87 : decode cX3_twice 87 = .ok (.sipush 135, 3) := by decide +kernel
theorem dX3_twice_90 : decode cX3_twice 90 = .ok (.iload_n 2, 1) := by decide +kernel
theorem dX3_twice_91 : decode cX3_twice 91 = .ok (.imul, 1) := by decide +kernel
theorem dX3_twice_92 : decode cX3_twice 92 = .ok (.ixor, 1) := by decide +kernel
theorem dX3_twice_93 : decode cX3_twice 93 = .ok (.iastore, 1) := by decide +kernel
theorem dX3_twice_94 : decode cX3_twice 94 = .ok (.return_, 1) := by decide +kernel
theorem dX3_expand_0 : decode cX3_expand 0 = .ok (.aload_n 0, 1) := by decide +kernel
theorem dX3_expand_1 : decode cX3_expand 1 = .ok (.iconst 0, 1) := by decide +kernel
theorem dX3_expand_2 : decode cX3_expand 2 = .ok (.putfield 51, 3) := by decide +kernel
theorem dX3_expand_5 : decode cX3_expand 5 = .ok (.aload_n 0, 1) := by decide +kernel
theorem dX3_expand_6 : decode cX3_expand 6 = .ok (.getfield 55, 3) := by decide +kernel
theorem dX3_expand_9 : decode cX3_expand 9 = .ok (.ifCond .ne 5, 3) := by decide +kernel
theorem dX3_expand_12 : decode cX3_expand 12 = .ok (.iconst 0, 1) := by decide +kernel
theorem dX3_expand_13 : decode cX3_expand 13 = .ok (.ireturn, 1) := by decide +kernel
theorem dX3_expand_14 : decode cX3_expand 14 = .ok (.aload_n 0, 1) := by decide +kernel
theorem dX3_expand_15 : decode cX3_expand 15 = .ok (.invokevirtual 77, 3) := by decide +kernel
theorem dX3_expand_18 : decode cX3_expand 18 = .ok (.iconst 0, 1) := by decide +kernel
theorem dX3_expand_19 : decode cX3_expand 19 = .ok (.istore_n 1, 1) := by decide +kernel
theorem dX3_expand_20 : decode cX3_expand 20 = .ok (.iload_n 1, 1) := by decide +kernel
theorem dX3_expand_21 : decode cX3_expand 21 = .ok (.bipush 16, 2) := by decide +kernel
theorem dX3_expand_23 : decode cX3_expand 23 = .ok (.if_icmp .ge 16, 3) := by decide +kernel
theorem dX3_expand_26 : decode cX3_expand 26 = .ok (.aload_n 0, 1) := by decide +kernel
theorem dX3_expand_27 : decode cX3_expand 27 = .ok (.getfield 31, 3) := by decide +kernel
theorem dX3_expand_30 : decode cX3_expand 30 = .ok (.iload_n 1, 1) := by decide +kernel
theorem dX3_expand_31 : decode cX3_expand 31 = .ok (.iconst 0, 1) := by decide +kernel
theorem dX3_expand_32 : decode cX3_expand 32 = .ok (.iastore, 1) := by decide +kernel
theorem dX3_expand_33 : decode cX3_expand 33 = .ok (.iinc 1 1, 3) := by decide +kernel
theorem dX3_expand_36 : decode cX3_expand 36 = .ok (.goto (-16), 3) := by decide +kernel
theorem dX3_expand_39 : decode cX3_expand 39 = .ok (.aload_n 0, 1) := by decide +kernel
theorem dX3_expand_40 : decode cX3_expand 40 = .ok (.invokevirtual 80, 3) := by decide +kernel
theorem dX3_expand_43 : decode cX3_expand 43 = .ok (.aload_n 0, 1) := by decide +kernel
theorem dX3_expand_44 : decode cX3_expand 44 = .ok (.iconst 0, 1) := by decide +kernel
theorem dX3_expand_45 : decode cX3_expand 45 = .ok (.invokevirtual 83, 3) := by decide +kernel
theorem dX3_expand_48 : decode cX3_expand 48 = .ok (.aload_n 0, 1) := by decide +kernel
theorem dX3_expand_49 : decode cX3_expand 49 = .ok (.iconst 1, 1) := by decide +kernel
theorem dX3_expand_50 : decode cX3_expand 50 = .ok (.invokevirtual 83, 3) := by decide +kernel
theorem dX3_expand_53 : decode cX3_expand 53 = .ok (.aload_n 0, 1) := by decide +kernel
theorem dX3_expand_54 : decode cX3_expand 54 = .ok (.iconst 1, 1) := by decide +kernel
theorem dX3_expand_55 : decode cX3_expand 55 = .ok (.putfield 59, 3) := by decide +kernel
theorem dX3_expand_58 : decode cX3_expand 58 = .ok (.aload_n 0, 1) := by decide +kernel
theorem dX3_expand_59 : decode cX3_expand 59 = .ok (.iconst 0, 1) := by decide +kernel
theorem dX3_expand_60 : decode cX3_expand 60 = .ok (.putfield 62, 3) := by decide +kernel
theorem dX3_expand_63 : decode cX3_expand 63 = .ok (.iconst 1, 1) := by decide +kernel
theorem dX3_expand_64 : decode cX3_expand 64 = .ok (.ireturn, 1) := by decide +kernel
theorem dX3_macStart_0 : decode cX3_macStart 0 = .ok (.aload_n 0, 1) := by decide +kernel
theorem dX3_macStart_1 : decode cX3_macStart 1 = .ok (.iconst 0, 1) := by decide +kernel
theorem dX3_macStart_2 : decode cX3_macStart 2 = .ok (.putfield 51, 3) := by decide +kernel
theorem dX3_macStart_5 : decode cX3_macStart 5 = .ok (.aload_n 0, 1) := by decide +kernel
theorem dX3_macStart_6 : decode cX3_macStart 6 = .ok (.getfield 59, 3) := by decide +kernel
theorem dX3_macStart_9 : decode cX3_macStart 9 = .ok (.ifCond .ne 5, 3) := by decide +kernel
theorem dX3_macStart_12 : decode cX3_macStart 12 = .ok (.iconst 0, 1) := by decide +kernel
theorem dX3_macStart_13 : decode cX3_macStart 13 = .ok (.ireturn, 1) := by decide +kernel
theorem dX3_macStart_14 : decode cX3_macStart 14 = .ok (.iconst 0, 1) := by decide +kernel
theorem dX3_macStart_15 : decode cX3_macStart 15 = .ok (.istore_n 1, 1) := by decide +kernel
theorem dX3_macStart_16 : decode cX3_macStart 16 = .ok (.iload_n 1, 1) := by decide +kernel
theorem dX3_macStart_17 : decode cX3_macStart 17 = .ok (.bipush 16, 2) := by decide +kernel
theorem dX3_macStart_19 : decode cX3_macStart 19 = .ok (.if_icmp .ge 16, 3) := by decide +kernel
theorem dX3_macStart_22 : decode cX3_macStart 22 = .ok (.aload_n 0, 1) := by decide +kernel
theorem dX3_macStart_23 : decode cX3_macStart 23 = .ok (.getfield 37, 3) := by decide +kernel
theorem dX3_macStart_26 : decode cX3_macStart 26 = .ok (.iload_n 1, 1) := by decide +kernel
theorem dX3_macStart_27 : decode cX3_macStart 27 = .ok (.iconst 0, 1) := by decide +kernel
theorem dX3_macStart_28 : decode cX3_macStart 28 = .ok (.iastore, 1) := by decide +kernel
theorem dX3_macStart_29 : decode cX3_macStart 29 = .ok (.iinc 1 1, 3) := by decide +kernel
theorem dX3_macStart_32 : decode cX3_macStart 32 = .ok (.goto (-16), 3) := by decide +kernel
theorem dX3_macStart_35 : decode cX3_macStart 35 = .ok (.aload_n 0, 1) := by decide +kernel
theorem dX3_macStart_36 : decode cX3_macStart 36 = .ok (.iconst 0, 1) := by decide +kernel
