theorem dX3_macStart_37 : decode cX3_macStart 37 = .ok (.putfield 86, 3) := by decide +kernel
theorem dX3_macStart_40 : decode cX3_macStart 40 = .ok (.aload_n 0, 1) := by decide +kernel
theorem dX3_macStart_41 : decode cX3_macStart 41 = .ok (.iconst 1, 1) := by decide +kernel
theorem dX3_macStart_42 : decode cX3_macStart 42 = .ok (.putfield 62, 3) := by decide +kernel
theorem dX3_macStart_45 : decode cX3_macStart 45 = .ok (.iconst 1, 1) := by decide +kernel
theorem dX3_macStart_46 : decode cX3_macStart 46 = .ok (.ireturn, 1) := by decide +kernel
theorem dX3_take_0 : decode cX3_take 0 = .ok (.iconst 0, 1) := by decide +kernel
theorem dX3_take_1 : decode cX3_take 1 = .ok (.istore_n 1, 1) := by decide +kernel
theorem dX3_take_2 : decode cX3_take 2 = .ok (.iload_n 1, 1) := by decide +kernel
theorem dX3_take_3 : decode cX3_take 3 = .ok (.bipush 16, 2) := by decide +kernel
theorem dX3_take_5 : decode cX3_take 5 = .ok (.if_icmp .ge 28, 3) := by decide +kernel
theorem dX3_take_8 : decode cX3_take 8 = .ok (.aload_n 0, 1) := by decide +kernel
theorem dX3_take_9 : decode cX3_take 9 = .ok (.getfield 31, 3) := by decide +kernel
theorem dX3_take_12 : decode cX3_take 12 = .ok (.iload_n 1, 1) := by decide +kernel
theorem dX3_take_13 : decode cX3_take 13 = .ok (.aload_n 0, 1) := by decide +kernel
theorem dX3_take_14 : decode cX3_take 14 = .ok (.getfield 37, 3) := by decide +kernel
theorem dX3_take_17 : decode cX3_take 17 = .ok (.iload_n 1, 1) := by decide +kernel
theorem dX3_take_18 : decode cX3_take 18 = .ok (.iaload, 1) := by decide +kernel
theorem dX3_take_19 : decode cX3_take 19 = .ok (.aload_n 0, 1) := by decide +kernel
theorem dX3_take_20 : decode cX3_take 20 = .ok (.getfield 40, 3) := by decide +kernel
theorem dX3_take_23 : decode cX3_take 23 = .ok (.iload_n 1, 1) := by decide +kernel
theorem dX3_take_24 : decode cX3_take 24 = .ok (.iaload, 1) := by decide +kernel
theorem dX3_take_25 : decode cX3_take 25 = .ok (.ixor, 1) := by decide +kernel
theorem dX3_take_26 : decode cX3_take 26 = .ok (.iastore, 1) := by decide +kernel
theorem dX3_take_27 : decode cX3_take 27 = .ok (.iinc 1 1, 3) := by decide +kernel
theorem dX3_take_30 : decode cX3_take 30 = .ok (.goto (-28), 3) := by decide +kernel
theorem dX3_take_33 : decode cX3_take 33 = .ok (.aload_n 0, 1) := by decide +kernel
theorem dX3_take_34 : decode cX3_take 34 = .ok (.invokevirtual 80, 3) := by decide +kernel
theorem dX3_take_37 : decode cX3_take 37 = .ok (.iconst 0, 1) := by decide +kernel
theorem dX3_take_38 : decode cX3_take 38 = .ok (.istore_n 1, 1) := by decide +kernel
theorem dX3_take_39 : decode cX3_take 39 = .ok (.iload_n 1, 1) := by decide +kernel
theorem dX3_take_40 : decode cX3_take 40 = .ok (.bipush 16, 2) := by decide +kernel
theorem dX3_take_42 : decode cX3_take 42 = .ok (.if_icmp .ge 21, 3) := by decide +kernel
theorem dX3_take_45 : decode cX3_take 45 = .ok (.aload_n 0, 1) := by decide +kernel
theorem dX3_take_46 : decode cX3_take 46 = .ok (.getfield 37, 3) := by decide +kernel
theorem dX3_take_49 : decode cX3_take 49 = .ok (.iload_n 1, 1) := by decide +kernel
theorem dX3_take_50 : decode cX3_take 50 = .ok (.aload_n 0, 1) := by decide +kernel
theorem dX3_take_51 : decode cX3_take 51 = .ok (.getfield 31, 3) := by decide +kernel
theorem dX3_take_54 : decode cX3_take 54 = .ok (.iload_n 1, 1) := by decide +kernel
theorem dX3_take_55 : decode cX3_take 55 = .ok (.iaload, 1) := by decide +kernel
theorem dX3_take_56 : decode cX3_take 56 = .ok (.iastore, 1) := by decide +kernel
theorem dX3_take_57 : decode cX3_take 57 = .ok (.iinc 1 1, 3) := by decide +kernel
theorem dX3_take_60 : decode cX3_take 60 = .ok (.goto (-21), 3) := by decide +kernel
theorem dX3_take_63 : decode cX3_take 63 = .ok (.aload_n 0, 1) := by decide +kernel
theorem dX3_take_64 : decode cX3_take 64 = .ok (.iconst 0, 1) := by decide +kernel
theorem dX3_take_65 : decode cX3_take 65 = .ok (.putfield 86, 3) := by decide +kernel
theorem dX3_take_68 : decode cX3_take 68 = .ok (.return_, 1) := by decide +kernel
theorem dX3_feed_0 : decode cX3_feed 0 = .ok (.aload_n 0, 1) := by decide +kernel
theorem dX3_feed_1 : decode cX3_feed 1 = .ok (.getfield 86, 3) := by decide +kernel
theorem dX3_feed_4 : decode cX3_feed 4 = .ok (.bipush 16, 2) := by decide +kernel
theorem dX3_feed_6 : decode cX3_feed 6 = .ok (.if_icmp .ne 7, 3) := by decide +kernel
theorem dX3_feed_9 : decode cX3_feed 9 = .ok (.aload_n 0, 1) := by decide +kernel
theorem dX3_feed_10 : decode cX3_feed 10 = .ok (.invokevirtual 89, 3) := by decide +kernel
theorem dX3_feed_13 : decode cX3_feed 13 = .ok (.aload_n 0, 1) := by decide +kernel
theorem dX3_feed_14 : decode cX3_feed 14 = .ok (.getfield 40, 3) := by decide +kernel
theorem dX3_feed_17 : decode cX3_feed 17 = .ok (.aload_n 0, 1) := by decide +kernel
theorem dX3_feed_18 : decode cX3_feed 18 = .ok (.getfield 86, 3) := by decide +kernel
theorem dX3_feed_21 : decode cX3_feed 21 = .ok (.iload_n 1, 1) := by decide +kernel
theorem dX3_feed_22 : decode cX3_feed 22 = .ok (.iastore, 1) := by decide +kernel
theorem dX3_feed_23 : decode cX3_feed 23 = .ok (.aload_n 0, 1) := by decide +kernel
theorem dX3_feed_24 : decode cX3_feed 24 = .ok (.dup, 1) := by decide +kernel
theorem dX3_feed_25 : decode cX3_feed 25 = .ok (.getfield 86, 3) := by decide +kernel
theorem dX3_feed_28 : decode cX3_feed 28 = .ok (.iconst 1, 1) := by decide +kernel
theorem dX3_feed_29 : decode cX3_feed 29 = .ok (.iadd, 1) := by decide +kernel
theorem dX3_feed_30 : decode cX3_feed 30 = .ok (.putfield 86, 3) := by decide +kernel
theorem dX3_feed_33 : decode cX3_feed 33 = .ok (.return_, 1) := by decide +kernel
theorem dX3_macUpdate_0 : decode cX3_macUpdate 0 = .ok (.aload_n 0, 1) := by decide +kernel
theorem dX3_macUpdate_1 : decode cX3_macUpdate 1 = .ok (.iconst 0, 1) := by decide +kernel
theorem dX3_macUpdate_2 : decode cX3_macUpdate 2 = .ok (.putfield 51, 3) := by decide +kernel
theorem dX3_macUpdate_5 : decode cX3_macUpdate 5 = .ok (.aload_n 0, 1) := by decide +kernel
theorem dX3_macUpdate_6 : decode cX3_macUpdate 6 = .ok (.getfield 62, 3) := by decide +kernel
theorem dX3_macUpdate_9 : decode cX3_macUpdate 9 = .ok (.iconst 1, 1) := by decide +kernel
theorem dX3_macUpdate_10 : decode cX3_macUpdate 10 = .ok (.if_icmp .ne 13, 3) := by decide +kernel
theorem dX3_macUpdate_13 : decode cX3_macUpdate 13 = .ok (.iload_n 1, 1) := by decide +kernel
theorem dX3_macUpdate_14 : decode cX3_macUpdate 14 = .ok (.sipush 255, 3) := by decide +kernel
theorem dX3_macUpdate_17 : decode cX3_macUpdate 17 = .ok (.invokestatic 65, 3) := by decide +kernel
theorem dX3_macUpdate_20 : decode cX3_macUpdate 20 = .ok (.ifCond .ne 5, 3) := by decide +kernel
theorem dX3_macUpdate_23 : decode cX3_macUpdate 23 = .ok (.iconst 0, 1) := by decide +kernel
theorem dX3_macUpdate_24 : decode cX3_macUpdate 24 = .ok (.ireturn, 1) := by decide +kernel
theorem dX3_macUpdate_25 : decode cX3_macUpdate 25 = .ok (.aload_n 0, 1) := by decide +kernel
theorem dX3_macUpdate_26 : decode cX3_macUpdate 26 = .ok (.iload_n 1, 1) := by decide +kernel
theorem dX3_macUpdate_27 : decode cX3_macUpdate 27 = .ok (.invokevirtual 92, 3) := by decide +kernel
theorem dX3_macUpdate_30 : decode cX3_macUpdate 30 = .ok (.iconst 1, 1) := by decide +kernel
theorem dX3_macUpdate_31 : decode cX3_macUpdate 31 = .ok (.ireturn, 1) := by decide +kernel
theorem dX3_macFill_0 : decode cX3_macFill 0 = .ok (.aload_n 0, 1) := by decide +kernel
theorem dX3_macFill_1 : decode cX3_macFill 1 = .ok (.iconst 0, 1) := by decide +kernel
theorem dX3_macFill_2 : decode cX3_macFill 2 = .ok (.putfield 51, 3) := by decide +kernel
theorem dX3_macFill_5 : decode cX3_macFill 5 = .ok (.aload_n 0, 1) := by decide +kernel
theorem dX3_macFill_6 : decode cX3_macFill 6 = .ok (.getfield 62, 3) := by decide +kernel
theorem dX3_macFill_9 : decode cX3_macFill 9 = .ok (.iconst 1, 1) := by decide +kernel
theorem dX3_macFill_10 : decode cX3_macFill 10 = .ok (.if_icmp .ne 13, 3) := by decide +kernel
theorem dX3_macFill_13 : decode cX3_macFill 13 = .ok (.iload_n 1, 1) := by decide +kernel
theorem dX3_macFill_14 : decode cX3_macFill 14 = .ok (.sipush 10000, 3) := by decide +kernel
theorem dX3_macFill_17 : decode cX3_macFill 17 = .ok (.invokestatic 65, 3) := by decide +kernel
theorem dX3_macFill_20 : decode cX3_macFill 20 = .ok (.ifCond .ne 5, 3) := by decide +kernel
theorem dX3_macFill_23 : decode cX3_macFill 23 = .ok (.iconst 0, 1) := by decide +kernel
theorem dX3_macFill_24 : decode cX3_macFill 24 = .ok (.ireturn, 1) := by decide +kernel
theorem dX3_macFill_25 : decode cX3_macFill 25 = .ok (.iload_n 2, 1) := by decide +kernel
theorem dX3_macFill_26 : decode cX3_macFill 26 = .ok (.istore 4, 2) := by decide +kernel
theorem dX3_macFill_28 : decode cX3_macFill 28 = .ok (.iconst 0, 1) := by decide +kernel
theorem dX3_macFill_29 : decode cX3_macFill 29 = .ok (.istore 5, 2) := by decide +kernel
theorem dX3_macFill_31 : decode cX3_macFill 31 = .ok (.iload 5, 2) := by decide +kernel
theorem dX3_macFill_33 : decode cX3_macFill 33 = .ok (.iload_n 1, 1) := by decide +kernel
theorem dX3_macFill_34 : decode cX3_macFill 34 = .ok (.if_icmp .ge 25, 3) := by decide +kernel
theorem dX3_macFill_37 : decode cX3_macFill 37 = .ok (.aload_n 0, 1) := by decide +kernel
theorem dX3_macFill_38 : decode cX3_macFill 38 = .ok (.iload 4, 2) := by decide +kernel
theorem dX3_macFill_40 : decode cX3_macFill 40 = .ok (.sipush 255, 3) := by decide +kernel
theorem dX3_macFill_43 : decode cX3_macFill 43 = .ok (.iand, 1) := by decide +kernel
theorem dX3_macFill_44 : decode cX3_macFill 44 = .ok (.invokevirtual 92, 3) := by decide +kernel
theorem dX3_macFill_47 : decode cX3_macFill 47 = .ok (.iload 4, 2) := by decide +kernel
theorem dX3_macFill_49 : decode cX3_macFill 49 = .ok (.iload_n 3, 1) := by decide +kernel
theorem dX3_macFill_50 : decode cX3_macFill 50 = .ok (.iadd, 1) := by decide +kernel
theorem dX3_macFill_51 : decode cX3_macFill 51 = .ok (.istore 4, 2) := by decide +kernel
theorem dX3_macFill_53 : decode cX3_macFill 53 = .ok (.iinc 5 1, 3) := by decide +kernel
theorem dX3_macFill_56 : decode cX3_macFill 56 = .ok (.goto (-25), 3) := by decide +kernel
theorem dX3_macFill_59 : decode cX3_macFill 59 = .ok (.iconst 1, 1) := by decide +kernel
theorem dX3_macFill_60 : decode cX3_macFill 60 = .ok (.ireturn, 1) := by decide +kernel
theorem dX3_macFinish_0 : decode cX3_macFinish 0 = .ok (.aload_n 0, 1) := by decide +kernel
theorem dX3_macFinish_1 : decode cX3_macFinish 1 = .ok (.iconst 0, 1) := by decide +kernel
theorem dX3_macFinish_2 : decode cX3_macFinish 2 = .ok (.putfield 51, 3) := by decide +kernel
theorem dX3_macFinish_5 : decode cX3_macFinish 5 = .ok (.aload_n 0, 1) := by decide +kernel
theorem dX3_macFinish_6 : decode cX3_macFinish 6 = .ok (.getfield 62, 3) := by decide +kernel
theorem dX3_macFinish_9 : decode cX3_macFinish 9 = .ok (.iconst 1, 1) := by decide +kernel
theorem dX3_macFinish_10 : decode cX3_macFinish 10 = .ok (.if_icmp .eq 5, 3) := by decide +kernel
theorem dX3_macFinish_13 : decode cX3_macFinish 13 = .ok (.iconst 0, 1) := by decide +kernel
theorem dX3_macFinish_14 : decode cX3_macFinish 14 = .ok (.ireturn, 1) := by decide +kernel
theorem dX3_macFinish_15 : decode cX3_macFinish 15 = .ok (.aload_n 0, 1) := by decide +kernel
theorem dX3_macFinish_16 : decode cX3_macFinish 16 = .ok (.getfield 86, 3) := by decide +kernel
theorem dX3_macFinish_19 : decode cX3_macFinish 19 = .ok (.bipush 16, 2) := by decide +kernel
theorem dX3_macFinish_21 : decode cX3_macFinish 21 = .ok (.if_icmp .ne 7, 3) := by decide +kernel
theorem dX3_macFinish_24 : decode cX3_macFinish 24 = .ok (.iconst 0, 1) := by decide +kernel
theorem dX3_macFinish_25 : decode cX3_macFinish 25 = .ok (.goto 5, 3) := by decide +kernel
theorem dX3_macFinish_28 : decode cX3_macFinish 28 = .ok (.bipush 16, 2) := by decide +kernel
theorem dX3_macFinish_30 : decode cX3_macFinish 30 = .ok (.istore_n 1, 1) := by decide +kernel
theorem dX3_macFinish_31 : decode cX3_macFinish 31 = .ok (.aload_n 0, 1) := by decide +kernel
theorem dX3_macFinish_32 : decode cX3_macFinish 32 = .ok (.getfield 86, 3) := by decide +kernel
theorem dX3_macFinish_35 : decode cX3_macFinish 35 = .ok (.istore_n 2, 1) := by decide +kernel
theorem dX3_macFinish_36 : decode cX3_macFinish 36 = .ok (.iload_n 2, 1) := by decide +kernel
theorem dX3_macFinish_37 : decode cX3_macFinish 37 = .ok (.bipush 16, 2) := by decide +kernel
theorem dX3_macFinish_39 : decode cX3_macFinish 39 = .ok (.if_icmp .ge 30, 3) := by decide +kernel
theorem dX3_macFinish_42 : decode cX3_macFinish 42 = .ok (.aload_n 0, 1) := by decide +kernel
theorem dX3_macFinish_43 : decode cX3_macFinish 43 = .ok (.getfield 40, 3) := by decide +kernel
theorem dX3_macFinish_46 : decode cX3_macFinish 46 = .ok (.iload_n 2, 1) := by decide +kernel
theorem dX3_macFinish_47 : decode cX3_macFinish 47 = .ok (.iload_n 2, 1) := by decide +kernel
theorem dX3_macFinish_48 : decode cX3_macFinish 48 = .ok (.aload_n 0, 1) := by decide +kernel
theorem dX3_macFinish_49 : decode cX3_macFinish 49 = .ok (.getfield 86, 3) := by decide +kernel
theorem dX3_macFinish_52 : decode cX3_macFinish 52 = .ok (.if_icmp .ne 9, 3) := by decide +kernel
theorem dX3_macFinish_55 : decode cX3_macFinish 55 = .ok (.sipush 128, 3) := by decide +kernel
theorem dX3_macFinish_58 : decode cX3_macFinish 58 = .ok (.goto 4, 3) := by decide +kernel
theorem dX3_macFinish_61 : decode cX3_macFinish 61 = .ok (.iconst 0, 1) := by decide +kernel
theorem dX3_macFinish_62 : decode cX3_macFinish 62 = .ok (.iastore, 1) := by decide +kernel
theorem dX3_macFinish_63 : decode cX3_macFinish 63 = .ok (.iinc 2 1, 3) := by decide +kernel
theorem dX3_macFinish_66 : decode cX3_macFinish 66 = .ok (.goto (-30), 3) := by decide +kernel
theorem dX3_macFinish_69 : decode cX3_macFinish 69 = .ok (.iconst 0, 1) := by decide +kernel
theorem dX3_macFinish_70 : decode cX3_macFinish 70 = .ok (.istore_n 2, 1) := by decide +kernel
theorem dX3_macFinish_71 : decode cX3_macFinish 71 = .ok (.iload_n 2, 1) := by decide +kernel
theorem dX3_macFinish_72 : decode cX3_macFinish 72 = .ok (.bipush 16, 2) := by decide +kernel
theorem dX3_macFinish_74 : decode cX3_macFinish 74 = .ok (.if_icmp .ge 37, 3) := by decide +kernel
theorem dX3_macFinish_77 : decode cX3_macFinish 77 = .ok (.aload_n 0, 1) := by decide +kernel
theorem dX3_macFinish_78 : decode cX3_macFinish 78 = .ok (.getfield 40, 3) := by decide +kernel
theorem dX3_macFinish_81 : decode cX3_macFinish 81 = .ok (.iload_n 2, 1) := by decide +kernel
theorem dX3_macFinish_82 : decode cX3_macFinish 82 = .ok (.aload_n 0, 1) := by decide +kernel
theorem dX3_macFinish_83 : decode cX3_macFinish 83 = .ok (.getfield 40, 3) := by decide +kernel
theorem dX3_macFinish_86 : decode cX3_macFinish 86 = .ok (.iload_n 2, 1) := by decide +kernel
theorem dX3_macFinish_87 : decode cX3_macFinish 87 = .ok (.iaload, 1) := by decide +kernel
theorem dX3_macFinish_88 : decode cX3_macFinish 88 = .ok (.aload_n 0, 1) := by decide +kernel
theorem dX3_macFinish_89 : decode cX3_macFinish 89 = .ok (.getfield 28, 3) := by decide +kernel
theorem dX3_macFinish_92 : decode cX3_macFinish 92 = .ok (.iload_n 1, 1) := by decide +kernel
theorem dX3_macFinish_93 : decode cX3_macFinish 93 = .ok (.iload_n 2, 1) := by decide +kernel
theorem dX3_macFinish_94 : decode cX3_macFinish 94 = .ok (.iadd, 1) := by decide +kernel
theorem dX3_macFinish_95 : decode cX3_macFinish 95 = .ok (.iaload, 1) := by decide +kernel
theorem dX3_macFinish_96 : decode cX3_macFinish 96 = .ok (.ixor, 1) := by decide +kernel
theorem dX3_macFinish_97 : decode cX3_macFinish 97 = .ok (.iastore, 1) := by decide +kernel
theorem dX3_macFinish_98 : decode cX3_macFinish 98 = .ok (.aload_n 0, 1) := by decide +kernel
theorem dX3_macFinish_99 : decode cX3_macFinish 99 = .ok (.getfield 43, 3) := by decide +kernel
theorem dX3_macFinish_102 : decode cX3_macFinish 102 = .ok (.iload_n 2, 1) := by decide +kernel
theorem dX3_macFinish_103 : decode cX3_macFinish 103 = .ok (.iconst 0, 1) := by decide +kernel
theorem dX3_macFinish_104 : decode cX3_macFinish 104 = .ok (.bastore, 1) := by decide +kernel
theorem dX3_macFinish_105 : decode cX3_macFinish 105 = .ok (.iinc 2 1, 3) := by decide +kernel
theorem dX3_macFinish_108 : decode cX3_macFinish 108 = .ok (.goto (-37), 3) := by decide +kernel
theorem dX3_macFinish_111 : decode cX3_macFinish 111 = .ok (.aload_n 0, 1) := by decide +kernel
theorem dX3_macFinish_112 : decode cX3_macFinish 112 = .ok (.invokevirtual 89, 3) := by decide +kernel
theorem dX3_macFinish_115 : decode cX3_macFinish 115 = .ok (.aload_n 0, 1) := by decide +kernel
theorem dX3_macFinish_116 : decode cX3_macFinish 116 = .ok (.iconst 0, 1) := by decide +kernel
theorem dX3_macFinish_117 : decode cX3_macFinish 117 = .ok (.putfield 95, 3) := by decide +kernel
theorem dX3_macFinish_120 : decode cX3_macFinish 120 = .ok (.aload_n 0, 1) := by decide +kernel
theorem dX3_macFinish_121 : decode cX3_macFinish 121 = .ok (.iconst 2, 1) := by decide +kernel
theorem dX3_macFinish_122 : decode cX3_macFinish 122 = .ok (.putfield 62, 3) := by decide +kernel
theorem dX3_macFinish_125 : decode cX3_macFinish 125 = .ok (.iconst 1, 1) := by decide +kernel
theorem dX3_macFinish_126 : decode cX3_macFinish 126 = .ok (.ireturn, 1) := by decide +kernel
theorem dX3_tagByte_0 : decode cX3_tagByte 0 = .ok (.aload_n 0, 1) := by decide +kernel
theorem dX3_tagByte_1 : decode cX3_tagByte 1 = .ok (.iconst 0, 1) := by decide +kernel
theorem dX3_tagByte_2 : decode cX3_tagByte 2 = .ok (.putfield 51, 3) := by decide +kernel
theorem dX3_tagByte_5 : decode cX3_tagByte 5 = .ok (.aload_n 0, 1) := by decide +kernel
theorem dX3_tagByte_6 : decode cX3_tagByte 6 = .ok (.getfield 62, 3) := by decide +kernel
theorem dX3_tagByte_9 : decode cX3_tagByte 9 = .ok (.iconst 2, 1) := by decide +kernel
theorem dX3_tagByte_10 : decode cX3_tagByte 10 = .ok (.if_icmp .ne 21, 3) := by decide +kernel
theorem dX3_tagByte_13 : decode cX3_tagByte 13 = .ok (.iload_n 1, 1) := by decide +kernel
theorem dX3_tagByte_14 : decode cX3_tagByte 14 = .ok (.bipush 15, 2) := by decide +kernel
theorem dX3_tagByte_16 : decode cX3_tagByte 16 = .ok (.invokestatic 65, 3) := by decide +kernel
theorem dX3_tagByte_19 : decode cX3_tagByte 19 = .ok (.ifCond .eq 12, 3) := by decide +kernel
theorem dX3_tagByte_22 : decode cX3_tagByte 22 = .ok (.aload_n 0, 1) := by decide +kernel
theorem dX3_tagByte_23 : decode cX3_tagByte 23 = .ok (.getfield 37, 3) := by decide +kernel
theorem dX3_tagByte_26 : decode cX3_tagByte 26 = .ok (.iload_n 1, 1) := by decide +kernel
theorem dX3_tagByte_27 : decode cX3_tagByte 27 = .ok (.iaload, 1) := by decide +kernel
theorem dX3_tagByte_28 : decode cX3_tagByte 28 = .ok (.goto 4, 3) := by decide +kernel
theorem dX3_tagByte_31 : decode cX3_tagByte 31 = .ok (.iconst (-1), 1) := by decide +kernel
theorem dX3_tagByte_32 : decode cX3_tagByte 32 = .ok (.ireturn, 1) := by decide +kernel
theorem dX3_macCheck_0 : decode cX3_macCheck 0 = .ok (.aload_n 0, 1) := by decide +kernel
theorem dX3_macCheck_1 : decode cX3_macCheck 1 = .ok (.iconst 0, 1) := by decide +kernel
theorem dX3_macCheck_2 : decode cX3_macCheck 2 = .ok (.putfield 51, 3) := by decide +kernel
theorem dX3_macCheck_5 : decode cX3_macCheck 5 = .ok (.aload_n 0, 1) := by decide +kernel
theorem dX3_macCheck_6 : decode cX3_macCheck 6 = .ok (.getfield 62, 3) := by decide +kernel
theorem dX3_macCheck_9 : decode cX3_macCheck 9 = .ok (.iconst 2, 1) := by decide +kernel
theorem dX3_macCheck_10 : decode cX3_macCheck 10 = .ok (.if_icmp .ne 12, 3) := by decide +kernel
theorem dX3_macCheck_13 : decode cX3_macCheck 13 = .ok (.iload_n 1, 1) := by decide +kernel
theorem dX3_macCheck_14 : decode cX3_macCheck 14 = .ok (.bipush 15, 2) := by decide +kernel
theorem dX3_macCheck_16 : decode cX3_macCheck 16 = .ok (.invokestatic 65, 3) := by decide +kernel
theorem dX3_macCheck_19 : decode cX3_macCheck 19 = .ok (.ifCond .ne 5, 3) := by decide +kernel
theorem dX3_macCheck_22 : decode cX3_macCheck 22 = .ok (.iconst 0, 1) := by decide +kernel
theorem dX3_macCheck_23 : decode cX3_macCheck 23 = .ok (.ireturn, 1) := by decide +kernel
theorem dX3_macCheck_24 : decode cX3_macCheck 24 = .ok (.aload_n 0, 1) := by decide +kernel
theorem dX3_macCheck_25 : decode cX3_macCheck 25 = .ok (.getfield 43, 3) := by decide +kernel
theorem dX3_macCheck_28 : decode cX3_macCheck 28 = .ok (.iload_n 1, 1) := by decide +kernel
theorem dX3_macCheck_29 : decode cX3_macCheck 29 = .ok (.iconst 1, 1) := by decide +kernel
theorem dX3_macCheck_30 : decode cX3_macCheck 30 = .ok (.bastore, 1) := by decide +kernel
theorem dX3_macCheck_31 : decode cX3_macCheck 31 = .ok (.aload_n 0, 1) := by decide +kernel
theorem dX3_macCheck_32 : decode cX3_macCheck 32 = .ok (.aload_n 0, 1) := by decide +kernel
theorem dX3_macCheck_33 : decode cX3_macCheck 33 = .ok (.getfield 95, 3) := by decide +kernel
theorem dX3_macCheck_36 : decode cX3_macCheck 36 = .ok (.ifCond .ne 13, 3) := by decide +kernel
theorem dX3_macCheck_39 : decode cX3_macCheck 39 = .ok (.aload_n 0, 1) := by decide +kernel
theorem dX3_macCheck_40 : decode cX3_macCheck 40 = .ok (.getfield 37, 3) := by decide +kernel
theorem dX3_macCheck_43 : decode cX3_macCheck 43 = .ok (.iload_n 1, 1) := by decide +kernel
theorem dX3_macCheck_44 : decode cX3_macCheck 44 = .ok (.iaload, 1) := by decide +kernel
theorem dX3_macCheck_45 : decode cX3_macCheck 45 = .ok (.iload_n 2, 1) := by decide +kernel
theorem dX3_macCheck_46 : decode cX3_macCheck 46 = .ok (.if_icmp .eq 7, 3) := by decide +kernel
theorem dX3_macCheck_49 : decode cX3_macCheck 49 = .ok (.iconst 1, 1) := by decide +kernel
theorem dX3_macCheck_50 : decode cX3_macCheck 50 = .ok (.goto 4, 3) := by decide +kernel
theorem dX3_macCheck_53 : decode cX3_macCheck 53 = .ok (.iconst 0, 1) := by decide +kernel
theorem dX3_macCheck_54 : decode cX3_macCheck 54 = .ok (.putfield 95, 3) := by decide +kernel
theorem dX3_macCheck_57 : decode cX3_macCheck 57 = .ok (.iconst 1, 1) := by decide +kernel
theorem dX3_macCheck_58 : decode cX3_macCheck 58 = .ok (.ireturn, 1) := by decide +kernel
theorem dX3_macVerdict_0 : decode cX3_macVerdict 0 = .ok (.aload_n 0, 1) := by decide +kernel
theorem dX3_macVerdict_1 : decode cX3_macVerdict 1 = .ok (.iconst 0, 1) := by decide +kernel
theorem dX3_macVerdict_2 : decode cX3_macVerdict 2 = .ok (.putfield 51, 3) := by decide +kernel
theorem dX3_macVerdict_5 : decode cX3_macVerdict 5 = .ok (.aload_n 0, 1) := by decide +kernel
theorem dX3_macVerdict_6 : decode cX3_macVerdict 6 = .ok (.getfield 62, 3) := by decide +kernel
theorem dX3_macVerdict_9 : decode cX3_macVerdict 9 = .ok (.iconst 2, 1) := by decide +kernel
theorem dX3_macVerdict_10 : decode cX3_macVerdict 10 = .ok (.if_icmp .ne 14, 3) := by decide +kernel
theorem dX3_macVerdict_13 : decode cX3_macVerdict 13 = .ok (.aload_n 0, 1) := by decide +kernel
theorem dX3_macVerdict_14 : decode cX3_macVerdict 14 = .ok (.getfield 95, 3) := by decide +kernel
theorem dX3_macVerdict_17 : decode cX3_macVerdict 17 = .ok (.ifCond .ne 7, 3) := by decide +kernel
theorem dX3_macVerdict_20 : decode cX3_macVerdict 20 = .ok (.iconst 1, 1) := by decide +kernel
theorem dX3_macVerdict_21 : decode cX3_macVerdict 21 = .ok (.goto 4, 3) := by decide +kernel
theorem dX3_macVerdict_24 : decode cX3_macVerdict 24 = .ok (.iconst 0, 1) := by decide +kernel
theorem dX3_macVerdict_25 : decode cX3_macVerdict 25 = .ok (.istore_n 1, 1) := by decide +kernel
theorem dX3_macVerdict_26 : decode cX3_macVerdict 26 = .ok (.iconst 0, 1) := by decide +kernel
theorem dX3_macVerdict_27 : decode cX3_macVerdict 27 = .ok (.istore_n 2, 1) := by decide +kernel
theorem dX3_macVerdict_28 : decode cX3_macVerdict 28 = .ok (.iload_n 2, 1) := by decide +kernel
theorem dX3_macVerdict_29 : decode cX3_macVerdict 29 = .ok (.bipush 16, 2) := by decide +kernel
theorem dX3_macVerdict_31 : decode cX3_macVerdict 31 = .ok (.if_icmp .ge 28, 3) := by decide +kernel
theorem dX3_macVerdict_34 : decode cX3_macVerdict 34 = .ok (.iload_n 1, 1) := by decide +kernel
theorem dX3_macVerdict_35 : decode cX3_macVerdict 35 = .ok (.ifCond .eq 16, 3) := by decide +kernel
theorem dX3_macVerdict_38 : decode cX3_macVerdict 38 = .ok (.aload_n 0, 1) := by decide +kernel
theorem dX3_macVerdict_39 : decode cX3_macVerdict 39 = .ok (.getfield 43, 3) := by decide +kernel
theorem dX3_macVerdict_42 : decode cX3_macVerdict 42 = .ok (.iload_n 2, 1) := by decide +kernel
theorem dX3_macVerdict_43 : decode cX3_macVerdict 43 = .ok (.baload, 1) := by decide +kernel
theorem dX3_macVerdict_44 : decode cX3_macVerdict 44 = .ok (.ifCond .eq 7, 3) := by decide +kernel
theorem dX3_macVerdict_47 : decode cX3_macVerdict 47 = .ok (.iconst 1, 1) := by decide +kernel
theorem dX3_macVerdict_48 : decode cX3_macVerdict 48 = .ok (.goto 4, 3) := by decide +kernel
theorem dX3_macVerdict_51 : decode cX3_macVerdict 51 = .ok (.iconst 0, 1) := by decide +kernel
theorem dX3_macVerdict_52 : decode cX3_macVerdict 52 = .ok (.istore_n 1, 1) := by decide +kernel
theorem dX3_macVerdict_53 : decode cX3_macVerdict 53 = .ok (.iinc 2 1, 3) := by decide +kernel
theorem dX3_macVerdict_56 : decode cX3_macVerdict 56 = .ok (.goto (-28), 3) := by decide +kernel
theorem dX3_macVerdict_59 : decode cX3_macVerdict 59 = .ok (.iload_n 1, 1) := by decide +kernel
theorem dX3_macVerdict_60 : decode cX3_macVerdict 60 = .ok (.ireturn, 1) := by decide +kernel
theorem dX3_setBlockByte_0 : decode cX3_setBlockByte 0 = .ok (.aload_n 0, 1) := by decide +kernel
theorem dX3_setBlockByte_1 : decode cX3_setBlockByte 1 = .ok (.iconst 0, 1) := by decide +kernel
theorem dX3_setBlockByte_2 : decode cX3_setBlockByte 2 = .ok (.putfield 51, 3) := by decide +kernel
theorem dX3_setBlockByte_5 : decode cX3_setBlockByte 5 = .ok (.aload_n 0, 1) := by decide +kernel
theorem dX3_setBlockByte_6 : decode cX3_setBlockByte 6 = .ok (.getfield 55, 3) := by decide +kernel
theorem dX3_setBlockByte_9 : decode cX3_setBlockByte 9 = .ok (.ifCond .eq 22, 3) := by decide +kernel
theorem dX3_setBlockByte_12 : decode cX3_setBlockByte 12 = .ok (.iload_n 1, 1) := by decide +kernel
theorem dX3_setBlockByte_13 : decode cX3_setBlockByte 13 = .ok (.bipush 15, 2) := by decide +kernel
theorem dX3_setBlockByte_15 : decode cX3_setBlockByte 15 = .ok (.invokestatic 65, 3) := by decide +kernel
theorem dX3_setBlockByte_18 : decode cX3_setBlockByte 18 = .ok (.ifCond .eq 13, 3) := by decide +kernel
theorem dX3_setBlockByte_21 : decode cX3_setBlockByte 21 = .ok (.iload_n 2, 1) := by decide +kernel
theorem dX3_setBlockByte_22 : decode cX3_setBlockByte 22 = .ok (.sipush 255, 3) := by decide +kernel
theorem dX3_setBlockByte_25 : decode cX3_setBlockByte 25 = .ok (.invokestatic 65, 3) := by decide +kernel
theorem dX3_setBlockByte_28 : decode cX3_setBlockByte 28 = .ok (.ifCond .ne 5, 3) := by decide +kernel
theorem dX3_setBlockByte_31 : decode cX3_setBlockByte 31 = .ok (.iconst 0, 1) := by decide +kernel
theorem dX3_setBlockByte_32 : decode cX3_setBlockByte 32 = .ok (.ireturn, 1) := by decide +kernel
theorem dX3_setBlockByte_33 : decode cX3_setBlockByte 33 = .ok (.aload_n 0, 1) := by decide +kernel
theorem dX3_setBlockByte_34 : decode cX3_setBlockByte 34 = .ok (.getfield 13, 3) := by decide +kernel
theorem dX3_setBlockByte_37 : decode cX3_setBlockByte 37 = .ok (.iload_n 1, 1) := by decide +kernel
theorem dX3_setBlockByte_38 : decode cX3_setBlockByte 38 = .ok (.iload_n 2, 1) := by decide +kernel
theorem dX3_setBlockByte_39 : decode cX3_setBlockByte 39 = .ok (.iastore, 1) := by decide +kernel
theorem dX3_setBlockByte_40 : decode cX3_setBlockByte 40 = .ok (.iconst 1, 1) := by decide +kernel
theorem dX3_setBlockByte_41 : decode cX3_setBlockByte 41 = .ok (.ireturn, 1) := by decide +kernel
theorem dX3_load_0 : decode cX3_load 0 = .ok (.iconst 0, 1) := by decide +kernel
theorem dX3_load_1 : decode cX3_load 1 = .ok (.istore_n 2, 1) := by decide +kernel
theorem dX3_load_2 : decode cX3_load 2 = .ok (.iload_n 2, 1) := by decide +kernel
theorem dX3_load_3 : decode cX3_load 3 = .ok (.bipush 16, 2) := by decide +kernel
theorem dX3_load_5 : decode cX3_load 5 = .ok (.if_icmp .ge 41, 3) := by decide +kernel
theorem dX3_load_8 : decode cX3_load 8 = .ok (.aload_n 0, 1) := by decide +kernel
theorem dX3_load_9 : decode cX3_load 9 = .ok (.getfield 31, 3) := by decide +kernel
theorem dX3_load_12 : decode cX3_load 12 = .ok (.iload_n 2, 1) := by decide +kernel
theorem dX3_load_13 : decode cX3_load 13 = .ok (.iload_n 1, 1) := by decide +kernel
theorem dX3_load_14 : decode cX3_load 14 = .ok (.ifCond .eq 19, 3) := by decide +kernel
theorem dX3_load_17 : decode cX3_load 17 = .ok (.aload_n 0, 1) := by decide +kernel
theorem dX3_load_18 : decode cX3_load 18 = .ok (.getfield 13, 3) := by decide +kernel
theorem dX3_load_21 : decode cX3_load 21 = .ok (.iload_n 2, 1) := by decide +kernel
theorem dX3_load_22 : decode cX3_load 22 = .ok (.iaload, 1) := by decide +kernel
theorem dX3_load_23 : decode cX3_load 23 = .ok (.aload_n 0, 1) := by decide +kernel
theorem dX3_load_24 : decode cX3_load 24 = .ok (.getfield 16, 3) := by decide +kernel
theorem dX3_load_27 : decode cX3_load 27 = .ok (.iload_n 2, 1) := by decide +kernel
theorem dX3_load_28 : decode cX3_load 28 = .ok (.iaload, 1) := by decide +kernel
theorem dX3_load_29 : decode cX3_load 29 = .ok (.ixor, 1) := by decide +kernel
theorem dX3_load_30 : decode cX3_load 30 = .ok (.goto 9, 3) := by decide +kernel
theorem dX3_load_33 : decode cX3_load 33 = .ok (.aload_n 0, 1) := by decide +kernel
theorem dX3_load_34 : decode cX3_load 34 = .ok (.getfield 13, 3) := by decide +kernel
theorem dX3_load_37 : decode cX3_load 37 = .ok (.iload_n 2, 1) := by decide +kernel
theorem dX3_load_38 : decode cX3_load 38 = .ok (.iaload, 1) := by decide +kernel
theorem dX3_load_39 : decode cX3_load 39 = .ok (.iastore, 1) := by decide +kernel
theorem dX3_load_40 : decode cX3_load 40 = .ok (.iinc 2 1, 3) := by decide +kernel
theorem dX3_load_43 : decode cX3_load 43 = .ok (.goto (-41), 3) := by decide +kernel
theorem dX3_load_46 : decode cX3_load 46 = .ok (.return_, 1) := by decide +kernel
theorem dX3_encryptBlock_0 : decode cX3_encryptBlock 0 = .ok (.aload_n 0, 1) := by decide +kernel
theorem dX3_encryptBlock_1 : decode cX3_encryptBlock 1 = .ok (.iconst 0, 1) := by decide +kernel
theorem dX3_encryptBlock_2 : decode cX3_encryptBlock 2 = .ok (.putfield 51, 3) := by decide +kernel
theorem dX3_encryptBlock_5 : decode cX3_encryptBlock 5 = .ok (.aload_n 0, 1) := by decide +kernel
theorem dX3_encryptBlock_6 : decode cX3_encryptBlock 6 = .ok (.getfield 59, 3) := by decide +kernel
theorem dX3_encryptBlock_9 : decode cX3_encryptBlock 9 = .ok (.ifCond .eq 38, 3) := by decide +kernel
theorem dX3_encryptBlock_12 : decode cX3_encryptBlock 12 = .ok (.aload_n 0, 1) := by decide +kernel
theorem dX3_encryptBlock_13 : decode cX3_encryptBlock 13 = .ok (.iconst 0, 1) := by decide +kernel
theorem dX3_encryptBlock_14 : decode cX3_encryptBlock 14 = .ok (.invokevirtual 98, 3) := by decide +kernel
theorem dX3_encryptBlock_17 : decode cX3_encryptBlock 17 = .ok (.aload_n 0, 1) := by decide +kernel
theorem dX3_encryptBlock_18 : decode cX3_encryptBlock 18 = .ok (.invokevirtual 80, 3) := by decide +kernel
theorem dX3_encryptBlock_21 : decode cX3_encryptBlock 21 = .ok (.iconst 0, 1) := by decide +kernel
theorem dX3_encryptBlock_22 : decode cX3_encryptBlock 22 = .ok (.istore_n 1, 1) := by decide +kernel
theorem dX3_encryptBlock_23 : decode cX3_encryptBlock 23 = .ok (.iload_n 1, 1) := by decide +kernel
theorem dX3_encryptBlock_24 : decode cX3_encryptBlock 24 = .ok (.bipush 16, 2) := by decide +kernel
theorem dX3_encryptBlock_26 : decode cX3_encryptBlock 26 = .ok (.if_icmp .ge 21, 3) := by decide +kernel
theorem dX3_encryptBlock_29 : decode cX3_encryptBlock 29 = .ok (.aload_n 0, 1) := by decide +kernel
theorem dX3_encryptBlock_30 : decode cX3_encryptBlock 30 = .ok (.getfield 13, 3) := by decide +kernel
theorem dX3_encryptBlock_33 : decode cX3_encryptBlock 33 = .ok (.iload_n 1, 1) := by decide +kernel
theorem dX3_encryptBlock_34 : decode cX3_encryptBlock 34 = .ok (.aload_n 0, 1) := by decide +kernel
theorem dX3_encryptBlock_35 : decode cX3_encryptBlock 35 = .ok (.getfield 31, 3) := by decide +kernel
theorem dX3_encryptBlock_38 : decode cX3_encryptBlock 38 = .ok (.iload_n 1, 1) := by decide +kernel
theorem dX3_encryptBlock_39 : decode cX3_encryptBlock 39 = .ok (.iaload, 1) := by decide +kernel
theorem dX3_encryptBlock_40 : decode cX3_encryptBlock 40 = .ok (.iastore, 1) := by decide +kernel
theorem dX3_encryptBlock_41 : decode cX3_encryptBlock 41 = .ok (.iinc 1 1, 3) := by decide +kernel
theorem dX3_encryptBlock_44 : decode cX3_encryptBlock 44 = .ok (.goto (-21), 3) := by decide +kernel
theorem dX3_encryptBlock_47 : decode cX3_encryptBlock 47 = .ok (.aload_n 0, 1) := by decide +kernel
theorem dX3_encryptBlock_48 : decode cX3_encryptBlock 48 = .ok (.getfield 59, 3) := by decide +kernel
theorem dX3_encryptBlock_51 : decode cX3_encryptBlock 51 = .ok (.ireturn, 1) := by decide +kernel
theorem dX3_decryptBlock_0 : decode cX3_decryptBlock 0 = .ok (.aload_n 0, 1) := by decide +kernel
theorem dX3_decryptBlock_1 : decode cX3_decryptBlock 1 = .ok (.iconst 0, 1) := by decide +kernel
theorem dX3_decryptBlock_2 : decode cX3_decryptBlock 2 = .ok (.putfield 51, 3) := by decide +kernel
theorem dX3_decryptBlock_5 : decode cX3_decryptBlock 5 = .ok (.aload_n 0, 1) := by decide +kernel
theorem dX3_decryptBlock_6 : decode cX3_decryptBlock 6 = .ok (.getfield 59, 3) := by decide +kernel
theorem dX3_decryptBlock_9 : decode cX3_decryptBlock 9 = .ok (.ifCond .eq 38, 3) := by decide +kernel
theorem dX3_decryptBlock_12 : decode cX3_decryptBlock 12 = .ok (.aload_n 0, 1) := by decide +kernel
theorem dX3_decryptBlock_13 : decode cX3_decryptBlock 13 = .ok (.iconst 0, 1) := by decide +kernel
theorem dX3_decryptBlock_14 : decode cX3_decryptBlock 14 = .ok (.invokevirtual 98, 3) := by decide +kernel
theorem dX3_decryptBlock_17 : decode cX3_decryptBlock 17 = .ok (.aload_n 0, 1) := by decide +kernel
theorem dX3_decryptBlock_18 : decode cX3_decryptBlock 18 = .ok (.invokevirtual 102, 3) := by decide +kernel
theorem dX3_decryptBlock_21 : decode cX3_decryptBlock 21 = .ok (.iconst 0, 1) := by decide +kernel
theorem dX3_decryptBlock_22 : decode cX3_decryptBlock 22 = .ok (.istore_n 1, 1) := by decide +kernel
theorem dX3_decryptBlock_23 : decode cX3_decryptBlock 23 = .ok (.iload_n 1, 1) := by decide +kernel
theorem dX3_decryptBlock_24 : decode cX3_decryptBlock 24 = .ok (.bipush 16, 2) := by decide +kernel
theorem dX3_decryptBlock_26 : decode cX3_decryptBlock 26 = .ok (.if_icmp .ge 21, 3) := by decide +kernel
theorem dX3_decryptBlock_29 : decode cX3_decryptBlock 29 = .ok (.aload_n 0, 1) := by decide +kernel
theorem dX3_decryptBlock_30 : decode cX3_decryptBlock 30 = .ok (.getfield 13, 3) := by decide +kernel
theorem dX3_decryptBlock_33 : decode cX3_decryptBlock 33 = .ok (.iload_n 1, 1) := by decide +kernel
theorem dX3_decryptBlock_34 : decode cX3_decryptBlock 34 = .ok (.aload_n 0, 1) := by decide +kernel
theorem dX3_decryptBlock_35 : decode cX3_decryptBlock 35 = .ok (.getfield 31, 3) := by decide +kernel
theorem dX3_decryptBlock_38 : decode cX3_decryptBlock 38 = .ok (.iload_n 1, 1) := by decide +kernel
theorem dX3_decryptBlock_39 : decode cX3_decryptBlock 39 = .ok (.iaload, 1) := by decide +kernel
theorem dX3_decryptBlock_40 : decode cX3_decryptBlock 40 = .ok (.iastore, 1) := by decide +kernel
theorem dX3_decryptBlock_41 : decode cX3_decryptBlock 41 = .ok (.iinc 1 1, 3) := by decide +kernel
theorem dX3_decryptBlock_44 : decode cX3_decryptBlock 44 = .ok (.goto (-21), 3) := by decide +kernel
theorem dX3_decryptBlock_47 : decode cX3_decryptBlock 47 = .ok (.aload_n 0, 1) := by decide +kernel
theorem dX3_decryptBlock_48 : decode cX3_decryptBlock 48 = .ok (.getfield 59, 3) := by decide +kernel
theorem dX3_decryptBlock_51 : decode cX3_decryptBlock 51 = .ok (.ireturn, 1) := by decide +kernel
theorem dX3_chain_0 : decode cX3_chain 0 = .ok (.aload_n 0, 1) := by decide +kernel
theorem dX3_chain_1 : decode cX3_chain 1 = .ok (.iconst 0, 1) := by decide +kernel
theorem dX3_chain_2 : decode cX3_chain 2 = .ok (.putfield 51, 3) := by decide +kernel
theorem dX3_chain_5 : decode cX3_chain 5 = .ok (.aload_n 0, 1) := by decide +kernel
theorem dX3_chain_6 : decode cX3_chain 6 = .ok (.getfield 59, 3) := by decide +kernel
theorem dX3_chain_9 : decode cX3_chain 9 = .ok (.ifCond .ne 5, 3) := by decide +kernel
theorem dX3_chain_12 : decode cX3_chain 12 = .ok (.iconst 0, 1) := by decide +kernel
theorem dX3_chain_13 : decode cX3_chain 13 = .ok (.ireturn, 1) := by decide +kernel
theorem dX3_chain_14 : decode cX3_chain 14 = .ok (.aload_n 0, 1) := by decide +kernel
theorem dX3_chain_15 : decode cX3_chain 15 = .ok (.iload_n 1, 1) := by decide +kernel
theorem dX3_chain_16 : decode cX3_chain 16 = .ok (.ifCond .ne 7, 3) := by decide +kernel
theorem dX3_chain_19 : decode cX3_chain 19 = .ok (.iconst 1, 1) := by decide +kernel
theorem dX3_chain_20 : decode cX3_chain 20 = .ok (.goto 4, 3) := by decide +kernel
theorem dX3_chain_23 : decode cX3_chain 23 = .ok (.iconst 0, 1) := by decide +kernel
theorem dX3_chain_24 : decode cX3_chain 24 = .ok (.invokevirtual 98, 3) := by decide +kernel
theorem dX3_chain_27 : decode cX3_chain 27 = .ok (.iload_n 1, 1) := by decide +kernel
theorem dX3_chain_28 : decode cX3_chain 28 = .ok (.ifCond .eq 10, 3) := by decide +kernel
theorem dX3_chain_31 : decode cX3_chain 31 = .ok (.aload_n 0, 1) := by decide +kernel
theorem dX3_chain_32 : decode cX3_chain 32 = .ok (.invokevirtual 102, 3) := by decide +kernel
theorem dX3_chain_35 : decode cX3_chain 35 = .ok (.goto 7, 3) := by decide +kernel
theorem dX3_chain_38 : decode cX3_chain 38 = .ok (.aload_n 0, 1) := by decide +kernel
theorem dX3_chain_39 : decode cX3_chain 39 = .ok (.invokevirtual 80, 3) := by decide +kernel
theorem dX3_chain_42 : decode cX3_chain 42 = .ok (.iconst 0, 1) := by decide +kernel
theorem dX3_chain_43 : decode cX3_chain 43 = .ok (.istore_n 2, 1) := by decide +kernel
theorem dX3_chain_44 : decode cX3_chain 44 = .ok (.iload_n 2, 1) := by decide +kernel
theorem dX3_chain_45 : decode cX3_chain 45 = .ok (.bipush 16, 2) := by decide +kernel
theorem dX3_chain_47 : decode cX3_chain 47 = .ok (.if_icmp .ge 68, 3) := by decide +kernel
theorem dX3_chain_50 : decode cX3_chain 50 = .ok (.aload_n 0, 1) := by decide +kernel
theorem dX3_chain_51 : decode cX3_chain 51 = .ok (.getfield 13, 3) := by decide +kernel
theorem dX3_chain_54 : decode cX3_chain 54 = .ok (.iload_n 2, 1) := by decide +kernel
theorem dX3_chain_55 : decode cX3_chain 55 = .ok (.iaload, 1) := by decide +kernel
theorem dX3_chain_56 : decode cX3_chain 56 = .ok (.istore_n 3, 1) := by decide +kernel
theorem dX3_chain_57 : decode cX3_chain 57 = .ok (.aload_n 0, 1) := by decide +kernel
theorem dX3_chain_58 : decode cX3_chain 58 = .ok (.getfield 13, 3) := by decide +kernel
theorem dX3_chain_61 : decode cX3_chain 61 = .ok (.iload_n 2, 1) := by decide +kernel
theorem dX3_chain_62 : decode cX3_chain 62 = .ok (.iload_n 1, 1) := by decide +kernel
theorem dX3_chain_63 : decode cX3_chain 63 = .ok (.ifCond .eq 19, 3) := by decide +kernel
theorem dX3_chain_66 : decode cX3_chain 66 = .ok (.aload_n 0, 1) := by decide +kernel
theorem dX3_chain_67 : decode cX3_chain 67 = .ok (.getfield 31, 3) := by decide +kernel
theorem dX3_chain_70 : decode cX3_chain 70 = .ok (.iload_n 2, 1) := by decide +kernel
theorem dX3_chain_71 : decode cX3_chain 71 = .ok (.iaload, 1) := by decide +kernel
theorem dX3_chain_72 : decode cX3_chain 72 = .ok (.aload_n 0, 1) := by decide +kernel
theorem dX3_chain_73 : decode cX3_chain 73 = .ok (.getfield 16, 3) := by decide +kernel
theorem dX3_chain_76 : decode cX3_chain 76 = .ok (.iload_n 2, 1) := by decide +kernel
theorem dX3_chain_77 : decode cX3_chain 77 = .ok (.iaload, 1) := by decide +kernel
theorem dX3_chain_78 : decode cX3_chain 78 = .ok (.ixor, 1) := by decide +kernel
theorem dX3_chain_79 : decode cX3_chain 79 = .ok (.goto 9, 3) := by decide +kernel
theorem dX3_chain_82 : decode cX3_chain 82 = .ok (.aload_n 0, 1) := by decide +kernel
theorem dX3_chain_83 : decode cX3_chain 83 = .ok (.getfield 31, 3) := by decide +kernel
theorem dX3_chain_86 : decode cX3_chain 86 = .ok (.iload_n 2, 1) := by decide +kernel
theorem dX3_chain_87 : decode cX3_chain 87 = .ok (.iaload, 1) := by decide +kernel
theorem dX3_chain_88 : decode cX3_chain 88 = .ok (.iastore, 1) := by decide +kernel
theorem dX3_chain_89 : decode cX3_chain 89 = .ok (.aload_n 0, 1) := by decide +kernel
theorem dX3_chain_90 : decode cX3_chain 90 = .ok (.getfield 16, 3) := by decide +kernel
theorem dX3_chain_93 : decode cX3_chain 93 = .ok (.iload_n 2, 1) := by decide +kernel
theorem dX3_chain_94 : decode cX3_chain 94 = .ok (.iload_n 1, 1) := by decide +kernel
theorem dX3_chain_95 : decode cX3_chain 95 = .ok (.ifCond .eq 7, 3) := by decide +kernel
theorem dX3_chain_98 : decode cX3_chain 98 = .ok (.iload_n 3, 1) := by decide +kernel
theorem dX3_chain_99 : decode cX3_chain 99 = .ok (.goto 9, 3) := by decide +kernel
theorem dX3_chain_102 : decode cX3_chain 102 = .ok (.aload_n 0, 1) := by decide +kernel
theorem dX3_chain_103 : decode cX3_chain 103 = .ok (.getfield 31, 3) := by decide +kernel
theorem dX3_chain_106 : decode cX3_chain 106 = .ok (.iload_n 2, 1) := by decide +kernel
theorem dX3_chain_107 : decode cX3_chain 107 = .ok (.iaload, 1) := by decide +kernel
theorem dX3_chain_108 : decode cX3_chain 108 = .ok (.iastore, 1) := by decide +kernel
theorem dX3_chain_109 : decode cX3_chain 109 = .ok (.iinc 2 1, 3) := by decide +kernel
theorem dX3_chain_112 : decode cX3_chain 112 = .ok (.goto (-68), 3) := by decide +kernel
theorem dX3_chain_115 : decode cX3_chain 115 = .ok (.iconst 1, 1) := by decide +kernel
theorem dX3_chain_116 : decode cX3_chain 116 = .ok (.ireturn, 1) := by decide +kernel
theorem dX3_unchain_0 : decode cX3_unchain 0 = .ok (.aload_n 0, 1) := by decide +kernel
theorem dX3_unchain_1 : decode cX3_unchain 1 = .ok (.iconst 0, 1) := by decide +kernel
theorem dX3_unchain_2 : decode cX3_unchain 2 = .ok (.putfield 51, 3) := by decide +kernel
theorem dX3_unchain_5 : decode cX3_unchain 5 = .ok (.iconst 0, 1) := by decide +kernel
theorem dX3_unchain_6 : decode cX3_unchain 6 = .ok (.istore_n 1, 1) := by decide +kernel
theorem dX3_unchain_7 : decode cX3_unchain 7 = .ok (.iload_n 1, 1) := by decide +kernel
theorem dX3_unchain_8 : decode cX3_unchain 8 = .ok (.bipush 16, 2) := by decide +kernel
theorem dX3_unchain_10 : decode cX3_unchain 10 = .ok (.if_icmp .ge 23, 3) := by decide +kernel
theorem dX3_unchain_13 : decode cX3_unchain 13 = .ok (.aload_n 0, 1) := by decide +kernel
theorem dX3_unchain_14 : decode cX3_unchain 14 = .ok (.getfield 55, 3) := by decide +kernel
theorem dX3_unchain_17 : decode cX3_unchain 17 = .ok (.ifCond .eq 16, 3) := by decide +kernel
theorem dX3_unchain_20 : decode cX3_unchain 20 = .ok (.aload_n 0, 1) := by decide +kernel
theorem dX3_unchain_21 : decode cX3_unchain 21 = .ok (.getfield 16, 3) := by decide +kernel
theorem dX3_unchain_24 : decode cX3_unchain 24 = .ok (.iload_n 1, 1) := by decide +kernel
theorem dX3_unchain_25 : decode cX3_unchain 25 = .ok (.iconst 0, 1) := by decide +kernel
theorem dX3_unchain_26 : decode cX3_unchain 26 = .ok (.iastore, 1) := by decide +kernel
theorem dX3_unchain_27 : decode cX3_unchain 27 = .ok (.iinc 1 1, 3) := by decide +kernel
theorem dX3_unchain_30 : decode cX3_unchain 30 = .ok (.goto (-23), 3) := by decide +kernel
theorem dX3_unchain_33 : decode cX3_unchain 33 = .ok (.aload_n 0, 1) := by decide +kernel
theorem dX3_unchain_34 : decode cX3_unchain 34 = .ok (.getfield 55, 3) := by decide +kernel
theorem dX3_unchain_37 : decode cX3_unchain 37 = .ok (.ireturn, 1) := by decide +kernel
theorem dX3_blockByte_0 : decode cX3_blockByte 0 = .ok (.aload_n 0, 1) := by decide +kernel
theorem dX3_blockByte_1 : decode cX3_blockByte 1 = .ok (.iconst 0, 1) := by decide +kernel
theorem dX3_blockByte_2 : decode cX3_blockByte 2 = .ok (.putfield 51, 3) := by decide +kernel
theorem dX3_blockByte_5 : decode cX3_blockByte 5 = .ok (.aload_n 0, 1) := by decide +kernel
theorem dX3_blockByte_6 : decode cX3_blockByte 6 = .ok (.getfield 55, 3) := by decide +kernel
theorem dX3_blockByte_9 : decode cX3_blockByte 9 = .ok (.ifCond .eq 21, 3) := by decide +kernel
theorem dX3_blockByte_12 : decode cX3_blockByte 12 = .ok (.iload_n 1, 1) := by decide +kernel
theorem dX3_blockByte_13 : decode cX3_blockByte 13 = .ok (.bipush 15, 2) := by decide +kernel
theorem dX3_blockByte_15 : decode cX3_blockByte 15 = .ok (.invokestatic 65, 3) := by decide +kernel
theorem dX3_blockByte_18 : decode cX3_blockByte 18 = .ok (.ifCond .eq 12, 3) := by decide +kernel
theorem dX3_blockByte_21 : decode cX3_blockByte 21 = .ok (.aload_n 0, 1) := by decide +kernel
theorem dX3_blockByte_22 : decode cX3_blockByte 22 = .ok (.getfield 13, 3) := by decide +kernel
theorem dX3_blockByte_25 : decode cX3_blockByte 25 = .ok (.iload_n 1, 1) := by decide +kernel
theorem dX3_blockByte_26 : decode cX3_blockByte 26 = .ok (.iaload, 1) := by decide +kernel
theorem dX3_blockByte_27 : decode cX3_blockByte 27 = .ok (.goto 4, 3) := by decide +kernel
theorem dX3_blockByte_30 : decode cX3_blockByte 30 = .ok (.iconst (-1), 1) := by decide +kernel
theorem dX3_blockByte_31 : decode cX3_blockByte 31 = .ok (.ireturn, 1) := by decide +kernel
theorem dX3_half_0 : decode cX3_half 0 = .ok (.aload_n 0, 1) := by decide +kernel
theorem dX3_half_1 : decode cX3_half 1 = .ok (.iconst 0, 1) := by decide +kernel
theorem dX3_half_2 : decode cX3_half 2 = .ok (.putfield 51, 3) := by decide +kernel
theorem dX3_half_5 : decode cX3_half 5 = .ok (.aload_n 0, 1) := by decide +kernel
theorem dX3_half_6 : decode cX3_half 6 = .ok (.getfield 59, 3) := by decide +kernel
theorem dX3_half_9 : decode cX3_half 9 = .ok (.ifCond .eq 34, 3) := by decide +kernel
theorem dX3_half_12 : decode cX3_half 12 = .ok (.iload_n 1, 1) := by decide +kernel
theorem dX3_half_13 : decode cX3_half 13 = .ok (.iconst 1, 1) := by decide +kernel
theorem dX3_half_14 : decode cX3_half 14 = .ok (.invokestatic 65, 3) := by decide +kernel
theorem dX3_half_17 : decode cX3_half 17 = .ok (.ifCond .eq 26, 3) := by decide +kernel
theorem dX3_half_20 : decode cX3_half 20 = .ok (.iload_n 2, 1) := by decide +kernel
theorem dX3_half_21 : decode cX3_half 21 = .ok (.bipush 15, 2) := by decide +kernel
theorem dX3_half_23 : decode cX3_half 23 = .ok (.invokestatic 65, 3) := by decide +kernel
theorem dX3_half_26 : decode cX3_half 26 = .ok (.ifCond .eq 17, 3) := by decide +kernel
theorem dX3_half_29 : decode cX3_half 29 = .ok (.aload_n 0, 1) := by decide +kernel
theorem dX3_half_30 : decode cX3_half 30 = .ok (.getfield 28, 3) := by decide +kernel
theorem dX3_half_33 : decode cX3_half 33 = .ok (.bipush 16, 2) := by decide +kernel
theorem dX3_half_35 : decode cX3_half 35 = .ok (.iload_n 1, 1) := by decide +kernel
theorem dX3_half_36 : decode cX3_half 36 = .ok (.imul, 1) := by decide +kernel
theorem dX3_half_37 : decode cX3_half 37 = .ok (.iload_n 2, 1) := by decide +kernel
theorem dX3_half_38 : decode cX3_half 38 = .ok (.iadd, 1) := by decide +kernel
theorem dX3_half_39 : decode cX3_half 39 = .ok (.iaload, 1) := by decide +kernel
theorem dX3_half_40 : decode cX3_half 40 = .ok (.goto 4, 3) := by decide +kernel
theorem dX3_half_43 : decode cX3_half 43 = .ok (.iconst (-1), 1) := by decide +kernel
theorem dX3_half_44 : decode cX3_half 44 = .ok (.ireturn, 1) := by decide +kernel
theorem dJ7_fill_53178_0 : decode cJ7_fill_53178 0 = .ok (.iconst 0, 1) := by decide +kernel
theorem dJ7_fill_53178_1 : decode cJ7_fill_53178 1 = .ok (.istore_n 2, 1) := by decide +kernel
theorem dJ7_fill_53178_2 : decode cJ7_fill_53178 2 = .ok (.aload_n 0, 1) := by decide +kernel
theorem dJ7_fill_53178_3 : decode cJ7_fill_53178 3 = .ok (.arraylength, 1) := by decide +kernel
theorem dJ7_fill_53178_4 : decode cJ7_fill_53178 4 = .ok (.istore_n 3, 1) := by decide +kernel
theorem dJ7_fill_53178_5 : decode cJ7_fill_53178 5 = .ok (.iload_n 2, 1) := by decide +kernel
theorem dJ7_fill_53178_6 : decode cJ7_fill_53178 6 = .ok (.iload_n 3, 1) := by decide +kernel
theorem dJ7_fill_53178_7 : decode cJ7_fill_53178 7 = .ok (.if_icmp .ge 13, 3) := by decide +kernel
theorem dJ7_fill_53178_10 : decode cJ7_fill_53178 10 = .ok (.aload_n 0, 1) := by decide +kernel
theorem dJ7_fill_53178_11 : decode cJ7_fill_53178 11 = .ok (.iload_n 2, 1) := by decide +kernel
theorem dJ7_fill_53178_12 : decode cJ7_fill_53178 12 = .ok (.iload_n 1, 1) := by decide +kernel
theorem dJ7_fill_53178_13 : decode cJ7_fill_53178 13 = .ok (.iastore, 1) := by decide +kernel
theorem dJ7_fill_53178_14 : decode cJ7_fill_53178 14 = .ok (.iinc 2 1, 3) := by decide +kernel
theorem dJ7_fill_53178_17 : decode cJ7_fill_53178 17 = .ok (.goto (-12), 3) := by decide +kernel
theorem dJ7_fill_53178_20 : decode cJ7_fill_53178 20 = .ok (.return_, 1) := by decide +kernel
theorem dL_law_0 : decode cL_law 0 = .ok (.new 7, 3) := by decide +kernel
theorem dL_law_3 : decode cL_law 3 = .ok (.dup, 1) := by decide +kernel
theorem dL_law_4 : decode cL_law 4 = .ok (.invokespecial 9, 3) := by decide +kernel
theorem dL_law_7 : decode cL_law 7 = .ok (.astore_n 1, 1) := by decide +kernel
theorem dL_law_8 : decode cL_law 8 = .ok (.new 10, 3) := by decide +kernel
theorem dL_law_11 : decode cL_law 11 = .ok (.dup, 1) := by decide +kernel
theorem dL_law_12 : decode cL_law 12 = .ok (.invokespecial 12, 3) := by decide +kernel
theorem dL_law_15 : decode cL_law 15 = .ok (.astore_n 2, 1) := by decide +kernel
theorem dL_law_16 : decode cL_law 16 = .ok (.iconst 0, 1) := by decide +kernel
theorem dL_law_17 : decode cL_law 17 = .ok (.istore_n 3, 1) := by decide +kernel
theorem dL_law_18 : decode cL_law 18 = .ok (.iload_n 3, 1) := by decide +kernel
theorem dL_law_19 : decode cL_law 19 = .ok (.aload_n 0, 1) := by decide +kernel
theorem dL_law_20 : decode cL_law 20 = .ok (.arraylength, 1) := by decide +kernel
theorem dL_law_21 : decode cL_law 21 = .ok (.iconst 4, 1) := by decide +kernel
theorem dL_law_22 : decode cL_law 22 = .ok (.isub, 1) := by decide +kernel
theorem dL_law_23 : decode cL_law 23 = .ok (.if_icmp .gt 484, 3) := by decide +kernel
theorem dL_law_26 : decode cL_law 26 = .ok (.aload_n 0, 1) := by decide +kernel
theorem dL_law_27 : decode cL_law 27 = .ok (.iload_n 3, 1) := by decide +kernel
theorem dL_law_28 : decode cL_law 28 = .ok (.iaload, 1) := by decide +kernel
theorem dL_law_29 : decode cL_law 29 = .ok (.bipush 31, 2) := by decide +kernel
theorem dL_law_31 : decode cL_law 31 = .ok (.iand, 1) := by decide +kernel
theorem dL_law_32 : decode cL_law 32 = .ok (.tableswitch 469 0 16 #[84, 95, 128, 141, 154, 177, 220, 233, 256, 289, 302, 335, 348, 361, 400, 413, 436], 84) := by decide +kernel
theorem dL_law_116 : decode cL_law 116 = .ok (.aload_n 1, 1) := by decide +kernel
theorem dL_law_117 : decode cL_law 117 = .ok (.invokevirtual 13, 3) := by decide +kernel
theorem dL_law_120 : decode cL_law 120 = .ok (.aload_n 2, 1) := by decide +kernel
theorem dL_law_121 : decode cL_law 121 = .ok (.invokevirtual 16, 3) := by decide +kernel
theorem dL_law_124 : decode cL_law 124 = .ok (.goto 377, 3) := by decide +kernel
theorem dL_law_127 : decode cL_law 127 = .ok (.aload_n 1, 1) := by decide +kernel
theorem dL_law_128 : decode cL_law 128 = .ok (.aload_n 0, 1) := by decide +kernel
theorem dL_law_129 : decode cL_law 129 = .ok (.iload_n 3, 1) := by decide +kernel
theorem dL_law_130 : decode cL_law 130 = .ok (.iconst 1, 1) := by decide +kernel
theorem dL_law_131 : decode cL_law 131 = .ok (.iadd, 1) := by decide +kernel
theorem dL_law_132 : decode cL_law 132 = .ok (.iaload, 1) := by decide +kernel
theorem dL_law_133 : decode cL_law 133 = .ok (.aload_n 0, 1) := by decide +kernel
theorem dL_law_134 : decode cL_law 134 = .ok (.iload_n 3, 1) := by decide +kernel
theorem dL_law_135 : decode cL_law 135 = .ok (.iconst 2, 1) := by decide +kernel
theorem dL_law_136 : decode cL_law 136 = .ok (.iadd, 1) := by decide +kernel
theorem dL_law_137 : decode cL_law 137 = .ok (.iaload, 1) := by decide +kernel
theorem dL_law_138 : decode cL_law 138 = .ok (.invokevirtual 17, 3) := by decide +kernel
theorem dL_law_141 : decode cL_law 141 = .ok (.pop, 1) := by decide +kernel
theorem dL_law_142 : decode cL_law 142 = .ok (.aload_n 2, 1) := by decide +kernel
theorem dL_law_143 : decode cL_law 143 = .ok (.aload_n 0, 1) := by decide +kernel
theorem dL_law_144 : decode cL_law 144 = .ok (.iload_n 3, 1) := by decide +kernel
theorem dL_law_145 : decode cL_law 145 = .ok (.iconst 1, 1) := by decide +kernel
theorem dL_law_146 : decode cL_law 146 = .ok (.iadd, 1) := by decide +kernel
theorem dL_law_147 : decode cL_law 147 = .ok (.iaload, 1) := by decide +kernel
theorem dL_law_148 : decode cL_law 148 = .ok (.aload_n 0, 1) := by decide +kernel
theorem dL_law_149 : decode cL_law 149 = .ok (.iload_n 3, 1) := by decide +kernel
theorem dL_law_150 : decode cL_law 150 = .ok (.iconst 2, 1) := by decide +kernel
theorem dL_law_151 : decode cL_law 151 = .ok (.iadd, 1) := by decide +kernel
theorem dL_law_152 : decode cL_law 152 = .ok (.iaload, 1) := by decide +kernel
theorem dL_law_153 : decode cL_law 153 = .ok (.invokevirtual 21, 3) := by decide +kernel
theorem dL_law_156 : decode cL_law 156 = .ok (.pop, 1) := by decide +kernel
theorem dL_law_157 : decode cL_law 157 = .ok (.goto 344, 3) := by decide +kernel
theorem dL_law_160 : decode cL_law 160 = .ok (.aload_n 1, 1) := by decide +kernel
theorem dL_law_161 : decode cL_law 161 = .ok (.invokevirtual 22, 3) := by decide +kernel
theorem dL_law_164 : decode cL_law 164 = .ok (.aload_n 2, 1) := by decide +kernel
theorem dL_law_165 : decode cL_law 165 = .ok (.invokevirtual 26, 3) := by decide +kernel
theorem dL_law_168 : decode cL_law 168 = .ok (.if_icmp .eq 333, 3) := by decide +kernel
theorem dL_law_171 : decode cL_law 171 = .ok (.iconst 0, 1) := by decide +kernel
theorem dL_law_172 : decode cL_law 172 = .ok (.ireturn, 1) := by decide +kernel
theorem dL_law_173 : decode cL_law 173 = .ok (.aload_n 1, 1) := by decide +kernel
theorem dL_law_174 : decode cL_law 174 = .ok (.invokevirtual 27, 3) := by decide +kernel
theorem dL_law_177 : decode cL_law 177 = .ok (.pop, 1) := by decide +kernel
theorem dL_law_178 : decode cL_law 178 = .ok (.aload_n 2, 1) := by decide +kernel
theorem dL_law_179 : decode cL_law 179 = .ok (.invokevirtual 30, 3) := by decide +kernel
theorem dL_law_182 : decode cL_law 182 = .ok (.pop, 1) := by decide +kernel
theorem dL_law_183 : decode cL_law 183 = .ok (.goto 318, 3) := by decide +kernel
theorem dL_law_186 : decode cL_law 186 = .ok (.aload_n 1, 1) := by decide +kernel
theorem dL_law_187 : decode cL_law 187 = .ok (.aload_n 0, 1) := by decide +kernel
theorem dL_law_188 : decode cL_law 188 = .ok (.iload_n 3, 1) := by decide +kernel
theorem dL_law_189 : decode cL_law 189 = .ok (.iconst 1, 1) := by decide +kernel
theorem dL_law_190 : decode cL_law 190 = .ok (.iadd, 1) := by decide +kernel
theorem dL_law_191 : decode cL_law 191 = .ok (.iaload, 1) := by decide +kernel
theorem dL_law_192 : decode cL_law 192 = .ok (.invokevirtual 31, 3) := by decide +kernel
theorem dL_law_195 : decode cL_law 195 = .ok (.pop, 1) := by decide +kernel
theorem dL_law_196 : decode cL_law 196 = .ok (.aload_n 2, 1) := by decide +kernel
theorem dL_law_197 : decode cL_law 197 = .ok (.aload_n 0, 1) := by decide +kernel
theorem dL_law_198 : decode cL_law 198 = .ok (.iload_n 3, 1) := by decide +kernel
theorem dL_law_199 : decode cL_law 199 = .ok (.iconst 1, 1) := by decide +kernel
theorem dL_law_200 : decode cL_law 200 = .ok (.iadd, 1) := by decide +kernel
theorem dL_law_201 : decode cL_law 201 = .ok (.iaload, 1) := by decide +kernel
theorem dL_law_202 : decode cL_law 202 = .ok (.invokevirtual 35, 3) := by decide +kernel
theorem dL_law_205 : decode cL_law 205 = .ok (.pop, 1) := by decide +kernel
theorem dL_law_206 : decode cL_law 206 = .ok (.goto 295, 3) := by decide +kernel
theorem dL_law_209 : decode cL_law 209 = .ok (.aload_n 1, 1) := by decide +kernel
theorem dL_law_210 : decode cL_law 210 = .ok (.aload_n 0, 1) := by decide +kernel
theorem dL_law_211 : decode cL_law 211 = .ok (.iload_n 3, 1) := by decide +kernel
theorem dL_law_212 : decode cL_law 212 = .ok (.iconst 1, 1) := by decide +kernel
theorem dL_law_213 : decode cL_law 213 = .ok (.iadd, 1) := by decide +kernel
theorem dL_law_214 : decode cL_law 214 = .ok (.iaload, 1) := by decide +kernel
theorem dL_law_215 : decode cL_law 215 = .ok (.aload_n 0, 1) := by decide +kernel
theorem dL_law_216 : decode cL_law 216 = .ok (.iload_n 3, 1) := by decide +kernel
theorem dL_law_217 : decode cL_law 217 = .ok (.iconst 2, 1) := by decide +kernel
theorem dL_law_218 : decode cL_law 218 = .ok (.iadd, 1) := by decide +kernel
theorem dL_law_219 : decode cL_law 219 = .ok (.iaload, 1) := by decide +kernel
theorem dL_law_220 : decode cL_law 220 = .ok (.aload_n 0, 1) := by decide +kernel
theorem dL_law_221 : decode cL_law 221 = .ok (.iload_n 3, 1) := by decide +kernel
theorem dL_law_222 : decode cL_law 222 = .ok (.iconst 3, 1) := by decide +kernel
theorem dL_law_223 : decode cL_law 223 = .ok (.iadd, 1) := by decide +kernel
theorem dL_law_224 : decode cL_law 224 = .ok (.iaload, 1) := by decide +kernel
theorem dL_law_225 : decode cL_law 225 = .ok (.invokevirtual 36, 3) := by decide +kernel
theorem dL_law_228 : decode cL_law 228 = .ok (.pop, 1) := by decide +kernel
theorem dL_law_229 : decode cL_law 229 = .ok (.aload_n 2, 1) := by decide +kernel
theorem dL_law_230 : decode cL_law 230 = .ok (.aload_n 0, 1) := by decide +kernel
theorem dL_law_231 : decode cL_law 231 = .ok (.iload_n 3, 1) := by decide +kernel
theorem dL_law_232 : decode cL_law 232 = .ok (.iconst 1, 1) := by decide +kernel
theorem dL_law_233 : decode cL_law 233 = .ok (.iadd, 1) := by decide +kernel
theorem dL_law_234 : decode cL_law 234 = .ok (.iaload, 1) := by decide +kernel
theorem dL_law_235 : decode cL_law 235 = .ok (.aload_n 0, 1) := by decide +kernel
theorem dL_law_236 : decode cL_law 236 = .ok (.iload_n 3, 1) := by decide +kernel
theorem dL_law_237 : decode cL_law 237 = .ok (.iconst 2, 1) := by decide +kernel
theorem dL_law_238 : decode cL_law 238 = .ok (.iadd, 1) := by decide +kernel
theorem dL_law_239 : decode cL_law 239 = .ok (.iaload, 1) := by decide +kernel
theorem dL_law_240 : decode cL_law 240 = .ok (.aload_n 0, 1) := by decide +kernel
theorem dL_law_241 : decode cL_law 241 = .ok (.iload_n 3, 1) := by decide +kernel
theorem dL_law_242 : decode cL_law 242 = .ok (.iconst 3, 1) := by decide +kernel
theorem dL_law_243 : decode cL_law 243 = .ok (.iadd, 1) := by decide +kernel
theorem dL_law_244 : decode cL_law 244 = .ok (.iaload, 1) := by decide +kernel
theorem dL_law_245 : decode cL_law 245 = .ok (.invokevirtual 40, 3) := by decide +kernel
theorem dL_law_248 : decode cL_law 248 = .ok (.pop, 1) := by decide +kernel
theorem dL_law_249 : decode cL_law 249 = .ok (.goto 252, 3) := by decide +kernel
theorem dL_law_252 : decode cL_law 252 = .ok (.aload_n 1, 1) := by decide +kernel
theorem dL_law_253 : decode cL_law 253 = .ok (.invokevirtual 41, 3) := by decide +kernel
theorem dL_law_256 : decode cL_law 256 = .ok (.pop, 1) := by decide +kernel
theorem dL_law_257 : decode cL_law 257 = .ok (.aload_n 2, 1) := by decide +kernel
theorem dL_law_258 : decode cL_law 258 = .ok (.invokevirtual 44, 3) := by decide +kernel
theorem dL_law_261 : decode cL_law 261 = .ok (.pop, 1) := by decide +kernel
theorem dL_law_262 : decode cL_law 262 = .ok (.goto 239, 3) := by decide +kernel
theorem dL_law_265 : decode cL_law 265 = .ok (.aload_n 1, 1) := by decide +kernel
theorem dL_law_266 : decode cL_law 266 = .ok (.aload_n 0, 1) := by decide +kernel
theorem dL_law_267 : decode cL_law 267 = .ok (.iload_n 3, 1) := by decide +kernel
theorem dL_law_268 : decode cL_law 268 = .ok (.iconst 1, 1) := by decide +kernel
theorem dL_law_269 : decode cL_law 269 = .ok (.iadd, 1) := by decide +kernel
theorem dL_law_270 : decode cL_law 270 = .ok (.iaload, 1) := by decide +kernel
theorem dL_law_271 : decode cL_law 271 = .ok (.invokevirtual 45, 3) := by decide +kernel
theorem dL_law_274 : decode cL_law 274 = .ok (.pop, 1) := by decide +kernel
theorem dL_law_275 : decode cL_law 275 = .ok (.aload_n 2, 1) := by decide +kernel
theorem dL_law_276 : decode cL_law 276 = .ok (.aload_n 0, 1) := by decide +kernel
theorem dL_law_277 : decode cL_law 277 = .ok (.iload_n 3, 1) := by decide +kernel
theorem dL_law_278 : decode cL_law 278 = .ok (.iconst 1, 1) := by decide +kernel
theorem dL_law_279 : decode cL_law 279 = .ok (.iadd, 1) := by decide +kernel
theorem dL_law_280 : decode cL_law 280 = .ok (.iaload, 1) := by decide +kernel
theorem dL_law_281 : decode cL_law 281 = .ok (.invokevirtual 49, 3) := by decide +kernel
theorem dL_law_284 : decode cL_law 284 = .ok (.pop, 1) := by decide +kernel
theorem dL_law_285 : decode cL_law 285 = .ok (.goto 216, 3) := by decide +kernel
theorem dL_law_288 : decode cL_law 288 = .ok (.aload_n 1, 1) := by decide +kernel
theorem dL_law_289 : decode cL_law 289 = .ok (.aload_n 0, 1) := by decide +kernel
theorem dL_law_290 : decode cL_law 290 = .ok (.iload_n 3, 1) := by decide +kernel
theorem dL_law_291 : decode cL_law 291 = .ok (.iconst 1, 1) := by decide +kernel
theorem dL_law_292 : decode cL_law 292 = .ok (.iadd, 1) := by decide +kernel
theorem dL_law_293 : decode cL_law 293 = .ok (.iaload, 1) := by decide +kernel
theorem dL_law_294 : decode cL_law 294 = .ok (.aload_n 0, 1) := by decide +kernel
theorem dL_law_295 : decode cL_law 295 = .ok (.iload_n 3, 1) := by decide +kernel
theorem dL_law_296 : decode cL_law 296 = .ok (.iconst 2, 1) := by decide +kernel
theorem dL_law_297 : decode cL_law 297 = .ok (.iadd, 1) := by decide +kernel
theorem dL_law_298 : decode cL_law 298 = .ok (.iaload, 1) := by decide +kernel
theorem dL_law_299 : decode cL_law 299 = .ok (.invokevirtual 50, 3) := by decide +kernel
theorem dL_law_302 : decode cL_law 302 = .ok (.pop, 1) := by decide +kernel
theorem dL_law_303 : decode cL_law 303 = .ok (.aload_n 2, 1) := by decide +kernel
theorem dL_law_304 : decode cL_law 304 = .ok (.aload_n 0, 1) := by decide +kernel
theorem dL_law_305 : decode cL_law 305 = .ok (.iload_n 3, 1) := by decide +kernel
theorem dL_law_306 : decode cL_law 306 = .ok (.iconst 1, 1) := by decide +kernel
theorem dL_law_307 : decode cL_law 307 = .ok (.iadd, 1) := by decide +kernel
theorem dL_law_308 : decode cL_law 308 = .ok (.iaload, 1) := by decide +kernel
theorem dL_law_309 : decode cL_law 309 = .ok (.aload_n 0, 1) := by decide +kernel
theorem dL_law_310 : decode cL_law 310 = .ok (.iload_n 3, 1) := by decide +kernel
theorem dL_law_311 : decode cL_law 311 = .ok (.iconst 2, 1) := by decide +kernel
theorem dL_law_312 : decode cL_law 312 = .ok (.iadd, 1) := by decide +kernel
theorem dL_law_313 : decode cL_law 313 = .ok (.iaload, 1) := by decide +kernel
theorem dL_law_314 : decode cL_law 314 = .ok (.invokevirtual 53, 3) := by decide +kernel
theorem dL_law_317 : decode cL_law 317 = .ok (.pop, 1) := by decide +kernel
theorem dL_law_318 : decode cL_law 318 = .ok (.goto 183, 3) := by decide +kernel
theorem dL_law_321 : decode cL_law 321 = .ok (.aload_n 1, 1) := by decide +kernel
theorem dL_law_322 : decode cL_law 322 = .ok (.invokevirtual 54, 3) := by decide +kernel
theorem dL_law_325 : decode cL_law 325 = .ok (.pop, 1) := by decide +kernel
theorem dL_law_326 : decode cL_law 326 = .ok (.aload_n 2, 1) := by decide +kernel
theorem dL_law_327 : decode cL_law 327 = .ok (.invokevirtual 57, 3) := by decide +kernel
theorem dL_law_330 : decode cL_law 330 = .ok (.pop, 1) := by decide +kernel
theorem dL_law_331 : decode cL_law 331 = .ok (.goto 170, 3) := by decide +kernel
theorem dL_law_334 : decode cL_law 334 = .ok (.aload_n 1, 1) := by decide +kernel
theorem dL_law_335 : decode cL_law 335 = .ok (.aload_n 0, 1) := by decide +kernel
theorem dL_law_336 : decode cL_law 336 = .ok (.iload_n 3, 1) := by decide +kernel
theorem dL_law_337 : decode cL_law 337 = .ok (.iconst 1, 1) := by decide +kernel
theorem dL_law_338 : decode cL_law 338 = .ok (.iadd, 1) := by decide +kernel
theorem dL_law_339 : decode cL_law 339 = .ok (.iaload, 1) := by decide +kernel
theorem dL_law_340 : decode cL_law 340 = .ok (.aload_n 0, 1) := by decide +kernel
theorem dL_law_341 : decode cL_law 341 = .ok (.iload_n 3, 1) := by decide +kernel
theorem dL_law_342 : decode cL_law 342 = .ok (.iconst 2, 1) := by decide +kernel
theorem dL_law_343 : decode cL_law 343 = .ok (.iadd, 1) := by decide +kernel
theorem dL_law_344 : decode cL_law 344 = .ok (.iaload, 1) := by decide +kernel
theorem dL_law_345 : decode cL_law 345 = .ok (.invokevirtual 58, 3) := by decide +kernel
theorem dL_law_348 : decode cL_law 348 = .ok (.pop, 1) := by decide +kernel
theorem dL_law_349 : decode cL_law 349 = .ok (.aload_n 2, 1) := by decide +kernel
theorem dL_law_350 : decode cL_law 350 = .ok (.aload_n 0, 1) := by decide +kernel
theorem dL_law_351 : decode cL_law 351 = .ok (.iload_n 3, 1) := by decide +kernel
theorem dL_law_352 : decode cL_law 352 = .ok (.iconst 1, 1) := by decide +kernel
theorem dL_law_353 : decode cL_law 353 = .ok (.iadd, 1) := by decide +kernel
theorem dL_law_354 : decode cL_law 354 = .ok (.iaload, 1) := by decide +kernel
theorem dL_law_355 : decode cL_law 355 = .ok (.aload_n 0, 1) := by decide +kernel
theorem dL_law_356 : decode cL_law 356 = .ok (.iload_n 3, 1) := by decide +kernel
theorem dL_law_357 : decode cL_law 357 = .ok (.iconst 2, 1) := by decide +kernel
theorem dL_law_358 : decode cL_law 358 = .ok (.iadd, 1) := by decide +kernel
theorem dL_law_359 : decode cL_law 359 = .ok (.iaload, 1) := by decide +kernel
theorem dL_law_360 : decode cL_law 360 = .ok (.invokevirtual 61, 3) := by decide +kernel
theorem dL_law_363 : decode cL_law 363 = .ok (.pop, 1) := by decide +kernel
theorem dL_law_364 : decode cL_law 364 = .ok (.goto 137, 3) := by decide +kernel
theorem dL_law_367 : decode cL_law 367 = .ok (.aload_n 1, 1) := by decide +kernel
theorem dL_law_368 : decode cL_law 368 = .ok (.invokevirtual 62, 3) := by decide +kernel
theorem dL_law_371 : decode cL_law 371 = .ok (.pop, 1) := by decide +kernel
theorem dL_law_372 : decode cL_law 372 = .ok (.aload_n 2, 1) := by decide +kernel
theorem dL_law_373 : decode cL_law 373 = .ok (.invokevirtual 65, 3) := by decide +kernel
theorem dL_law_376 : decode cL_law 376 = .ok (.pop, 1) := by decide +kernel
theorem dL_law_377 : decode cL_law 377 = .ok (.goto 124, 3) := by decide +kernel
theorem dL_law_380 : decode cL_law 380 = .ok (.aload_n 1, 1) := by decide +kernel
theorem dL_law_381 : decode cL_law 381 = .ok (.invokevirtual 66, 3) := by decide +kernel
theorem dL_law_384 : decode cL_law 384 = .ok (.pop, 1) := by decide +kernel
theorem dL_law_385 : decode cL_law 385 = .ok (.aload_n 2, 1) := by decide +kernel
theorem dL_law_386 : decode cL_law 386 = .ok (.invokevirtual 69, 3) := by decide +kernel
theorem dL_law_389 : decode cL_law 389 = .ok (.pop, 1) := by decide +kernel
theorem dL_law_390 : decode cL_law 390 = .ok (.goto 111, 3) := by decide +kernel
theorem dL_law_393 : decode cL_law 393 = .ok (.aload_n 1, 1) := by decide +kernel
theorem dL_law_394 : decode cL_law 394 = .ok (.aload_n 0, 1) := by decide +kernel
theorem dL_law_395 : decode cL_law 395 = .ok (.iload_n 3, 1) := by decide +kernel
theorem dL_law_396 : decode cL_law 396 = .ok (.iconst 1, 1) := by decide +kernel
theorem dL_law_397 : decode cL_law 397 = .ok (.iadd, 1) := by decide +kernel
theorem dL_law_398 : decode cL_law 398 = .ok (.iaload, 1) := by decide +kernel
theorem dL_law_399 : decode cL_law 399 = .ok (.ifCond .eq 7, 3) := by decide +kernel
theorem dL_law_402 : decode cL_law 402 = .ok (.iconst 1, 1) := by decide +kernel
theorem dL_law_403 : decode cL_law 403 = .ok (.goto 4, 3) := by decide +kernel
theorem dL_law_406 : decode cL_law 406 = .ok (.iconst 0, 1) := by decide +kernel
theorem dL_law_407 : decode cL_law 407 = .ok (.invokevirtual 70, 3) := by decide +kernel
theorem dL_law_410 : decode cL_law 410 = .ok (.pop, 1) := by decide +kernel
theorem dL_law_411 : decode cL_law 411 = .ok (.aload_n 2, 1) := by decide +kernel
theorem dL_law_412 : decode cL_law 412 = .ok (.aload_n 0, 1) := by decide +kernel
theorem dL_law_413 : decode cL_law 413 = .ok (.iload_n 3, 1) := by decide +kernel
theorem dL_law_414 : decode cL_law 414 = .ok (.iconst 1, 1) := by decide +kernel
theorem dL_law_415 : decode cL_law 415 = .ok (.iadd, 1) := by decide +kernel
theorem dL_law_416 : decode cL_law 416 = .ok (.iaload, 1) := by decide +kernel
theorem dL_law_417 : decode cL_law 417 = .ok (.ifCond .eq 7, 3) := by decide +kernel
theorem dL_law_420 : decode cL_law 420 = .ok (.iconst 1, 1) := by decide +kernel
theorem dL_law_421 : decode cL_law 421 = .ok (.goto 4, 3) := by decide +kernel
theorem dL_law_424 : decode cL_law 424 = .ok (.iconst 0, 1) := by decide +kernel
theorem dL_law_425 : decode cL_law 425 = .ok (.invokevirtual 74, 3) := by decide +kernel
theorem dL_law_428 : decode cL_law 428 = .ok (.pop, 1) := by decide +kernel
theorem dL_law_429 : decode cL_law 429 = .ok (.goto 72, 3) := by decide +kernel
theorem dL_law_432 : decode cL_law 432 = .ok (.aload_n 1, 1) := by decide +kernel
theorem dL_law_433 : decode cL_law 433 = .ok (.invokevirtual 75, 3) := by decide +kernel
theorem dL_law_436 : decode cL_law 436 = .ok (.pop, 1) := by decide +kernel
theorem dL_law_437 : decode cL_law 437 = .ok (.aload_n 2, 1) := by decide +kernel
theorem dL_law_438 : decode cL_law 438 = .ok (.invokevirtual 78, 3) := by decide +kernel
theorem dL_law_441 : decode cL_law 441 = .ok (.pop, 1) := by decide +kernel
theorem dL_law_442 : decode cL_law 442 = .ok (.goto 59, 3) := by decide +kernel
theorem dL_law_445 : decode cL_law 445 = .ok (.aload_n 1, 1) := by decide +kernel
theorem dL_law_446 : decode cL_law 446 = .ok (.aload_n 0, 1) := by decide +kernel
theorem dL_law_447 : decode cL_law 447 = .ok (.iload_n 3, 1) := by decide +kernel
theorem dL_law_448 : decode cL_law 448 = .ok (.iconst 1, 1) := by decide +kernel
theorem dL_law_449 : decode cL_law 449 = .ok (.iadd, 1) := by decide +kernel
theorem dL_law_450 : decode cL_law 450 = .ok (.iaload, 1) := by decide +kernel
theorem dL_law_451 : decode cL_law 451 = .ok (.invokevirtual 79, 3) := by decide +kernel
theorem dL_law_454 : decode cL_law 454 = .ok (.pop, 1) := by decide +kernel
theorem dL_law_455 : decode cL_law 455 = .ok (.aload_n 2, 1) := by decide +kernel
theorem dL_law_456 : decode cL_law 456 = .ok (.aload_n 0, 1) := by decide +kernel
theorem dL_law_457 : decode cL_law 457 = .ok (.iload_n 3, 1) := by decide +kernel
theorem dL_law_458 : decode cL_law 458 = .ok (.iconst 1, 1) := by decide +kernel
theorem dL_law_459 : decode cL_law 459 = .ok (.iadd, 1) := by decide +kernel
theorem dL_law_460 : decode cL_law 460 = .ok (.iaload, 1) := by decide +kernel
theorem dL_law_461 : decode cL_law 461 = .ok (.invokevirtual 82, 3) := by decide +kernel
theorem dL_law_464 : decode cL_law 464 = .ok (.pop, 1) := by decide +kernel
theorem dL_law_465 : decode cL_law 465 = .ok (.goto 36, 3) := by decide +kernel
theorem dL_law_468 : decode cL_law 468 = .ok (.aload_n 1, 1) := by decide +kernel
theorem dL_law_469 : decode cL_law 469 = .ok (.aload_n 0, 1) := by decide +kernel
theorem dL_law_470 : decode cL_law 470 = .ok (.iload_n 3, 1) := by decide +kernel
theorem dL_law_471 : decode cL_law 471 = .ok (.iconst 1, 1) := by decide +kernel
theorem dL_law_472 : decode cL_law 472 = .ok (.iadd, 1) := by decide +kernel
theorem dL_law_473 : decode cL_law 473 = .ok (.iaload, 1) := by decide +kernel
theorem dL_law_474 : decode cL_law 474 = .ok (.aload_n 0, 1) := by decide +kernel
theorem dL_law_475 : decode cL_law 475 = .ok (.iload_n 3, 1) := by decide +kernel
theorem dL_law_476 : decode cL_law 476 = .ok (.iconst 2, 1) := by decide +kernel
theorem dL_law_477 : decode cL_law 477 = .ok (.iadd, 1) := by decide +kernel
theorem dL_law_478 : decode cL_law 478 = .ok (.iaload, 1) := by decide +kernel
theorem dL_law_479 : decode cL_law 479 = .ok (.invokevirtual 83, 3) := by decide +kernel
theorem dL_law_482 : decode cL_law 482 = .ok (.pop, 1) := by decide +kernel
theorem dL_law_483 : decode cL_law 483 = .ok (.aload_n 2, 1) := by decide +kernel
theorem dL_law_484 : decode cL_law 484 = .ok (.aload_n 0, 1) := by decide +kernel
theorem dL_law_485 : decode cL_law 485 = .ok (.iload_n 3, 1) := by decide +kernel
theorem dL_law_486 : decode cL_law 486 = .ok (.iconst 1, 1) := by decide +kernel
theorem dL_law_487 : decode cL_law 487 = .ok (.iadd, 1) := by decide +kernel
theorem dL_law_488 : decode cL_law 488 = .ok (.iaload, 1) := by decide +kernel
theorem dL_law_489 : decode cL_law 489 = .ok (.aload_n 0, 1) := by decide +kernel
theorem dL_law_490 : decode cL_law 490 = .ok (.iload_n 3, 1) := by decide +kernel
theorem dL_law_491 : decode cL_law 491 = .ok (.iconst 2, 1) := by decide +kernel
theorem dL_law_492 : decode cL_law 492 = .ok (.iadd, 1) := by decide +kernel
theorem dL_law_493 : decode cL_law 493 = .ok (.iaload, 1) := by decide +kernel
theorem dL_law_494 : decode cL_law 494 = .ok (.invokevirtual 87, 3) := by decide +kernel
theorem dL_law_497 : decode cL_law 497 = .ok (.pop, 1) := by decide +kernel
theorem dL_law_498 : decode cL_law 498 = .ok (.goto 3, 3) := by decide +kernel
theorem dL_law_501 : decode cL_law 501 = .ok (.iinc 3 4, 3) := by decide +kernel
theorem dL_law_504 : decode cL_law 504 = .ok (.goto (-486), 3) := by decide +kernel
theorem dL_law_507 : decode cL_law 507 = .ok (.iconst 1, 1) := by decide +kernel
theorem dL_law_508 : decode cL_law 508 = .ok (.ireturn, 1) := by decide +kernel
