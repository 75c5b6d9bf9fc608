theorem dX0_init_0 : decode cX0_init 0 = .ok (.aload_n 0, 1) := by decide +kernel
theorem dX0_init_1 : decode cX0_init 1 = .ok (.invokespecial 3, 3) := by decide +kernel
theorem dX0_init_4 : decode cX0_init 4 = .ok (.aload_n 0, 1) := by decide +kernel
theorem dX0_init_5 : decode cX0_init 5 = .ok (.bipush 16, 2) := by decide +kernel
theorem dX0_init_7 : decode cX0_init 7 = .ok (.newarray .int, 2) := by decide +kernel
theorem dX0_init_9 : decode cX0_init 9 = .ok (.putfield 9, 3) := by decide +kernel
theorem dX0_init_12 : decode cX0_init 12 = .ok (.aload_n 0, 1) := by decide +kernel
theorem dX0_init_13 : decode cX0_init 13 = .ok (.sipush 176, 3) := by decide +kernel
theorem dX0_init_16 : decode cX0_init 16 = .ok (.newarray .int, 2) := by decide +kernel
theorem dX0_init_18 : decode cX0_init 18 = .ok (.putfield 15, 3) := by decide +kernel
theorem dX0_init_21 : decode cX0_init 21 = .ok (.aload_n 0, 1) := by decide +kernel
theorem dX0_init_22 : decode cX0_init 22 = .ok (.bipush 16, 2) := by decide +kernel
theorem dX0_init_24 : decode cX0_init 24 = .ok (.newarray .int, 2) := by decide +kernel
theorem dX0_init_26 : decode cX0_init 26 = .ok (.putfield 18, 3) := by decide +kernel
theorem dX0_init_29 : decode cX0_init 29 = .ok (.aload_n 0, 1) := by decide +kernel
theorem dX0_init_30 : decode cX0_init 30 = .ok (.bipush 16, 2) := by decide +kernel
theorem dX0_init_32 : decode cX0_init 32 = .ok (.newarray .int, 2) := by decide +kernel
theorem dX0_init_34 : decode cX0_init 34 = .ok (.putfield 21, 3) := by decide +kernel
theorem dX0_init_37 : decode cX0_init 37 = .ok (.aload_n 0, 1) := by decide +kernel
theorem dX0_init_38 : decode cX0_init 38 = .ok (.bipush 16, 2) := by decide +kernel
theorem dX0_init_40 : decode cX0_init 40 = .ok (.newarray .int, 2) := by decide +kernel
theorem dX0_init_42 : decode cX0_init 42 = .ok (.putfield 24, 3) := by decide +kernel
theorem dX0_init_45 : decode cX0_init 45 = .ok (.aload_n 0, 1) := by decide +kernel
theorem dX0_init_46 : decode cX0_init 46 = .ok (.iconst 0, 1) := by decide +kernel
theorem dX0_init_47 : decode cX0_init 47 = .ok (.putfield 27, 3) := by decide +kernel
theorem dX0_init_50 : decode cX0_init 50 = .ok (.return_, 1) := by decide +kernel
theorem dX0_clear_0 : decode cX0_clear 0 = .ok (.aload_n 0, 1) := by decide +kernel
theorem dX0_clear_1 : decode cX0_clear 1 = .ok (.getfield 9, 3) := by decide +kernel
theorem dX0_clear_4 : decode cX0_clear 4 = .ok (.iconst 0, 1) := by decide +kernel
theorem dX0_clear_5 : decode cX0_clear 5 = .ok (.invokestatic 31, 3) := by decide +kernel
theorem dX0_clear_8 : decode cX0_clear 8 = .ok (.aload_n 0, 1) := by decide +kernel
theorem dX0_clear_9 : decode cX0_clear 9 = .ok (.iconst 0, 1) := by decide +kernel
theorem dX0_clear_10 : decode cX0_clear 10 = .ok (.putfield 27, 3) := by decide +kernel
theorem dX0_clear_13 : decode cX0_clear 13 = .ok (.return_, 1) := by decide +kernel
theorem dX0_put_0 : decode cX0_put 0 = .ok (.aload_n 0, 1) := by decide +kernel
theorem dX0_put_1 : decode cX0_put 1 = .ok (.getfield 9, 3) := by decide +kernel
theorem dX0_put_4 : decode cX0_put 4 = .ok (.iload_n 1, 1) := by decide +kernel
theorem dX0_put_5 : decode cX0_put 5 = .ok (.iload_n 2, 1) := by decide +kernel
theorem dX0_put_6 : decode cX0_put 6 = .ok (.iastore, 1) := by decide +kernel
theorem dX0_put_7 : decode cX0_put 7 = .ok (.aload_n 0, 1) := by decide +kernel
theorem dX0_put_8 : decode cX0_put 8 = .ok (.iconst 0, 1) := by decide +kernel
theorem dX0_put_9 : decode cX0_put 9 = .ok (.putfield 27, 3) := by decide +kernel
theorem dX0_put_12 : decode cX0_put 12 = .ok (.return_, 1) := by decide +kernel
theorem dX0_make_0 : decode cX0_make 0 = .ok (.aload_n 0, 1) := by decide +kernel
theorem dX0_make_1 : decode cX0_make 1 = .ok (.invokevirtual 37, 3) := by decide +kernel
theorem dX0_make_4 : decode cX0_make 4 = .ok (.aload_n 0, 1) := by decide +kernel
theorem dX0_make_5 : decode cX0_make 5 = .ok (.invokevirtual 40, 3) := by decide +kernel
theorem dX0_make_8 : decode cX0_make 8 = .ok (.aload_n 0, 1) := by decide +kernel
theorem dX0_make_9 : decode cX0_make 9 = .ok (.iconst 1, 1) := by decide +kernel
theorem dX0_make_10 : decode cX0_make 10 = .ok (.putfield 27, 3) := by decide +kernel
theorem dX0_make_13 : decode cX0_make 13 = .ok (.return_, 1) := by decide +kernel
theorem dX0_makeWords_0 : decode cX0_makeWords 0 = .ok (.aload_n 0, 1) := by decide +kernel
theorem dX0_makeWords_1 : decode cX0_makeWords 1 = .ok (.getfield 9, 3) := by decide +kernel
theorem dX0_makeWords_4 : decode cX0_makeWords 4 = .ok (.iconst 0, 1) := by decide +kernel
theorem dX0_makeWords_5 : decode cX0_makeWords 5 = .ok (.aload_n 0, 1) := by decide +kernel
theorem dX0_makeWords_6 : decode cX0_makeWords 6 = .ok (.getfield 15, 3) := by decide +kernel
theorem dX0_makeWords_9 : decode cX0_makeWords 9 = .ok (.iconst 0, 1) := by decide +kernel
theorem dX0_makeWords_10 : decode cX0_makeWords 10 = .ok (.bipush 16, 2) := by decide +kernel
theorem dX0_makeWords_12 : decode cX0_makeWords 12 = .ok (.invokestatic 43, 3) := by decide +kernel
theorem dX0_makeWords_15 : decode cX0_makeWords 15 = .ok (.iconst 1, 1) := by decide +kernel
theorem dX0_makeWords_16 : decode cX0_makeWords 16 = .ok (.istore_n 1, 1) := by decide +kernel
theorem dX0_makeWords_17 : decode cX0_makeWords 17 = .ok (.bipush 16, 2) := by decide +kernel
theorem dX0_makeWords_19 : decode cX0_makeWords 19 = .ok (.istore_n 2, 1) := by decide +kernel
theorem dX0_makeWords_20 : decode cX0_makeWords 20 = .ok (.iload_n 2, 1) := by decide +kernel
theorem dX0_makeWords_21 : decode cX0_makeWords 21 = .ok (.sipush 176, 3) := by decide +kernel
theorem dX0_makeWords_24 : decode cX0_makeWords 24 = .ok (.if_icmp .ge 35, 3) := by decide +kernel
theorem dX0_makeWords_27 : decode cX0_makeWords 27 = .ok (.iload_n 2, 1) := by decide +kernel
theorem dX0_makeWords_28 : decode cX0_makeWords 28 = .ok (.bipush 16, 2) := by decide +kernel
theorem dX0_makeWords_30 : decode cX0_makeWords 30 = .ok (.irem, 1) := by decide +kernel
theorem dX0_makeWords_31 : decode cX0_makeWords 31 = .ok (.ifCond .ne 17, 3) := by decide +kernel
theorem dX0_makeWords_34 : decode cX0_makeWords 34 = .ok (.aload_n 0, 1) := by decide +kernel
theorem dX0_makeWords_35 : decode cX0_makeWords 35 = .ok (.iload_n 2, 1) := by decide +kernel
theorem dX0_makeWords_36 : decode cX0_makeWords 36 = .ok (.iload_n 1, 1) := by decide +kernel
theorem dX0_makeWords_37 : decode cX0_makeWords 37 = .ok (.invokevirtual 49, 3) := by decide +kernel
theorem dX0_makeWords_40 : decode cX0_makeWords 40 = .ok (.iload_n 1, 1) := by decide +kernel
theorem dX0_makeWords_41 : decode cX0_makeWords 41 = .ok (.invokestatic 53, 3) := by decide +kernel
theorem dX0_makeWords_44 : decode cX0_makeWords 44 = .ok (.istore_n 1, 1) := by decide +kernel
theorem dX0_makeWords_45 : decode cX0_makeWords 45 = .ok (.goto 8, 3) := by decide +kernel
theorem dX0_makeWords_48 : decode cX0_makeWords 48 = .ok (.aload_n 0, 1) := by decide +kernel
theorem dX0_makeWords_49 : decode cX0_makeWords 49 = .ok (.iload_n 2, 1) := by decide +kernel
theorem dX0_makeWords_50 : decode cX0_makeWords 50 = .ok (.invokevirtual 57, 3) := by decide +kernel
theorem dX0_makeWords_53 : decode cX0_makeWords 53 = .ok (.iinc 2 4, 3) := by decide +kernel
theorem dX0_makeWords_56 : decode cX0_makeWords 56 = .ok (.goto (-36), 3) := by decide +kernel
theorem dX0_makeWords_59 : decode cX0_makeWords 59 = .ok (.return_, 1) := by decide +kernel
theorem dX0_makePlainWord_0 : decode cX0_makePlainWord 0 = .ok (.iconst 0, 1) := by decide +kernel
theorem dX0_makePlainWord_1 : decode cX0_makePlainWord 1 = .ok (.istore_n 2, 1) := by decide +kernel
theorem dX0_makePlainWord_2 : decode cX0_makePlainWord 2 = .ok (.iload_n 2, 1) := by decide +kernel
theorem dX0_makePlainWord_3 : decode cX0_makePlainWord 3 = .ok (.iconst 4, 1) := by decide +kernel
theorem dX0_makePlainWord_4 : decode cX0_makePlainWord 4 = .ok (.if_icmp .ge 39, 3) := by decide +kernel
theorem dX0_makePlainWord_7 : decode cX0_makePlainWord 7 = .ok (.aload_n 0, 1) := by decide +kernel
theorem dX0_makePlainWord_8 : decode cX0_makePlainWord 8 = .ok (.getfield 15, 3) := by decide +kernel
theorem dX0_makePlainWord_11 : decode cX0_makePlainWord 11 = .ok (.iload_n 1, 1) := by decide +kernel
theorem dX0_makePlainWord_12 : decode cX0_makePlainWord 12 = .ok (.iload_n 2, 1) := by decide +kernel
theorem dX0_makePlainWord_13 : decode cX0_makePlainWord 13 = .ok (.iadd, 1) := by decide +kernel
theorem dX0_makePlainWord_14 : decode cX0_makePlainWord 14 = .ok (.aload_n 0, 1) := by decide +kernel
theorem dX0_makePlainWord_15 : decode cX0_makePlainWord 15 = .ok (.getfield 15, 3) := by decide +kernel
theorem dX0_makePlainWord_18 : decode cX0_makePlainWord 18 = .ok (.iload_n 1, 1) := by decide +kernel
theorem dX0_makePlainWord_19 : decode cX0_makePlainWord 19 = .ok (.bipush 16, 2) := by decide +kernel
theorem dX0_makePlainWord_21 : decode cX0_makePlainWord 21 = .ok (.isub, 1) := by decide +kernel
theorem dX0_makePlainWord_22 : decode cX0_makePlainWord 22 = .ok (.iload_n 2, 1) := by decide +kernel
theorem dX0_makePlainWord_23 : decode cX0_makePlainWord 23 = .ok (.iadd, 1) := by decide +kernel
theorem dX0_makePlainWord_24 : decode cX0_makePlainWord 24 = .ok (.iaload, 1) := by decide +kernel
theorem dX0_makePlainWord_25 : decode cX0_makePlainWord 25 = .ok (.aload_n 0, 1) := by decide +kernel
theorem dX0_makePlainWord_26 : decode cX0_makePlainWord 26 = .ok (.getfield 15, 3) := by decide +kernel
theorem dX0_makePlainWord_29 : decode cX0_makePlainWord 29 = .ok (.iload_n 1, 1) := by decide +kernel
theorem dX0_makePlainWord_30 : decode cX0_makePlainWord 30 = .ok (.iconst 4, 1) := by decide +kernel
theorem dX0_makePlainWord_31 : decode cX0_makePlainWord 31 = .ok (.isub, 1) := by decide +kernel
theorem dX0_makePlainWord_32 : decode cX0_makePlainWord 32 = .ok (.iload_n 2, 1) := by decide +kernel
theorem dX0_makePlainWord_33 : decode cX0_makePlainWord 33 = .ok (.iadd, 1) := by decide +kernel
theorem dX0_makePlainWord_34 : decode cX0_makePlainWord 34 = .ok (.iaload, 1) := by decide +kernel
theorem dX0_makePlainWord_35 : decode cX0_makePlainWord 35 = .ok (.ixor, 1) := by decide +kernel
theorem dX0_makePlainWord_36 : decode cX0_makePlainWord 36 = .ok (.iastore, 1) := by decide +kernel
theorem dX0_makePlainWord_37 : decode cX0_makePlainWord 37 = .ok (.iinc 2 1, 3) := by decide +kernel
theorem dX0_makePlainWord_40 : decode cX0_makePlainWord 40 = .ok (.goto (-38), 3) := by decide +kernel
theorem dX0_makePlainWord_43 : decode cX0_makePlainWord 43 = .ok (.return_, 1) := by decide +kernel
theorem dX0_makeTurnedWord_0 : decode cX0_makeTurnedWord 0 = .ok (.iconst 0, 1) := by decide +kernel
theorem dX0_makeTurnedWord_1 : decode cX0_makeTurnedWord 1 = .ok (.istore_n 3, 1) := by decide +kernel
theorem dX0_makeTurnedWord_2 : decode cX0_makeTurnedWord 2 = .ok (.iload_n 3, 1) := by decide +kernel
theorem dX0_makeTurnedWord_3 : decode cX0_makeTurnedWord 3 = .ok (.iconst 4, 1) := by decide +kernel
theorem dX0_makeTurnedWord_4 : decode cX0_makeTurnedWord 4 = .ok (.if_icmp .ge 47, 3) := by decide +kernel
theorem dX0_makeTurnedWord_7 : decode cX0_makeTurnedWord 7 = .ok (.aload_n 0, 1) := by decide +kernel
theorem dX0_makeTurnedWord_8 : decode cX0_makeTurnedWord 8 = .ok (.getfield 15, 3) := by decide +kernel
theorem dX0_makeTurnedWord_11 : decode cX0_makeTurnedWord 11 = .ok (.iload_n 1, 1) := by decide +kernel
theorem dX0_makeTurnedWord_12 : decode cX0_makeTurnedWord 12 = .ok (.iload_n 3, 1) := by decide +kernel
theorem dX0_makeTurnedWord_13 : decode cX0_makeTurnedWord 13 = .ok (.iadd, 1) := by decide +kernel
theorem dX0_makeTurnedWord_14 : decode cX0_makeTurnedWord 14 = .ok (.aload_n 0, 1) := by decide +kernel
theorem dX0_makeTurnedWord_15 : decode cX0_makeTurnedWord 15 = .ok (.getfield 15, 3) := by decide +kernel
theorem dX0_makeTurnedWord_18 : decode cX0_makeTurnedWord 18 = .ok (.iload_n 1, 1) := by decide +kernel
theorem dX0_makeTurnedWord_19 : decode cX0_makeTurnedWord 19 = .ok (.bipush 16, 2) := by decide +kernel
theorem dX0_makeTurnedWord_21 : decode cX0_makeTurnedWord 21 = .ok (.isub, 1) := by decide +kernel
theorem dX0_makeTurnedWord_22 : decode cX0_makeTurnedWord 22 = .ok (.iload_n 3, 1) := by decide +kernel
theorem dX0_makeTurnedWord_23 : decode cX0_makeTurnedWord 23 = .ok (.iadd, 1) := by decide +kernel
theorem dX0_makeTurnedWord_24 : decode cX0_makeTurnedWord 24 = .ok (.iaload, 1) := by decide +kernel
theorem dX0_makeTurnedWord_25 : decode cX0_makeTurnedWord 25 = .ok (.getstatic 61, 3) := by decide +kernel
theorem dX0_makeTurnedWord_28 : decode cX0_makeTurnedWord 28 = .ok (.aload_n 0, 1) := by decide +kernel
theorem dX0_makeTurnedWord_29 : decode cX0_makeTurnedWord 29 = .ok (.getfield 15, 3) := by decide +kernel
theorem dX0_makeTurnedWord_32 : decode cX0_makeTurnedWord 32 = .ok (.iload_n 1, 1) := by decide +kernel
theorem dX0_makeTurnedWord_33 : decode cX0_makeTurnedWord 33 = .ok (.iconst 4, 1) := by decide +kernel
theorem dX0_makeTurnedWord_34 : decode cX0_makeTurnedWord 34 = .ok (.isub, 1) := by decide +kernel
theorem dX0_makeTurnedWord_35 : decode cX0_makeTurnedWord 35 = .ok (.iload_n 3, 1) := by decide +kernel
theorem dX0_makeTurnedWord_36 : decode cX0_makeTurnedWord 36 = .ok (.iconst 1, 1) := by decide +kernel
theorem dX0_makeTurnedWord_37 : decode cX0_makeTurnedWord 37 = .ok (.iadd, 1) := by decide +kernel
theorem dX0_makeTurnedWord_38 : decode cX0_makeTurnedWord 38 = .ok (.iconst 4, 1) := by decide +kernel
theorem dX0_makeTurnedWord_39 : decode cX0_makeTurnedWord 39 = .ok (.irem, 1) := by decide +kernel
theorem dX0_makeTurnedWord_40 : decode cX0_makeTurnedWord 40 = .ok (.iadd, 1) := by decide +kernel
theorem dX0_makeTurnedWord_41 : decode cX0_makeTurnedWord 41 = .ok (.iaload, 1) := by decide +kernel
theorem dX0_makeTurnedWord_42 : decode cX0_makeTurnedWord 42 = .ok (.iaload, 1) := by decide +kernel
theorem dX0_makeTurnedWord_43 : decode cX0_makeTurnedWord 43 = .ok (.ixor, 1) := by decide +kernel
theorem dX0_makeTurnedWord_44 : decode cX0_makeTurnedWord 44 = .ok (.iastore, 1) := by decide +kernel
theorem dX0_makeTurnedWord_45 : decode cX0_makeTurnedWord 45 = .ok (.iinc 3 1, 3) := by decide +kernel
theorem dX0_makeTurnedWord_48 : decode cX0_makeTurnedWord 48 = .ok (.goto (-46), 3) := by decide +kernel
theorem dX0_makeTurnedWord_51 : decode cX0_makeTurnedWord 51 = .ok (.aload_n 0, 1) := by decide +kernel
theorem dX0_makeTurnedWord_52 : decode cX0_makeTurnedWord 52 = .ok (.getfield 15, 3) := by decide +kernel
theorem dX0_makeTurnedWord_55 : decode cX0_makeTurnedWord 55 = .ok (.iload_n 1, 1) := by decide +kernel
theorem dX0_makeTurnedWord_56 : decode cX0_makeTurnedWord 56 = .ok (.dup2, 1) := by decide +kernel
theorem dX0_makeTurnedWord_57 : decode cX0_makeTurnedWord 57 = .ok (.iaload, 1) := by decide +kernel
theorem dX0_makeTurnedWord_58 : decode cX0_makeTurnedWord 58 = .ok (.iload_n 2, 1) := by decide +kernel
theorem dX0_makeTurnedWord_59 : decode cX0_makeTurnedWord 59 = .ok (.ixor, 1) := by decide +kernel
theorem dX0_makeTurnedWord_60 : decode cX0_makeTurnedWord 60 = .ok (.iastore, 1) := by decide +kernel
theorem dX0_makeTurnedWord_61 : decode cX0_makeTurnedWord 61 = .ok (.return_, 1) := by decide +kernel
theorem dX0_makeHalves_0 : decode cX0_makeHalves 0 = .ok (.aload_n 0, 1) := by decide +kernel
theorem dX0_makeHalves_1 : decode cX0_makeHalves 1 = .ok (.getfield 18, 3) := by decide +kernel
theorem dX0_makeHalves_4 : decode cX0_makeHalves 4 = .ok (.iconst 0, 1) := by decide +kernel
theorem dX0_makeHalves_5 : decode cX0_makeHalves 5 = .ok (.invokestatic 31, 3) := by decide +kernel
theorem dX0_makeHalves_8 : decode cX0_makeHalves 8 = .ok (.aload_n 0, 1) := by decide +kernel
theorem dX0_makeHalves_9 : decode cX0_makeHalves 9 = .ok (.aload_n 0, 1) := by decide +kernel
theorem dX0_makeHalves_10 : decode cX0_makeHalves 10 = .ok (.getfield 18, 3) := by decide +kernel
theorem dX0_makeHalves_13 : decode cX0_makeHalves 13 = .ok (.invokevirtual 64, 3) := by decide +kernel
theorem dX0_makeHalves_16 : decode cX0_makeHalves 16 = .ok (.aload_n 0, 1) := by decide +kernel
theorem dX0_makeHalves_17 : decode cX0_makeHalves 17 = .ok (.getfield 18, 3) := by decide +kernel
theorem dX0_makeHalves_20 : decode cX0_makeHalves 20 = .ok (.aload_n 0, 1) := by decide +kernel
theorem dX0_makeHalves_21 : decode cX0_makeHalves 21 = .ok (.getfield 18, 3) := by decide +kernel
theorem dX0_makeHalves_24 : decode cX0_makeHalves 24 = .ok (.invokestatic 68, 3) := by decide +kernel
theorem dX0_makeHalves_27 : decode cX0_makeHalves 27 = .ok (.aload_n 0, 1) := by decide +kernel
theorem dX0_makeHalves_28 : decode cX0_makeHalves 28 = .ok (.getfield 18, 3) := by decide +kernel
theorem dX0_makeHalves_31 : decode cX0_makeHalves 31 = .ok (.aload_n 0, 1) := by decide +kernel
theorem dX0_makeHalves_32 : decode cX0_makeHalves 32 = .ok (.getfield 21, 3) := by decide +kernel
theorem dX0_makeHalves_35 : decode cX0_makeHalves 35 = .ok (.invokestatic 68, 3) := by decide +kernel
theorem dX0_makeHalves_38 : decode cX0_makeHalves 38 = .ok (.return_, 1) := by decide +kernel
theorem dX0_putDoubled_0 : decode cX0_putDoubled 0 = .ok (.aload_n 0, 1) := by decide +kernel
theorem dX0_putDoubled_1 : decode cX0_putDoubled 1 = .ok (.iconst 0, 1) := by decide +kernel
theorem dX0_putDoubled_2 : decode cX0_putDoubled 2 = .ok (.iaload, 1) := by decide +kernel
theorem dX0_putDoubled_3 : decode cX0_putDoubled 3 = .ok (.sipush 128, 3) := by decide +kernel
theorem dX0_putDoubled_6 : decode cX0_putDoubled 6 = .ok (.if_icmp .lt 9, 3) := by decide +kernel
theorem dX0_putDoubled_9 : decode cX0_putDoubled 9 = .ok (.sipush 135, 3) := by decide +kernel
theorem dX0_putDoubled_12 : decode cX0_putDoubled 12 = .ok (.goto 4, 3) := by decide +kernel
theorem dX0_putDoubled_15 : decode cX0_putDoubled 15 = .ok (.iconst 0, 1) := by decide +kernel
theorem dX0_putDoubled_16 : decode cX0_putDoubled 16 = .ok (.istore_n 2, 1) := by decide +kernel
theorem dX0_putDoubled_17 : decode cX0_putDoubled 17 = .ok (.iconst 0, 1) := by decide +kernel
theorem dX0_putDoubled_18 : decode cX0_putDoubled 18 = .ok (.istore_n 3, 1) := by decide +kernel
theorem dX0_putDoubled_19 : decode cX0_putDoubled 19 = .ok (.iload_n 3, 1) := by decide +kernel
theorem dX0_putDoubled_20 : decode cX0_putDoubled 20 = .ok (.bipush 15, 2) := by decide +kernel
theorem dX0_putDoubled_22 : decode cX0_putDoubled 22 = .ok (.if_icmp .ge 30, 3) := by decide +kernel
theorem dX0_putDoubled_25 : decode cX0_putDoubled 25 = .ok (.aload_n 1, 1) := by decide +kernel
theorem dX0_putDoubled_26 : decode cX0_putDoubled 26 = .ok (.iload_n 3, 1) := by decide +kernel
theorem dX0_putDoubled_27 : decode cX0_putDoubled 27 = .ok (.aload_n 0, 1) := by decide +kernel
theorem dX0_putDoubled_28 : decode cX0_putDoubled 28 = .ok (.iload_n 3, 1) := by decide +kernel
theorem dX0_putDoubled_29 : decode cX0_putDoubled 29 = .ok (.iaload, 1) := by decide +kernel
theorem dX0_putDoubled_30 : decode cX0_putDoubled 30 = .ok (.iconst 1, 1) := by decide +kernel
theorem dX0_putDoubled_31 : decode cX0_putDoubled 31 = .ok (.ishl, 1) := by decide +kernel
theorem dX0_putDoubled_32 : decode cX0_putDoubled 32 = .ok (.sipush 255, 3) := by decide +kernel
theorem dX0_putDoubled_35 : decode cX0_putDoubled 35 = .ok (.iand, 1) := by decide +kernel
theorem dX0_putDoubled_36 : decode cX0_putDoubled 36 = .ok (.aload_n 0, 1) := by decide +kernel
theorem dX0_putDoubled_37 : decode cX0_putDoubled 37 = .ok (.iload_n 3, 1) := by decide +kernel
theorem dX0_putDoubled_38 : decode cX0_putDoubled 38 = .ok (.iconst 1, 1) := by decide +kernel
theorem dX0_putDoubled_39 : decode cX0_putDoubled 39 = .ok (.iadd, 1) := by decide +kernel
theorem dX0_putDoubled_40 : decode cX0_putDoubled 40 = .ok (.iaload, 1) := by decide +kernel
theorem dX0_putDoubled_41 : decode cX0_putDoubled 41 = .ok (.bipush 7, 2) := by decide +kernel
theorem dX0_putDoubled_43 : decode cX0_putDoubled 43 = .ok (.ishr, 1) := by decide +kernel
theorem dX0_putDoubled_44 : decode cX0_putDoubled 44 = .ok (.ior, 1) := by decide +kernel
theorem dX0_putDoubled_45 : decode cX0_putDoubled 45 = .ok (.iastore, 1) := by decide +kernel
theorem dX0_putDoubled_46 : decode cX0_putDoubled 46 = .ok (.iinc 3 1, 3) := by decide +kernel
theorem dX0_putDoubled_49 : decode cX0_putDoubled 49 = .ok (.goto (-30), 3) := by decide +kernel
theorem dX0_putDoubled_52 : decode cX0_putDoubled 52 = .ok (.aload_n 1, 1) := by decide +kernel
theorem dX0_putDoubled_53 : decode cX0_putDoubled 53 = .ok (.bipush 15, 2) := by decide +kernel
theorem dX0_putDoubled_55 : decode cX0_putDoubled 55 = .ok (.aload_n 0, 1) := by decide +kernel
theorem dX0_putDoubled_56 : decode cX0_putDoubled 56 = .ok (.bipush 15, 2) := by decide +kernel
theorem dX0_putDoubled_58 : decode cX0_putDoubled 58 = .ok (.iaload, 1) := by decide +kernel
theorem dX0_putDoubled_59 : decode cX0_putDoubled 59 = .ok (.iconst 1, 1) := by decide +kernel
theorem dX0_putDoubled_60 : decode cX0_putDoubled 60 = .ok (.ishl, 1) := by decide +kernel
theorem dX0_putDoubled_61 : decode cX0_putDoubled 61 = .ok (.sipush 255, 3) := by decide +kernel
theorem dX0_putDoubled_64 : decode cX0_putDoubled 64 = .ok (.iand, 1) := by decide +kernel
theorem dX0_putDoubled_65 : decode cX0_putDoubled 65 = .ok (.iload_n 2, 1) := by decide +kernel
theorem dX0_putDoubled_66 : decode cX0_putDoubled 66 = .ok (.ixor, 1) := by decide +kernel
theorem dX0_putDoubled_67 : decode cX0_putDoubled 67 = .ok (.iastore, 1) := by decide +kernel
theorem dX0_putDoubled_68 : decode cX0_putDoubled 68 = .ok (.return_, 1) := by decide +kernel
theorem dX0_goForth_0 : decode cX0_goForth 0 = .ok (.aload_n 1, 1) := by decide +kernel
theorem dX0_goForth_1 : decode cX0_goForth 1 = .ok (.aload_n 0, 1) := by decide +kernel
theorem dX0_goForth_2 : decode cX0_goForth 2 = .ok (.getfield 15, 3) := by decide +kernel
theorem dX0_goForth_5 : decode cX0_goForth 5 = .ok (.iconst 0, 1) := by decide +kernel
theorem dX0_goForth_6 : decode cX0_goForth 6 = .ok (.invokestatic 72, 3) := by decide +kernel
theorem dX0_goForth_9 : decode cX0_goForth 9 = .ok (.iconst 1, 1) := by decide +kernel
theorem dX0_goForth_10 : decode cX0_goForth 10 = .ok (.istore_n 2, 1) := by decide +kernel
theorem dX0_goForth_11 : decode cX0_goForth 11 = .ok (.iload_n 2, 1) := by decide +kernel
theorem dX0_goForth_12 : decode cX0_goForth 12 = .ok (.bipush 10, 2) := by decide +kernel
theorem dX0_goForth_14 : decode cX0_goForth 14 = .ok (.if_icmp .gt 36, 3) := by decide +kernel
theorem dX0_goForth_17 : decode cX0_goForth 17 = .ok (.aload_n 0, 1) := by decide +kernel
theorem dX0_goForth_18 : decode cX0_goForth 18 = .ok (.aload_n 1, 1) := by decide +kernel
theorem dX0_goForth_19 : decode cX0_goForth 19 = .ok (.invokevirtual 76, 3) := by decide +kernel
theorem dX0_goForth_22 : decode cX0_goForth 22 = .ok (.iload_n 2, 1) := by decide +kernel
theorem dX0_goForth_23 : decode cX0_goForth 23 = .ok (.bipush 10, 2) := by decide +kernel
theorem dX0_goForth_25 : decode cX0_goForth 25 = .ok (.if_icmp .ge 7, 3) := by decide +kernel
theorem dX0_goForth_28 : decode cX0_goForth 28 = .ok (.aload_n 1, 1) := by decide +kernel
theorem dX0_goForth_29 : decode cX0_goForth 29 = .ok (.invokestatic 79, 3) := by decide +kernel
theorem dX0_goForth_32 : decode cX0_goForth 32 = .ok (.aload_n 1, 1) := by decide +kernel
theorem dX0_goForth_33 : decode cX0_goForth 33 = .ok (.aload_n 0, 1) := by decide +kernel
theorem dX0_goForth_34 : decode cX0_goForth 34 = .ok (.getfield 15, 3) := by decide +kernel
theorem dX0_goForth_37 : decode cX0_goForth 37 = .ok (.bipush 16, 2) := by decide +kernel
theorem dX0_goForth_39 : decode cX0_goForth 39 = .ok (.iload_n 2, 1) := by decide +kernel
theorem dX0_goForth_40 : decode cX0_goForth 40 = .ok (.imul, 1) := by decide +kernel
theorem dX0_goForth_41 : decode cX0_goForth 41 = .ok (.invokestatic 72, 3) := by decide +kernel
theorem dX0_goForth_44 : decode cX0_goForth 44 = .ok (.iinc 2 1, 3) := by decide +kernel
theorem dX0_goForth_47 : decode cX0_goForth 47 = .ok (.goto (-36), 3) := by decide +kernel
theorem dX0_goForth_50 : decode cX0_goForth 50 = .ok (.return_, 1) := by decide +kernel
theorem dX0_goBack_0 : decode cX0_goBack 0 = .ok (.bipush 10, 2) := by decide +kernel
theorem dX0_goBack_2 : decode cX0_goBack 2 = .ok (.istore_n 2, 1) := by decide +kernel
theorem dX0_goBack_3 : decode cX0_goBack 3 = .ok (.iload_n 2, 1) := by decide +kernel
theorem dX0_goBack_4 : decode cX0_goBack 4 = .ok (.iconst 1, 1) := by decide +kernel
theorem dX0_goBack_5 : decode cX0_goBack 5 = .ok (.if_icmp .lt 36, 3) := by decide +kernel
theorem dX0_goBack_8 : decode cX0_goBack 8 = .ok (.aload_n 1, 1) := by decide +kernel
theorem dX0_goBack_9 : decode cX0_goBack 9 = .ok (.aload_n 0, 1) := by decide +kernel
theorem dX0_goBack_10 : decode cX0_goBack 10 = .ok (.getfield 15, 3) := by decide +kernel
theorem dX0_goBack_13 : decode cX0_goBack 13 = .ok (.bipush 16, 2) := by decide +kernel
theorem dX0_goBack_15 : decode cX0_goBack 15 = .ok (.iload_n 2, 1) := by decide +kernel
theorem dX0_goBack_16 : decode cX0_goBack 16 = .ok (.imul, 1) := by decide +kernel
theorem dX0_goBack_17 : decode cX0_goBack 17 = .ok (.invokestatic 72, 3) := by decide +kernel
theorem dX0_goBack_20 : decode cX0_goBack 20 = .ok (.iload_n 2, 1) := by decide +kernel
theorem dX0_goBack_21 : decode cX0_goBack 21 = .ok (.bipush 10, 2) := by decide +kernel
theorem dX0_goBack_23 : decode cX0_goBack 23 = .ok (.if_icmp .ge 7, 3) := by decide +kernel
theorem dX0_goBack_26 : decode cX0_goBack 26 = .ok (.aload_n 1, 1) := by decide +kernel
theorem dX0_goBack_27 : decode cX0_goBack 27 = .ok (.invokestatic 82, 3) := by decide +kernel
theorem dX0_goBack_30 : decode cX0_goBack 30 = .ok (.aload_n 0, 1) := by decide +kernel
theorem dX0_goBack_31 : decode cX0_goBack 31 = .ok (.aload_n 1, 1) := by decide +kernel
theorem dX0_goBack_32 : decode cX0_goBack 32 = .ok (.invokevirtual 85, 3) := by decide +kernel
theorem dX0_goBack_35 : decode cX0_goBack 35 = .ok (.iinc 2 (-1), 3) := by decide +kernel
theorem dX0_goBack_38 : decode cX0_goBack 38 = .ok (.goto (-35), 3) := by decide +kernel
theorem dX0_goBack_41 : decode cX0_goBack 41 = .ok (.aload_n 1, 1) := by decide +kernel
theorem dX0_goBack_42 : decode cX0_goBack 42 = .ok (.aload_n 0, 1) := by decide +kernel
theorem dX0_goBack_43 : decode cX0_goBack 43 = .ok (.getfield 15, 3) := by decide +kernel
theorem dX0_goBack_46 : decode cX0_goBack 46 = .ok (.iconst 0, 1) := by decide +kernel
theorem dX0_goBack_47 : decode cX0_goBack 47 = .ok (.invokestatic 72, 3) := by decide +kernel
theorem dX0_goBack_50 : decode cX0_goBack 50 = .ok (.return_, 1) := by decide +kernel
theorem dX0_replaceAndMove_0 : decode cX0_replaceAndMove 0 = .ok (.iconst 0, 1) := by decide +kernel
theorem dX0_replaceAndMove_1 : decode cX0_replaceAndMove 1 = .ok (.istore_n 2, 1) := by decide +kernel
theorem dX0_replaceAndMove_2 : decode cX0_replaceAndMove 2 = .ok (.iload_n 2, 1) := by decide +kernel
theorem dX0_replaceAndMove_3 : decode cX0_replaceAndMove 3 = .ok (.bipush 16, 2) := by decide +kernel
theorem dX0_replaceAndMove_5 : decode cX0_replaceAndMove 5 = .ok (.if_icmp .ge 25, 3) := by decide +kernel
theorem dX0_replaceAndMove_8 : decode cX0_replaceAndMove 8 = .ok (.aload_n 0, 1) := by decide +kernel
theorem dX0_replaceAndMove_9 : decode cX0_replaceAndMove 9 = .ok (.getfield 24, 3) := by decide +kernel
theorem dX0_replaceAndMove_12 : decode cX0_replaceAndMove 12 = .ok (.iload_n 2, 1) := by decide +kernel
theorem dX0_replaceAndMove_13 : decode cX0_replaceAndMove 13 = .ok (.getstatic 61, 3) := by decide +kernel
theorem dX0_replaceAndMove_16 : decode cX0_replaceAndMove 16 = .ok (.aload_n 1, 1) := by decide +kernel
theorem dX0_replaceAndMove_17 : decode cX0_replaceAndMove 17 = .ok (.iload_n 2, 1) := by decide +kernel
theorem dX0_replaceAndMove_18 : decode cX0_replaceAndMove 18 = .ok (.invokestatic 88, 3) := by decide +kernel
theorem dX0_replaceAndMove_21 : decode cX0_replaceAndMove 21 = .ok (.iaload, 1) := by decide +kernel
theorem dX0_replaceAndMove_22 : decode cX0_replaceAndMove 22 = .ok (.iaload, 1) := by decide +kernel
theorem dX0_replaceAndMove_23 : decode cX0_replaceAndMove 23 = .ok (.iastore, 1) := by decide +kernel
theorem dX0_replaceAndMove_24 : decode cX0_replaceAndMove 24 = .ok (.iinc 2 1, 3) := by decide +kernel
theorem dX0_replaceAndMove_27 : decode cX0_replaceAndMove 27 = .ok (.goto (-25), 3) := by decide +kernel
theorem dX0_replaceAndMove_30 : decode cX0_replaceAndMove 30 = .ok (.aload_n 0, 1) := by decide +kernel
theorem dX0_replaceAndMove_31 : decode cX0_replaceAndMove 31 = .ok (.getfield 24, 3) := by decide +kernel
theorem dX0_replaceAndMove_34 : decode cX0_replaceAndMove 34 = .ok (.iconst 0, 1) := by decide +kernel
theorem dX0_replaceAndMove_35 : decode cX0_replaceAndMove 35 = .ok (.aload_n 1, 1) := by decide +kernel
theorem dX0_replaceAndMove_36 : decode cX0_replaceAndMove 36 = .ok (.iconst 0, 1) := by decide +kernel
theorem dX0_replaceAndMove_37 : decode cX0_replaceAndMove 37 = .ok (.bipush 16, 2) := by decide +kernel
theorem dX0_replaceAndMove_39 : decode cX0_replaceAndMove 39 = .ok (.invokestatic 43, 3) := by decide +kernel
theorem dX0_replaceAndMove_42 : decode cX0_replaceAndMove 42 = .ok (.return_, 1) := by decide +kernel
theorem dX0_moveAndReplaceBack_0 : decode cX0_moveAndReplaceBack 0 = .ok (.iconst 0, 1) := by decide +kernel
theorem dX0_moveAndReplaceBack_1 : decode cX0_moveAndReplaceBack 1 = .ok (.istore_n 2, 1) := by decide +kernel
theorem dX0_moveAndReplaceBack_2 : decode cX0_moveAndReplaceBack 2 = .ok (.iload_n 2, 1) := by decide +kernel
theorem dX0_moveAndReplaceBack_3 : decode cX0_moveAndReplaceBack 3 = .ok (.bipush 16, 2) := by decide +kernel
theorem dX0_moveAndReplaceBack_5 : decode cX0_moveAndReplaceBack 5 = .ok (.if_icmp .ge 25, 3) := by decide +kernel
theorem dX0_moveAndReplaceBack_8 : decode cX0_moveAndReplaceBack 8 = .ok (.aload_n 0, 1) := by decide +kernel
theorem dX0_moveAndReplaceBack_9 : decode cX0_moveAndReplaceBack 9 = .ok (.getfield 24, 3) := by decide +kernel
theorem dX0_moveAndReplaceBack_12 : decode cX0_moveAndReplaceBack 12 = .ok (.iload_n 2, 1) := by decide +kernel
theorem dX0_moveAndReplaceBack_13 : decode cX0_moveAndReplaceBack 13 = .ok (.invokestatic 88, 3) := by decide +kernel
theorem dX0_moveAndReplaceBack_16 : decode cX0_moveAndReplaceBack 16 = .ok (.getstatic 91, 3) := by decide +kernel
theorem dX0_moveAndReplaceBack_19 : decode cX0_moveAndReplaceBack 19 = .ok (.aload_n 1, 1) := by decide +kernel
theorem dX0_moveAndReplaceBack_20 : decode cX0_moveAndReplaceBack 20 = .ok (.iload_n 2, 1) := by decide +kernel
theorem dX0_moveAndReplaceBack_21 : decode cX0_moveAndReplaceBack 21 = .ok (.iaload, 1) := by decide +kernel
theorem dX0_moveAndReplaceBack_22 : decode cX0_moveAndReplaceBack 22 = .ok (.iaload, 1) := by decide +kernel
theorem dX0_moveAndReplaceBack_23 : decode cX0_moveAndReplaceBack 23 = .ok (.iastore, 1) := by decide +kernel
theorem dX0_moveAndReplaceBack_24 : decode cX0_moveAndReplaceBack 24 = .ok (.iinc 2 1, 3) := by decide +kernel
theorem dX0_moveAndReplaceBack_27 : decode cX0_moveAndReplaceBack 27 = .ok (.goto (-25), 3) := by decide +kernel
theorem dX0_moveAndReplaceBack_30 : decode cX0_moveAndReplaceBack 30 = .ok (.aload_n 0, 1) := by decide +kernel
theorem dX0_moveAndReplaceBack_31 : decode cX0_moveAndReplaceBack 31 = .ok (.getfield 24, 3) := by decide +kernel
theorem dX0_moveAndReplaceBack_34 : decode cX0_moveAndReplaceBack 34 = .ok (.iconst 0, 1) := by decide +kernel
theorem dX0_moveAndReplaceBack_35 : decode cX0_moveAndReplaceBack 35 = .ok (.aload_n 1, 1) := by decide +kernel
theorem dX0_moveAndReplaceBack_36 : decode cX0_moveAndReplaceBack 36 = .ok (.iconst 0, 1) := by decide +kernel
theorem dX0_moveAndReplaceBack_37 : decode cX0_moveAndReplaceBack 37 = .ok (.bipush 16, 2) := by decide +kernel
theorem dX0_moveAndReplaceBack_39 : decode cX0_moveAndReplaceBack 39 = .ok (.invokestatic 43, 3) := by decide +kernel
theorem dX0_moveAndReplaceBack_42 : decode cX0_moveAndReplaceBack 42 = .ok (.return_, 1) := by decide +kernel
theorem dX0_source_0 : decode cX0_source 0 = .ok (.iload_n 0, 1) := by decide +kernel
theorem dX0_source_1 : decode cX0_source 1 = .ok (.iconst 4, 1) := by decide +kernel
theorem dX0_source_2 : decode cX0_source 2 = .ok (.iload_n 0, 1) := by decide +kernel
theorem dX0_source_3 : decode cX0_source 3 = .ok (.iconst 4, 1) := by decide +kernel
theorem dX0_source_4 : decode cX0_source 4 = .ok (.irem, 1) := by decide +kernel
theorem dX0_source_5 : decode cX0_source 5 = .ok (.imul, 1) := by decide +kernel
theorem dX0_source_6 : decode cX0_source 6 = .ok (.iadd, 1) := by decide +kernel
theorem dX0_source_7 : decode cX0_source 7 = .ok (.bipush 16, 2) := by decide +kernel
theorem dX0_source_9 : decode cX0_source 9 = .ok (.irem, 1) := by decide +kernel
theorem dX0_source_10 : decode cX0_source 10 = .ok (.ireturn, 1) := by decide +kernel
theorem dX0_mix_0 : decode cX0_mix 0 = .ok (.iconst 0, 1) := by decide +kernel
theorem dX0_mix_1 : decode cX0_mix 1 = .ok (.istore_n 1, 1) := by decide +kernel
theorem dX0_mix_2 : decode cX0_mix 2 = .ok (.iload_n 1, 1) := by decide +kernel
theorem dX0_mix_3 : decode cX0_mix 3 = .ok (.bipush 16, 2) := by decide +kernel
theorem dX0_mix_5 : decode cX0_mix 5 = .ok (.if_icmp .ge 87, 3) := by decide +kernel
theorem dX0_mix_8 : decode cX0_mix 8 = .ok (.aload_n 0, 1) := by decide +kernel
theorem dX0_mix_9 : decode cX0_mix 9 = .ok (.iload_n 1, 1) := by decide +kernel
theorem dX0_mix_10 : decode cX0_mix 10 = .ok (.iaload, 1) := by decide +kernel
theorem dX0_mix_11 : decode cX0_mix 11 = .ok (.istore_n 2, 1) := by decide +kernel
theorem dX0_mix_12 : decode cX0_mix 12 = .ok (.aload_n 0, 1) := by decide +kernel
theorem dX0_mix_13 : decode cX0_mix 13 = .ok (.iload_n 1, 1) := by decide +kernel
theorem dX0_mix_14 : decode cX0_mix 14 = .ok (.iconst 1, 1) := by decide +kernel
theorem dX0_mix_15 : decode cX0_mix 15 = .ok (.iadd, 1) := by decide +kernel
theorem dX0_mix_16 : decode cX0_mix 16 = .ok (.iaload, 1) := by decide +kernel
theorem dX0_mix_17 : decode cX0_mix 17 = .ok (.istore_n 3, 1) := by decide +kernel
theorem dX0_mix_18 : decode cX0_mix 18 = .ok (.aload_n 0, 1) := by decide +kernel
theorem dX0_mix_19 : decode cX0_mix 19 = .ok (.iload_n 1, 1) := by decide +kernel
theorem dX0_mix_20 : decode cX0_mix 20 = .ok (.iconst 2, 1) := by decide +kernel
theorem dX0_mix_21 : decode cX0_mix 21 = .ok (.iadd, 1) := by decide +kernel
theorem dX0_mix_22 : decode cX0_mix 22 = .ok (.iaload, 1) := by decide +kernel
theorem dX0_mix_23 : decode cX0_mix 23 = .ok (.istore 4, 2) := by decide +kernel
theorem dX0_mix_25 : decode cX0_mix 25 = .ok (.aload_n 0, 1) := by decide +kernel
theorem dX0_mix_26 : decode cX0_mix 26 = .ok (.iload_n 1, 1) := by decide +kernel
theorem dX0_mix_27 : decode cX0_mix 27 = .ok (.iconst 3, 1) := by decide +kernel
theorem dX0_mix_28 : decode cX0_mix 28 = .ok (.iadd, 1) := by decide +kernel
theorem dX0_mix_29 : decode cX0_mix 29 = .ok (.iaload, 1) := by decide +kernel
theorem dX0_mix_30 : decode cX0_mix 30 = .ok (.istore 5, 2) := by decide +kernel
theorem dX0_mix_32 : decode cX0_mix 32 = .ok (.aload_n 0, 1) := by decide +kernel
theorem dX0_mix_33 : decode cX0_mix 33 = .ok (.iload_n 1, 1) := by decide +kernel
theorem dX0_mix_34 : decode cX0_mix 34 = .ok (.iload_n 2, 1) := by decide +kernel
theorem dX0_mix_35 : decode cX0_mix 35 = .ok (.iload_n 3, 1) := by decide +kernel
theorem dX0_mix_36 : decode cX0_mix 36 = .ok (.iload 4, 2) := by decide +kernel
theorem dX0_mix_38 : decode cX0_mix 38 = .ok (.iload 5, 2) := by decide +kernel
theorem dX0_mix_40 : decode cX0_mix 40 = .ok (.invokestatic 94, 3) := by decide +kernel
theorem dX0_mix_43 : decode cX0_mix 43 = .ok (.iastore, 1) := by decide +kernel
theorem dX0_mix_44 : decode cX0_mix 44 = .ok (.aload_n 0, 1) := by decide +kernel
theorem dX0_mix_45 : decode cX0_mix 45 = .ok (.iload_n 1, 1) := by decide +kernel
theorem dX0_mix_46 : decode cX0_mix 46 = .ok (.iconst 1, 1) := by decide +kernel
theorem dX0_mix_47 : decode cX0_mix 47 = .ok (.iadd, 1) := by decide +kernel
theorem dX0_mix_48 : decode cX0_mix 48 = .ok (.iload_n 3, 1) := by decide +kernel
theorem dX0_mix_49 : decode cX0_mix 49 = .ok (.iload 4, 2) := by decide +kernel
theorem dX0_mix_51 : decode cX0_mix 51 = .ok (.iload 5, 2) := by decide +kernel
theorem dX0_mix_53 : decode cX0_mix 53 = .ok (.iload_n 2, 1) := by decide +kernel
theorem dX0_mix_54 : decode cX0_mix 54 = .ok (.invokestatic 94, 3) := by decide +kernel
theorem dX0_mix_57 : decode cX0_mix 57 = .ok (.iastore, 1) := by decide +kernel
theorem dX0_mix_58 : decode cX0_mix 58 = .ok (.aload_n 0, 1) := by decide +kernel
theorem dX0_mix_59 : decode cX0_mix 59 = .ok (.iload_n 1, 1) := by decide +kernel
theorem dX0_mix_60 : decode cX0_mix 60 = .ok (.iconst 2, 1) := by decide +kernel
theorem dX0_mix_61 : decode cX0_mix 61 = .ok (.iadd, 1) := by decide +kernel
theorem dX0_mix_62 : decode cX0_mix 62 = .ok (.iload 4, 2) := by decide +kernel
theorem dX0_mix_64 : decode cX0_mix 64 = .ok (.iload 5, 2) := by decide +kernel
theorem dX0_mix_66 : decode cX0_mix 66 = .ok (.iload_n 2, 1) := by decide +kernel
theorem dX0_mix_67 : decode cX0_mix 67 = .ok (.iload_n 3, 1) := by decide +kernel
theorem dX0_mix_68 : decode cX0_mix 68 = .ok (.invokestatic 94, 3) := by decide +kernel
theorem dX0_mix_71 : decode cX0_mix 71 = .ok (.iastore, 1) := by decide +kernel
theorem dX0_mix_72 : decode cX0_mix 72 = .ok (.aload_n 0, 1) := by decide +kernel
theorem dX0_mix_73 : decode cX0_mix 73 = .ok (.iload_n 1, 1) := by decide +kernel
theorem dX0_mix_74 : decode cX0_mix 74 = .ok (.iconst 3, 1) := by decide +kernel
theorem dX0_mix_75 : decode cX0_mix 75 = .ok (.iadd, 1) := by decide +kernel
theorem dX0_mix_76 : decode cX0_mix 76 = .ok (.iload 5, 2) := by decide +kernel
theorem dX0_mix_78 : decode cX0_mix 78 = .ok (.iload_n 2, 1) := by decide +kernel
theorem dX0_mix_79 : decode cX0_mix 79 = .ok (.iload_n 3, 1) := by decide +kernel
theorem dX0_mix_80 : decode cX0_mix 80 = .ok (.iload 4, 2) := by decide +kernel
theorem dX0_mix_82 : decode cX0_mix 82 = .ok (.invokestatic 94, 3) := by decide +kernel
theorem dX0_mix_85 : decode cX0_mix 85 = .ok (.iastore, 1) := by decide +kernel
theorem dX0_mix_86 : decode cX0_mix 86 = .ok (.iinc 1 4, 3) := by decide +kernel
theorem dX0_mix_89 : decode cX0_mix 89 = .ok (.goto (-87), 3) := by decide +kernel
theorem dX0_mix_92 : decode cX0_mix 92 = .ok (.return_, 1) := by decide +kernel
theorem dX0_unmix_0 : decode cX0_unmix 0 = .ok (.aload_n 0, 1) := by decide +kernel
theorem dX0_unmix_1 : decode cX0_unmix 1 = .ok (.invokestatic 79, 3) := by decide +kernel
theorem dX0_unmix_4 : decode cX0_unmix 4 = .ok (.aload_n 0, 1) := by decide +kernel
theorem dX0_unmix_5 : decode cX0_unmix 5 = .ok (.invokestatic 79, 3) := by decide +kernel
theorem dX0_unmix_8 : decode cX0_unmix 8 = .ok (.aload_n 0, 1) := by decide +kernel
theorem dX0_unmix_9 : decode cX0_unmix 9 = .ok (.invokestatic 79, 3) := by decide +kernel
theorem dX0_unmix_12 : decode cX0_unmix 12 = .ok (.return_, 1) := by decide +kernel
theorem dX0_mixed_0 : decode cX0_mixed 0 = .ok (.iload_n 0, 1) := by decide +kernel
theorem dX0_mixed_1 : decode cX0_mixed 1 = .ok (.iload_n 1, 1) := by decide +kernel
theorem dX0_mixed_2 : decode cX0_mixed 2 = .ok (.ixor, 1) := by decide +kernel
theorem dX0_mixed_3 : decode cX0_mixed 3 = .ok (.invokestatic 53, 3) := by decide +kernel
theorem dX0_mixed_6 : decode cX0_mixed 6 = .ok (.iload_n 1, 1) := by decide +kernel
theorem dX0_mixed_7 : decode cX0_mixed 7 = .ok (.ixor, 1) := by decide +kernel
theorem dX0_mixed_8 : decode cX0_mixed 8 = .ok (.iload_n 2, 1) := by decide +kernel
theorem dX0_mixed_9 : decode cX0_mixed 9 = .ok (.ixor, 1) := by decide +kernel
theorem dX0_mixed_10 : decode cX0_mixed 10 = .ok (.iload_n 3, 1) := by decide +kernel
theorem dX0_mixed_11 : decode cX0_mixed 11 = .ok (.ixor, 1) := by decide +kernel
theorem dX0_mixed_12 : decode cX0_mixed 12 = .ok (.ireturn, 1) := by decide +kernel
theorem dX0_twice_0 : decode cX0_twice 0 = .ok (.iload_n 0, 1) := by decide +kernel
theorem dX0_twice_1 : decode cX0_twice 1 = .ok (.sipush 128, 3) := by decide +kernel
theorem dX0_twice_4 : decode cX0_twice 4 = .ok (.if_icmp .ge 9, 3) := by decide +kernel
theorem dX0_twice_7 : decode cX0_twice 7 = .ok (.iload_n 0, 1) := by decide +kernel
theorem dX0_twice_8 : decode cX0_twice 8 = .ok (.iconst 1, 1) := by decide +kernel
theorem dX0_twice_9 : decode cX0_twice 9 = .ok (.ishl, 1) := by decide +kernel
theorem dX0_twice_10 : decode cX0_twice 10 = .ok (.goto 10, 3) := by decide +kernel
theorem dX0_twice_13 : decode cX0_twice 13 = .ok (.iload_n 0, 1) := by decide +kernel
theorem dX0_twice_14 : decode cX0_twice 14 = .ok (.iconst 1, 1) := by decide +kernel
theorem dX0_twice_15 : decode cX0_twice 15 = .ok (.ishl, 1) := by decide +kernel
theorem dX0_twice_16 : decode cX0_twice 16 = .ok (.sipush 283, 3) := by decide +kernel
theorem dX0_twice_19 : decode cX0_twice 19 = .ok (.ixor, 1) := by decide +kernel
theorem dX0_twice_20 : decode cX0_twice 20 = .ok (.ireturn, 1) := by decide +kernel
theorem dX1_init_0 : decode cX1_init 0 = .ok (.aload_n 0, 1) := by decide +kernel
theorem dX1_init_1 : decode cX1_init 1 = .ok (.invokespecial 3, 3) := by decide +kernel
theorem dX1_init_4 : decode cX1_init 4 = .ok (.aload_n 0, 1) := by decide +kernel
theorem dX1_init_5 : decode cX1_init 5 = .ok (.bipush 16, 2) := by decide +kernel
theorem dX1_init_7 : decode cX1_init 7 = .ok (.newarray .int, 2) := by decide +kernel
theorem dX1_init_9 : decode cX1_init 9 = .ok (.putfield 9, 3) := by decide +kernel
theorem dX1_init_12 : decode cX1_init 12 = .ok (.aload_n 0, 1) := by decide +kernel
theorem dX1_init_13 : decode cX1_init 13 = .ok (.iconst 0, 1) := by decide +kernel
theorem dX1_init_14 : decode cX1_init 14 = .ok (.putfield 15, 3) := by decide +kernel
theorem dX1_init_17 : decode cX1_init 17 = .ok (.aload_n 0, 1) := by decide +kernel
theorem dX1_init_18 : decode cX1_init 18 = .ok (.iconst 0, 1) := by decide +kernel
theorem dX1_init_19 : decode cX1_init 19 = .ok (.putfield 19, 3) := by decide +kernel
theorem dX1_init_22 : decode cX1_init 22 = .ok (.aload_n 0, 1) := by decide +kernel
theorem dX1_init_23 : decode cX1_init 23 = .ok (.iconst 0, 1) := by decide +kernel
theorem dX1_init_24 : decode cX1_init 24 = .ok (.putfield 23, 3) := by decide +kernel
theorem dX1_init_27 : decode cX1_init 27 = .ok (.aload_n 0, 1) := by decide +kernel
theorem dX1_init_28 : decode cX1_init 28 = .ok (.iconst 0, 1) := by decide +kernel
theorem dX1_init_29 : decode cX1_init 29 = .ok (.putfield 26, 3) := by decide +kernel
theorem dX1_init_32 : decode cX1_init 32 = .ok (.aload_n 0, 1) := by decide +kernel
theorem dX1_init_33 : decode cX1_init 33 = .ok (.iconst 0, 1) := by decide +kernel
theorem dX1_init_34 : decode cX1_init 34 = .ok (.putfield 29, 3) := by decide +kernel
theorem dX1_init_37 : decode cX1_init 37 = .ok (.return_, 1) := by decide +kernel
theorem dX1_drop_0 : decode cX1_drop 0 = .ok (.aload_n 0, 1) := by decide +kernel
theorem dX1_drop_1 : decode cX1_drop 1 = .ok (.iconst 0, 1) := by decide +kernel
theorem dX1_drop_2 : decode cX1_drop 2 = .ok (.putfield 19, 3) := by decide +kernel
theorem dX1_drop_5 : decode cX1_drop 5 = .ok (.aload_n 0, 1) := by decide +kernel
theorem dX1_drop_6 : decode cX1_drop 6 = .ok (.iconst 0, 1) := by decide +kernel
theorem dX1_drop_7 : decode cX1_drop 7 = .ok (.putfield 23, 3) := by decide +kernel
theorem dX1_drop_10 : decode cX1_drop 10 = .ok (.return_, 1) := by decide +kernel
theorem dX1_begin_0 : decode cX1_begin 0 = .ok (.aload_n 0, 1) := by decide +kernel
theorem dX1_begin_1 : decode cX1_begin 1 = .ok (.getfield 9, 3) := by decide +kernel
theorem dX1_begin_4 : decode cX1_begin 4 = .ok (.iconst 0, 1) := by decide +kernel
theorem dX1_begin_5 : decode cX1_begin 5 = .ok (.invokestatic 32, 3) := by decide +kernel
theorem dX1_begin_8 : decode cX1_begin 8 = .ok (.aload_n 0, 1) := by decide +kernel
theorem dX1_begin_9 : decode cX1_begin 9 = .ok (.iconst 0, 1) := by decide +kernel
theorem dX1_begin_10 : decode cX1_begin 10 = .ok (.putfield 15, 3) := by decide +kernel
theorem dX1_begin_13 : decode cX1_begin 13 = .ok (.aload_n 0, 1) := by decide +kernel
theorem dX1_begin_14 : decode cX1_begin 14 = .ok (.iconst 1, 1) := by decide +kernel
theorem dX1_begin_15 : decode cX1_begin 15 = .ok (.putfield 19, 3) := by decide +kernel
theorem dX1_begin_18 : decode cX1_begin 18 = .ok (.aload_n 0, 1) := by decide +kernel
theorem dX1_begin_19 : decode cX1_begin 19 = .ok (.iconst 0, 1) := by decide +kernel
theorem dX1_begin_20 : decode cX1_begin 20 = .ok (.putfield 23, 3) := by decide +kernel
theorem dX1_begin_23 : decode cX1_begin 23 = .ok (.return_, 1) := by decide +kernel
theorem dX1_take_0 : decode cX1_take 0 = .ok (.aload_n 0, 1) := by decide +kernel
theorem dX1_take_1 : decode cX1_take 1 = .ok (.getfield 15, 3) := by decide +kernel
theorem dX1_take_4 : decode cX1_take 4 = .ok (.bipush 16, 2) := by decide +kernel
theorem dX1_take_6 : decode cX1_take 6 = .ok (.if_icmp .ne 16, 3) := by decide +kernel
theorem dX1_take_9 : decode cX1_take 9 = .ok (.aload_n 2, 1) := by decide +kernel
theorem dX1_take_10 : decode cX1_take 10 = .ok (.aload_n 0, 1) := by decide +kernel
theorem dX1_take_11 : decode cX1_take 11 = .ok (.getfield 9, 3) := by decide +kernel
theorem dX1_take_14 : decode cX1_take 14 = .ok (.invokevirtual 38, 3) := by decide +kernel
theorem dX1_take_17 : decode cX1_take 17 = .ok (.aload_n 0, 1) := by decide +kernel
theorem dX1_take_18 : decode cX1_take 18 = .ok (.iconst 0, 1) := by decide +kernel
theorem dX1_take_19 : decode cX1_take 19 = .ok (.putfield 15, 3) := by decide +kernel
theorem dX1_take_22 : decode cX1_take 22 = .ok (.aload_n 0, 1) := by decide +kernel
theorem dX1_take_23 : decode cX1_take 23 = .ok (.getfield 9, 3) := by decide +kernel
theorem dX1_take_26 : decode cX1_take 26 = .ok (.aload_n 0, 1) := by decide +kernel
theorem dX1_take_27 : decode cX1_take 27 = .ok (.getfield 15, 3) := by decide +kernel
theorem dX1_take_30 : decode cX1_take 30 = .ok (.dup2, 1) := by decide +kernel
theorem dX1_take_31 : decode cX1_take 31 = .ok (.iaload, 1) := by decide +kernel
theorem dX1_take_32 : decode cX1_take 32 = .ok (.iload_n 1, 1) := by decide +kernel
theorem dX1_take_33 : decode cX1_take 33 = .ok (.ixor, 1) := by decide +kernel
theorem dX1_take_34 : decode cX1_take 34 = .ok (.iastore, 1) := by decide +kernel
theorem dX1_take_35 : decode cX1_take 35 = .ok (.aload_n 0, 1) := by decide +kernel
theorem dX1_take_36 : decode cX1_take 36 = .ok (.dup, 1) := by decide +kernel
theorem dX1_take_37 : decode cX1_take 37 = .ok (.getfield 15, 3) := by decide +kernel
theorem dX1_take_40 : decode cX1_take 40 = .ok (.iconst 1, 1) := by decide +kernel
theorem dX1_take_41 : decode cX1_take 41 = .ok (.iadd, 1) := by decide +kernel
theorem dX1_take_42 : decode cX1_take 42 = .ok (.putfield 15, 3) := by decide +kernel
theorem dX1_take_45 : decode cX1_take 45 = .ok (.return_, 1) := by decide +kernel
theorem dX1_end_0 : decode cX1_end 0 = .ok (.aload_n 0, 1) := by decide +kernel
theorem dX1_end_1 : decode cX1_end 1 = .ok (.getfield 15, 3) := by decide +kernel
theorem dX1_end_4 : decode cX1_end 4 = .ok (.bipush 16, 2) := by decide +kernel
theorem dX1_end_6 : decode cX1_end 6 = .ok (.if_icmp .ne 18, 3) := by decide +kernel
theorem dX1_end_9 : decode cX1_end 9 = .ok (.aload_n 0, 1) := by decide +kernel
theorem dX1_end_10 : decode cX1_end 10 = .ok (.getfield 9, 3) := by decide +kernel
theorem dX1_end_13 : decode cX1_end 13 = .ok (.aload_n 1, 1) := by decide +kernel
theorem dX1_end_14 : decode cX1_end 14 = .ok (.getfield 44, 3) := by decide +kernel
theorem dX1_end_17 : decode cX1_end 17 = .ok (.iconst 0, 1) := by decide +kernel
theorem dX1_end_18 : decode cX1_end 18 = .ok (.invokestatic 47, 3) := by decide +kernel
theorem dX1_end_21 : decode cX1_end 21 = .ok (.goto 30, 3) := by decide +kernel
theorem dX1_end_24 : decode cX1_end 24 = .ok (.aload_n 0, 1) := by decide +kernel
theorem dX1_end_25 : decode cX1_end 25 = .ok (.getfield 9, 3) := by decide +kernel
theorem dX1_end_28 : decode cX1_end 28 = .ok (.aload_n 0, 1) := by decide +kernel
theorem dX1_end_29 : decode cX1_end 29 = .ok (.getfield 15, 3) := by decide +kernel
theorem dX1_end_32 : decode cX1_end 32 = .ok (.dup2, 1) := by decide +kernel
theorem dX1_end_33 : decode cX1_end 33 = .ok (.iaload, 1) := by decide +kernel
theorem dX1_end_34 : decode cX1_end 34 = .ok (.sipush 128, 3) := by decide +kernel
theorem dX1_end_37 : decode cX1_end 37 = .ok (.ixor, 1) := by decide +kernel
theorem dX1_end_38 : decode cX1_end 38 = .ok (.iastore, 1) := by decide +kernel
theorem dX1_end_39 : decode cX1_end 39 = .ok (.aload_n 0, 1) := by decide +kernel
theorem dX1_end_40 : decode cX1_end 40 = .ok (.getfield 9, 3) := by decide +kernel
theorem dX1_end_43 : decode cX1_end 43 = .ok (.aload_n 1, 1) := by decide +kernel
theorem dX1_end_44 : decode cX1_end 44 = .ok (.getfield 51, 3) := by decide +kernel
theorem dX1_end_47 : decode cX1_end 47 = .ok (.iconst 0, 1) := by decide +kernel
theorem dX1_end_48 : decode cX1_end 48 = .ok (.invokestatic 47, 3) := by decide +kernel
theorem dX1_end_51 : decode cX1_end 51 = .ok (.aload_n 1, 1) := by decide +kernel
theorem dX1_end_52 : decode cX1_end 52 = .ok (.aload_n 0, 1) := by decide +kernel
theorem dX1_end_53 : decode cX1_end 53 = .ok (.getfield 9, 3) := by decide +kernel
theorem dX1_end_56 : decode cX1_end 56 = .ok (.invokevirtual 38, 3) := by decide +kernel
theorem dX1_end_59 : decode cX1_end 59 = .ok (.aload_n 0, 1) := by decide +kernel
theorem dX1_end_60 : decode cX1_end 60 = .ok (.iconst 0, 1) := by decide +kernel
theorem dX1_end_61 : decode cX1_end 61 = .ok (.putfield 19, 3) := by decide +kernel
theorem dX1_end_64 : decode cX1_end 64 = .ok (.aload_n 0, 1) := by decide +kernel
theorem dX1_end_65 : decode cX1_end 65 = .ok (.iconst 1, 1) := by decide +kernel
theorem dX1_end_66 : decode cX1_end 66 = .ok (.putfield 23, 3) := by decide +kernel
theorem dX1_end_69 : decode cX1_end 69 = .ok (.aload_n 0, 1) := by decide +kernel
theorem dX1_end_70 : decode cX1_end 70 = .ok (.iconst 0, 1) := by decide +kernel
theorem dX1_end_71 : decode cX1_end 71 = .ok (.putfield 26, 3) := by decide +kernel
theorem dX1_end_74 : decode cX1_end 74 = .ok (.aload_n 0, 1) := by decide +kernel
theorem dX1_end_75 : decode cX1_end 75 = .ok (.iconst 0, 1) := by decide +kernel
theorem dX1_end_76 : decode cX1_end 76 = .ok (.putfield 29, 3) := by decide +kernel
theorem dX1_end_79 : decode cX1_end 79 = .ok (.return_, 1) := by decide +kernel
theorem dX1_compare_0 : decode cX1_compare 0 = .ok (.aload_n 0, 1) := by decide +kernel
theorem dX1_compare_1 : decode cX1_compare 1 = .ok (.dup, 1) := by decide +kernel
theorem dX1_compare_2 : decode cX1_compare 2 = .ok (.getfield 26, 3) := by decide +kernel
theorem dX1_compare_5 : decode cX1_compare 5 = .ok (.iconst 1, 1) := by decide +kernel
theorem dX1_compare_6 : decode cX1_compare 6 = .ok (.iload_n 1, 1) := by decide +kernel
theorem dX1_compare_7 : decode cX1_compare 7 = .ok (.ishl, 1) := by decide +kernel
theorem dX1_compare_8 : decode cX1_compare 8 = .ok (.ior, 1) := by decide +kernel
theorem dX1_compare_9 : decode cX1_compare 9 = .ok (.putfield 26, 3) := by decide +kernel
theorem dX1_compare_12 : decode cX1_compare 12 = .ok (.aload_n 0, 1) := by decide +kernel
theorem dX1_compare_13 : decode cX1_compare 13 = .ok (.getfield 9, 3) := by decide +kernel
theorem dX1_compare_16 : decode cX1_compare 16 = .ok (.iload_n 1, 1) := by decide +kernel
theorem dX1_compare_17 : decode cX1_compare 17 = .ok (.iaload, 1) := by decide +kernel
theorem dX1_compare_18 : decode cX1_compare 18 = .ok (.iload_n 2, 1) := by decide +kernel
theorem dX1_compare_19 : decode cX1_compare 19 = .ok (.if_icmp .eq 8, 3) := by decide +kernel
theorem dX1_compare_22 : decode cX1_compare 22 = .ok (.aload_n 0, 1) := by decide +kernel
theorem dX1_compare_23 : decode cX1_compare 23 = .ok (.iconst 1, 1) := by decide +kernel
theorem dX1_compare_24 : decode cX1_compare 24 = .ok (.putfield 29, 3) := by decide +kernel
theorem dX1_compare_27 : decode cX1_compare 27 = .ok (.return_, 1) := by decide +kernel
theorem dX2_init_0 : decode cX2_init 0 = .ok (.aload_n 0, 1) := by decide +kernel
theorem dX2_init_1 : decode cX2_init 1 = .ok (.invokespecial 3, 3) := by decide +kernel
theorem dX2_init_4 : decode cX2_init 4 = .ok (.aload_n 0, 1) := by decide +kernel
theorem dX2_init_5 : decode cX2_init 5 = .ok (.new 9, 3) := by decide +kernel
theorem dX2_init_8 : decode cX2_init 8 = .ok (.dup, 1) := by decide +kernel
theorem dX2_init_9 : decode cX2_init 9 = .ok (.invokespecial 11, 3) := by decide +kernel
theorem dX2_init_12 : decode cX2_init 12 = .ok (.putfield 12, 3) := by decide +kernel
theorem dX2_init_15 : decode cX2_init 15 = .ok (.aload_n 0, 1) := by decide +kernel
theorem dX2_init_16 : decode cX2_init 16 = .ok (.new 16, 3) := by decide +kernel
theorem dX2_init_19 : decode cX2_init 19 = .ok (.dup, 1) := by decide +kernel
theorem dX2_init_20 : decode cX2_init 20 = .ok (.invokespecial 18, 3) := by decide +kernel
theorem dX2_init_23 : decode cX2_init 23 = .ok (.putfield 19, 3) := by decide +kernel
theorem dX2_init_26 : decode cX2_init 26 = .ok (.aload_n 0, 1) := by decide +kernel
theorem dX2_init_27 : decode cX2_init 27 = .ok (.bipush 16, 2) := by decide +kernel
theorem dX2_init_29 : decode cX2_init 29 = .ok (.newarray .int, 2) := by decide +kernel
theorem dX2_init_31 : decode cX2_init 31 = .ok (.putfield 23, 3) := by decide +kernel
theorem dX2_init_34 : decode cX2_init 34 = .ok (.aload_n 0, 1) := by decide +kernel
theorem dX2_init_35 : decode cX2_init 35 = .ok (.bipush 16, 2) := by decide +kernel
theorem dX2_init_37 : decode cX2_init 37 = .ok (.newarray .int, 2) := by decide +kernel
theorem dX2_init_39 : decode cX2_init 39 = .ok (.putfield 27, 3) := by decide +kernel
theorem dX2_init_42 : decode cX2_init 42 = .ok (.aload_n 0, 1) := by decide +kernel
theorem dX2_init_43 : decode cX2_init 43 = .ok (.bipush 16, 2) := by decide +kernel
theorem dX2_init_45 : decode cX2_init 45 = .ok (.newarray .int, 2) := by decide +kernel
theorem dX2_init_47 : decode cX2_init 47 = .ok (.putfield 30, 3) := by decide +kernel
theorem dX2_init_50 : decode cX2_init 50 = .ok (.aload_n 0, 1) := by decide +kernel
theorem dX2_init_51 : decode cX2_init 51 = .ok (.iconst 0, 1) := by decide +kernel
theorem dX2_init_52 : decode cX2_init 52 = .ok (.putfield 33, 3) := by decide +kernel
theorem dX2_init_55 : decode cX2_init 55 = .ok (.return_, 1) := by decide +kernel
theorem dX2_init__0 : decode cX2_init_ 0 = .ok (.aload_n 0, 1) := by decide +kernel
theorem dX2_init__1 : decode cX2_init_ 1 = .ok (.iconst 1, 1) := by decide +kernel
theorem dX2_init__2 : decode cX2_init_ 2 = .ok (.putfield 33, 3) := by decide +kernel
theorem dX2_init__5 : decode cX2_init_ 5 = .ok (.aload_n 0, 1) := by decide +kernel
theorem dX2_init__6 : decode cX2_init_ 6 = .ok (.getfield 12, 3) := by decide +kernel
theorem dX2_init__9 : decode cX2_init_ 9 = .ok (.invokevirtual 37, 3) := by decide +kernel
theorem dX2_init__12 : decode cX2_init_ 12 = .ok (.aload_n 0, 1) := by decide +kernel
theorem dX2_init__13 : decode cX2_init_ 13 = .ok (.getfield 19, 3) := by decide +kernel
theorem dX2_init__16 : decode cX2_init_ 16 = .ok (.invokevirtual 40, 3) := by decide +kernel
theorem dX2_init__19 : decode cX2_init_ 19 = .ok (.return_, 1) := by decide +kernel
theorem dX2_setKeyByte_0 : decode cX2_setKeyByte 0 = .ok (.aload_n 0, 1) := by decide +kernel
theorem dX2_setKeyByte_1 : decode cX2_setKeyByte 1 = .ok (.getfield 33, 3) := by decide +kernel
theorem dX2_setKeyByte_4 : decode cX2_setKeyByte 4 = .ok (.ifCond .eq 17, 3) := by decide +kernel
theorem dX2_setKeyByte_7 : decode cX2_setKeyByte 7 = .ok (.iload_n 1, 1) := by decide +kernel
theorem dX2_setKeyByte_8 : decode cX2_setKeyByte 8 = .ok (.invokestatic 43, 3) := by decide +kernel
theorem dX2_setKeyByte_11 : decode cX2_setKeyByte 11 = .ok (.ifCond .eq 10, 3) := by decide +kernel
theorem dX2_setKeyByte_14 : decode cX2_setKeyByte 14 = .ok (.iload_n 2, 1) := by decide +kernel
theorem dX2_setKeyByte_15 : decode cX2_setKeyByte 15 = .ok (.invokestatic 47, 3) := by decide +kernel
theorem dX2_setKeyByte_18 : decode cX2_setKeyByte 18 = .ok (.ifCond .ne 5, 3) := by decide +kernel
theorem dX2_setKeyByte_21 : decode cX2_setKeyByte 21 = .ok (.iconst 0, 1) := by decide +kernel
theorem dX2_setKeyByte_22 : decode cX2_setKeyByte 22 = .ok (.ireturn, 1) := by decide +kernel
theorem dX2_setKeyByte_23 : decode cX2_setKeyByte 23 = .ok (.aload_n 0, 1) := by decide +kernel
theorem dX2_setKeyByte_24 : decode cX2_setKeyByte 24 = .ok (.getfield 12, 3) := by decide +kernel
theorem dX2_setKeyByte_27 : decode cX2_setKeyByte 27 = .ok (.iload_n 1, 1) := by decide +kernel
theorem dX2_setKeyByte_28 : decode cX2_setKeyByte 28 = .ok (.iload_n 2, 1) := by decide +kernel
theorem dX2_setKeyByte_29 : decode cX2_setKeyByte 29 = .ok (.invokevirtual 50, 3) := by decide +kernel
theorem dX2_setKeyByte_32 : decode cX2_setKeyByte 32 = .ok (.aload_n 0, 1) := by decide +kernel
theorem dX2_setKeyByte_33 : decode cX2_setKeyByte 33 = .ok (.getfield 19, 3) := by decide +kernel
theorem dX2_setKeyByte_36 : decode cX2_setKeyByte 36 = .ok (.invokevirtual 40, 3) := by decide +kernel
theorem dX2_setKeyByte_39 : decode cX2_setKeyByte 39 = .ok (.iconst 1, 1) := by decide +kernel
theorem dX2_setKeyByte_40 : decode cX2_setKeyByte 40 = .ok (.ireturn, 1) := by decide +kernel
theorem dX2_expand_0 : decode cX2_expand 0 = .ok (.aload_n 0, 1) := by decide +kernel
theorem dX2_expand_1 : decode cX2_expand 1 = .ok (.getfield 33, 3) := by decide +kernel
theorem dX2_expand_4 : decode cX2_expand 4 = .ok (.ifCond .ne 5, 3) := by decide +kernel
theorem dX2_expand_7 : decode cX2_expand 7 = .ok (.iconst 0, 1) := by decide +kernel
theorem dX2_expand_8 : decode cX2_expand 8 = .ok (.ireturn, 1) := by decide +kernel
theorem dX2_expand_9 : decode cX2_expand 9 = .ok (.aload_n 0, 1) := by decide +kernel
theorem dX2_expand_10 : decode cX2_expand 10 = .ok (.getfield 12, 3) := by decide +kernel
theorem dX2_expand_13 : decode cX2_expand 13 = .ok (.invokevirtual 54, 3) := by decide +kernel
theorem dX2_expand_16 : decode cX2_expand 16 = .ok (.iconst 1, 1) := by decide +kernel
theorem dX2_expand_17 : decode cX2_expand 17 = .ok (.ireturn, 1) := by decide +kernel
theorem dX2_macStart_0 : decode cX2_macStart 0 = .ok (.aload_n 0, 1) := by decide +kernel
theorem dX2_macStart_1 : decode cX2_macStart 1 = .ok (.getfield 12, 3) := by decide +kernel
theorem dX2_macStart_4 : decode cX2_macStart 4 = .ok (.getfield 57, 3) := by decide +kernel
theorem dX2_macStart_7 : decode cX2_macStart 7 = .ok (.ifCond .ne 5, 3) := by decide +kernel
theorem dX2_macStart_10 : decode cX2_macStart 10 = .ok (.iconst 0, 1) := by decide +kernel
theorem dX2_macStart_11 : decode cX2_macStart 11 = .ok (.ireturn, 1) := by decide +kernel
theorem dX2_macStart_12 : decode cX2_macStart 12 = .ok (.aload_n 0, 1) := by decide +kernel
theorem dX2_macStart_13 : decode cX2_macStart 13 = .ok (.getfield 19, 3) := by decide +kernel
theorem dX2_macStart_16 : decode cX2_macStart 16 = .ok (.invokevirtual 60, 3) := by decide +kernel
theorem dX2_macStart_19 : decode cX2_macStart 19 = .ok (.iconst 1, 1) := by decide +kernel
theorem dX2_macStart_20 : decode cX2_macStart 20 = .ok (.ireturn, 1) := by decide +kernel
theorem dX2_macUpdate_0 : decode cX2_macUpdate 0 = .ok (.aload_n 0, 1) := by decide +kernel
theorem dX2_macUpdate_1 : decode cX2_macUpdate 1 = .ok (.getfield 19, 3) := by decide +kernel
theorem dX2_macUpdate_4 : decode cX2_macUpdate 4 = .ok (.getfield 63, 3) := by decide +kernel
theorem dX2_macUpdate_7 : decode cX2_macUpdate 7 = .ok (.ifCond .eq 10, 3) := by decide +kernel
theorem dX2_macUpdate_10 : decode cX2_macUpdate 10 = .ok (.iload_n 1, 1) := by decide +kernel
theorem dX2_macUpdate_11 : decode cX2_macUpdate 11 = .ok (.invokestatic 47, 3) := by decide +kernel
theorem dX2_macUpdate_14 : decode cX2_macUpdate 14 = .ok (.ifCond .ne 5, 3) := by decide +kernel
theorem dX2_macUpdate_17 : decode cX2_macUpdate 17 = .ok (.iconst 0, 1) := by decide +kernel
theorem dX2_macUpdate_18 : decode cX2_macUpdate 18 = .ok (.ireturn, 1) := by decide +kernel
theorem dX2_macUpdate_19 : decode cX2_macUpdate 19 = .ok (.aload_n 0, 1) := by decide +kernel
theorem dX2_macUpdate_20 : decode cX2_macUpdate 20 = .ok (.getfield 19, 3) := by decide +kernel
theorem dX2_macUpdate_23 : decode cX2_macUpdate 23 = .ok (.iload_n 1, 1) := by decide +kernel
theorem dX2_macUpdate_24 : decode cX2_macUpdate 24 = .ok (.aload_n 0, 1) := by decide +kernel
theorem dX2_macUpdate_25 : decode cX2_macUpdate 25 = .ok (.getfield 12, 3) := by decide +kernel
theorem dX2_macUpdate_28 : decode cX2_macUpdate 28 = .ok (.invokevirtual 66, 3) := by decide +kernel
theorem dX2_macUpdate_31 : decode cX2_macUpdate 31 = .ok (.iconst 1, 1) := by decide +kernel
theorem dX2_macUpdate_32 : decode cX2_macUpdate 32 = .ok (.ireturn, 1) := by decide +kernel
theorem dX2_macFill_0 : decode cX2_macFill 0 = .ok (.aload_n 0, 1) := by decide +kernel
theorem dX2_macFill_1 : decode cX2_macFill 1 = .ok (.getfield 19, 3) := by decide +kernel
theorem dX2_macFill_4 : decode cX2_macFill 4 = .ok (.getfield 63, 3) := by decide +kernel
theorem dX2_macFill_7 : decode cX2_macFill 7 = .ok (.ifCond .eq 14, 3) := by decide +kernel
theorem dX2_macFill_10 : decode cX2_macFill 10 = .ok (.iload_n 1, 1) := by decide +kernel
theorem dX2_macFill_11 : decode cX2_macFill 11 = .ok (.ifCond .lt 10, 3) := by decide +kernel
theorem dX2_macFill_14 : decode cX2_macFill 14 = .ok (.iload_n 1, 1) := by decide +kernel
theorem dX2_macFill_15 : decode cX2_macFill 15 = .ok (.sipush 10000, 3) := by decide +kernel
theorem dX2_macFill_18 : decode cX2_macFill 18 = .ok (.if_icmp .le 5, 3) := by decide +kernel
theorem dX2_macFill_21 : decode cX2_macFill 21 = .ok (.iconst 0, 1) := by decide +kernel
theorem dX2_macFill_22 : decode cX2_macFill 22 = .ok (.ireturn, 1) := by decide +kernel
theorem dX2_macFill_23 : decode cX2_macFill 23 = .ok (.iload_n 2, 1) := by decide +kernel
theorem dX2_macFill_24 : decode cX2_macFill 24 = .ok (.istore 4, 2) := by decide +kernel
theorem dX2_macFill_26 : decode cX2_macFill 26 = .ok (.iconst 0, 1) := by decide +kernel
theorem dX2_macFill_27 : decode cX2_macFill 27 = .ok (.istore 5, 2) := by decide +kernel
theorem dX2_macFill_29 : decode cX2_macFill 29 = .ok (.iload 5, 2) := by decide +kernel
theorem dX2_macFill_31 : decode cX2_macFill 31 = .ok (.iload_n 1, 1) := by decide +kernel
theorem dX2_macFill_32 : decode cX2_macFill 32 = .ok (.if_icmp .ge 32, 3) := by decide +kernel
theorem dX2_macFill_35 : decode cX2_macFill 35 = .ok (.aload_n 0, 1) := by decide +kernel
theorem dX2_macFill_36 : decode cX2_macFill 36 = .ok (.getfield 19, 3) := by decide +kernel
theorem dX2_macFill_39 : decode cX2_macFill 39 = .ok (.iload 4, 2) := by decide +kernel
theorem dX2_macFill_41 : decode cX2_macFill 41 = .ok (.sipush 255, 3) := by decide +kernel
theorem dX2_macFill_44 : decode cX2_macFill 44 = .ok (.iand, 1) := by decide +kernel
theorem dX2_macFill_45 : decode cX2_macFill 45 = .ok (.aload_n 0, 1) := by decide +kernel
theorem dX2_macFill_46 : decode cX2_macFill 46 = .ok (.getfield 12, 3) := by decide +kernel
theorem dX2_macFill_49 : decode cX2_macFill 49 = .ok (.invokevirtual 66, 3) := by decide +kernel
theorem dX2_macFill_52 : decode cX2_macFill 52 = .ok (.iload 4, 2) := by decide +kernel
theorem dX2_macFill_54 : decode cX2_macFill 54 = .ok (.iload_n 3, 1) := by decide +kernel
theorem dX2_macFill_55 : decode cX2_macFill 55 = .ok (.iadd, 1) := by decide +kernel
theorem dX2_macFill_56 : decode cX2_macFill 56 = .ok (.istore 4, 2) := by decide +kernel
theorem dX2_macFill_58 : decode cX2_macFill 58 = .ok (.iinc 5 1, 3) := by decide +kernel
theorem dX2_macFill_61 : decode cX2_macFill 61 = .ok (.goto (-32), 3) := by decide +kernel
theorem dX2_macFill_64 : decode cX2_macFill 64 = .ok (.iconst 1, 1) := by decide +kernel
theorem dX2_macFill_65 : decode cX2_macFill 65 = .ok (.ireturn, 1) := by decide +kernel
theorem dX2_macFinish_0 : decode cX2_macFinish 0 = .ok (.aload_n 0, 1) := by decide +kernel
theorem dX2_macFinish_1 : decode cX2_macFinish 1 = .ok (.getfield 19, 3) := by decide +kernel
theorem dX2_macFinish_4 : decode cX2_macFinish 4 = .ok (.getfield 63, 3) := by decide +kernel
theorem dX2_macFinish_7 : decode cX2_macFinish 7 = .ok (.ifCond .ne 5, 3) := by decide +kernel
theorem dX2_macFinish_10 : decode cX2_macFinish 10 = .ok (.iconst 0, 1) := by decide +kernel
theorem dX2_macFinish_11 : decode cX2_macFinish 11 = .ok (.ireturn, 1) := by decide +kernel
theorem dX2_macFinish_12 : decode cX2_macFinish 12 = .ok (.aload_n 0, 1) := by decide +kernel
theorem dX2_macFinish_13 : decode cX2_macFinish 13 = .ok (.getfield 19, 3) := by decide +kernel
theorem dX2_macFinish_16 : decode cX2_macFinish 16 = .ok (.aload_n 0, 1) := by decide +kernel
theorem dX2_macFinish_17 : decode cX2_macFinish 17 = .ok (.getfield 12, 3) := by decide +kernel
theorem dX2_macFinish_20 : decode cX2_macFinish 20 = .ok (.invokevirtual 70, 3) := by decide +kernel
theorem dX2_macFinish_23 : decode cX2_macFinish 23 = .ok (.iconst 1, 1) := by decide +kernel
theorem dX2_macFinish_24 : decode cX2_macFinish 24 = .ok (.ireturn, 1) := by decide +kernel
theorem dX2_tagByte_0 : decode cX2_tagByte 0 = .ok (.aload_n 0, 1) := by decide +kernel
theorem dX2_tagByte_1 : decode cX2_tagByte 1 = .ok (.getfield 19, 3) := by decide +kernel
theorem dX2_tagByte_4 : decode cX2_tagByte 4 = .ok (.getfield 74, 3) := by decide +kernel
theorem dX2_tagByte_7 : decode cX2_tagByte 7 = .ok (.ifCond .eq 22, 3) := by decide +kernel
theorem dX2_tagByte_10 : decode cX2_tagByte 10 = .ok (.iload_n 1, 1) := by decide +kernel
theorem dX2_tagByte_11 : decode cX2_tagByte 11 = .ok (.invokestatic 43, 3) := by decide +kernel
theorem dX2_tagByte_14 : decode cX2_tagByte 14 = .ok (.ifCond .eq 15, 3) := by decide +kernel
theorem dX2_tagByte_17 : decode cX2_tagByte 17 = .ok (.aload_n 0, 1) := by decide +kernel
theorem dX2_tagByte_18 : decode cX2_tagByte 18 = .ok (.getfield 19, 3) := by decide +kernel
theorem dX2_tagByte_21 : decode cX2_tagByte 21 = .ok (.getfield 77, 3) := by decide +kernel
theorem dX2_tagByte_24 : decode cX2_tagByte 24 = .ok (.iload_n 1, 1) := by decide +kernel
theorem dX2_tagByte_25 : decode cX2_tagByte 25 = .ok (.iaload, 1) := by decide +kernel
theorem dX2_tagByte_26 : decode cX2_tagByte 26 = .ok (.goto 4, 3) := by decide +kernel
theorem dX2_tagByte_29 : decode cX2_tagByte 29 = .ok (.iconst (-1), 1) := by decide +kernel
theorem dX2_tagByte_30 : decode cX2_tagByte 30 = .ok (.ireturn, 1) := by decide +kernel
theorem dX2_macCheck_0 : decode cX2_macCheck 0 = .ok (.aload_n 0, 1) := by decide +kernel
theorem dX2_macCheck_1 : decode cX2_macCheck 1 = .ok (.getfield 19, 3) := by decide +kernel
theorem dX2_macCheck_4 : decode cX2_macCheck 4 = .ok (.getfield 74, 3) := by decide +kernel
theorem dX2_macCheck_7 : decode cX2_macCheck 7 = .ok (.ifCond .eq 10, 3) := by decide +kernel
theorem dX2_macCheck_10 : decode cX2_macCheck 10 = .ok (.iload_n 1, 1) := by decide +kernel
theorem dX2_macCheck_11 : decode cX2_macCheck 11 = .ok (.invokestatic 43, 3) := by decide +kernel
theorem dX2_macCheck_14 : decode cX2_macCheck 14 = .ok (.ifCond .ne 5, 3) := by decide +kernel
theorem dX2_macCheck_17 : decode cX2_macCheck 17 = .ok (.iconst 0, 1) := by decide +kernel
theorem dX2_macCheck_18 : decode cX2_macCheck 18 = .ok (.ireturn, 1) := by decide +kernel
theorem dX2_macCheck_19 : decode cX2_macCheck 19 = .ok (.aload_n 0, 1) := by decide +kernel
theorem dX2_macCheck_20 : decode cX2_macCheck 20 = .ok (.getfield 19, 3) := by decide +kernel
theorem dX2_macCheck_23 : decode cX2_macCheck 23 = .ok (.iload_n 1, 1) := by decide +kernel
theorem dX2_macCheck_24 : decode cX2_macCheck 24 = .ok (.iload_n 2, 1) := by decide +kernel
theorem dX2_macCheck_25 : decode cX2_macCheck 25 = .ok (.invokevirtual 80, 3) := by decide +kernel
theorem dX2_macCheck_28 : decode cX2_macCheck 28 = .ok (.iconst 1, 1) := by decide +kernel
theorem dX2_macCheck_29 : decode cX2_macCheck 29 = .ok (.ireturn, 1) := by decide +kernel
theorem dX2_macVerdict_0 : decode cX2_macVerdict 0 = .ok (.aload_n 0, 1) := by decide +kernel
theorem dX2_macVerdict_1 : decode cX2_macVerdict 1 = .ok (.getfield 19, 3) := by decide +kernel
theorem dX2_macVerdict_4 : decode cX2_macVerdict 4 = .ok (.getfield 74, 3) := by decide +kernel
theorem dX2_macVerdict_7 : decode cX2_macVerdict 7 = .ok (.ifCond .eq 29, 3) := by decide +kernel
theorem dX2_macVerdict_10 : decode cX2_macVerdict 10 = .ok (.aload_n 0, 1) := by decide +kernel
theorem dX2_macVerdict_11 : decode cX2_macVerdict 11 = .ok (.getfield 19, 3) := by decide +kernel
theorem dX2_macVerdict_14 : decode cX2_macVerdict 14 = .ok (.getfield 83, 3) := by decide +kernel
theorem dX2_macVerdict_17 : decode cX2_macVerdict 17 = .ok (.ldc 87, 2) := by decide +kernel
theorem dX2_macVerdict_19 : decode cX2_macVerdict 19 = .ok (.if_icmp .ne 17, 3) := by decide +kernel
theorem dX2_macVerdict_22 : decode cX2_macVerdict 22 = .ok (.aload_n 0, 1) := by decide +kernel
theorem dX2_macVerdict_23 : decode cX2_macVerdict 23 = .ok (.getfield 19, 3) := by decide +kernel
theorem dX2_macVerdict_26 : decode cX2_macVerdict 26 = .ok (.getfield 88, 3) := by decide +kernel
theorem dX2_macVerdict_29 : decode cX2_macVerdict 29 = .ok (.ifCond .ne 7, 3) := by decide +kernel
theorem dX2_macVerdict_32 : decode cX2_macVerdict 32 = .ok (.iconst 1, 1) := by decide +kernel
theorem dX2_macVerdict_33 : decode cX2_macVerdict 33 = .ok (.goto 4, 3) := by decide +kernel
theorem dX2_macVerdict_36 : decode cX2_macVerdict 36 = .ok (.iconst 0, 1) := by decide +kernel
theorem dX2_macVerdict_37 : decode cX2_macVerdict 37 = .ok (.ireturn, 1) := by decide +kernel
theorem dX2_setBlockByte_0 : decode cX2_setBlockByte 0 = .ok (.aload_n 0, 1) := by decide +kernel
theorem dX2_setBlockByte_1 : decode cX2_setBlockByte 1 = .ok (.getfield 33, 3) := by decide +kernel
theorem dX2_setBlockByte_4 : decode cX2_setBlockByte 4 = .ok (.ifCond .eq 17, 3) := by decide +kernel
theorem dX2_setBlockByte_7 : decode cX2_setBlockByte 7 = .ok (.iload_n 1, 1) := by decide +kernel
theorem dX2_setBlockByte_8 : decode cX2_setBlockByte 8 = .ok (.invokestatic 43, 3) := by decide +kernel
theorem dX2_setBlockByte_11 : decode cX2_setBlockByte 11 = .ok (.ifCond .eq 10, 3) := by decide +kernel
theorem dX2_setBlockByte_14 : decode cX2_setBlockByte 14 = .ok (.iload_n 2, 1) := by decide +kernel
theorem dX2_setBlockByte_15 : decode cX2_setBlockByte 15 = .ok (.invokestatic 47, 3) := by decide +kernel
theorem dX2_setBlockByte_18 : decode cX2_setBlockByte 18 = .ok (.ifCond .ne 5, 3) := by decide +kernel
theorem dX2_setBlockByte_21 : decode cX2_setBlockByte 21 = .ok (.iconst 0, 1) := by decide +kernel
theorem dX2_setBlockByte_22 : decode cX2_setBlockByte 22 = .ok (.ireturn, 1) := by decide +kernel
theorem dX2_setBlockByte_23 : decode cX2_setBlockByte 23 = .ok (.aload_n 0, 1) := by decide +kernel
theorem dX2_setBlockByte_24 : decode cX2_setBlockByte 24 = .ok (.getfield 23, 3) := by decide +kernel
theorem dX2_setBlockByte_27 : decode cX2_setBlockByte 27 = .ok (.iload_n 1, 1) := by decide +kernel
theorem dX2_setBlockByte_28 : decode cX2_setBlockByte 28 = .ok (.iload_n 2, 1) := by decide +kernel
theorem dX2_setBlockByte_29 : decode cX2_setBlockByte 29 = .ok (.iastore, 1) := by decide +kernel
theorem dX2_setBlockByte_30 : decode cX2_setBlockByte 30 = .ok (.iconst 1, 1) := by decide +kernel
theorem dX2_setBlockByte_31 : decode cX2_setBlockByte 31 = .ok (.ireturn, 1) := by decide +kernel
theorem dX2_encryptBlock_0 : decode cX2_encryptBlock 0 = .ok (.aload_n 0, 1) := by decide +kernel
theorem dX2_encryptBlock_1 : decode cX2_encryptBlock 1 = .ok (.getfield 12, 3) := by decide +kernel
theorem dX2_encryptBlock_4 : decode cX2_encryptBlock 4 = .ok (.getfield 57, 3) := by decide +kernel
theorem dX2_encryptBlock_7 : decode cX2_encryptBlock 7 = .ok (.ifCond .ne 5, 3) := by decide +kernel
theorem dX2_encryptBlock_10 : decode cX2_encryptBlock 10 = .ok (.iconst 0, 1) := by decide +kernel
theorem dX2_encryptBlock_11 : decode cX2_encryptBlock 11 = .ok (.ireturn, 1) := by decide +kernel
theorem dX2_encryptBlock_12 : decode cX2_encryptBlock 12 = .ok (.aload_n 0, 1) := by decide +kernel
theorem dX2_encryptBlock_13 : decode cX2_encryptBlock 13 = .ok (.getfield 12, 3) := by decide +kernel
theorem dX2_encryptBlock_16 : decode cX2_encryptBlock 16 = .ok (.aload_n 0, 1) := by decide +kernel
theorem dX2_encryptBlock_17 : decode cX2_encryptBlock 17 = .ok (.getfield 23, 3) := by decide +kernel
theorem dX2_encryptBlock_20 : decode cX2_encryptBlock 20 = .ok (.invokevirtual 91, 3) := by decide +kernel
theorem dX2_encryptBlock_23 : decode cX2_encryptBlock 23 = .ok (.iconst 1, 1) := by decide +kernel
theorem dX2_encryptBlock_24 : decode cX2_encryptBlock 24 = .ok (.ireturn, 1) := by decide +kernel
theorem dX2_decryptBlock_0 : decode cX2_decryptBlock 0 = .ok (.aload_n 0, 1) := by decide +kernel
theorem dX2_decryptBlock_1 : decode cX2_decryptBlock 1 = .ok (.getfield 12, 3) := by decide +kernel
theorem dX2_decryptBlock_4 : decode cX2_decryptBlock 4 = .ok (.getfield 57, 3) := by decide +kernel
theorem dX2_decryptBlock_7 : decode cX2_decryptBlock 7 = .ok (.ifCond .ne 5, 3) := by decide +kernel
theorem dX2_decryptBlock_10 : decode cX2_decryptBlock 10 = .ok (.iconst 0, 1) := by decide +kernel
theorem dX2_decryptBlock_11 : decode cX2_decryptBlock 11 = .ok (.ireturn, 1) := by decide +kernel
theorem dX2_decryptBlock_12 : decode cX2_decryptBlock 12 = .ok (.aload_n 0, 1) := by decide +kernel
theorem dX2_decryptBlock_13 : decode cX2_decryptBlock 13 = .ok (.getfield 12, 3) := by decide +kernel
theorem dX2_decryptBlock_16 : decode cX2_decryptBlock 16 = .ok (.aload_n 0, 1) := by decide +kernel
theorem dX2_decryptBlock_17 : decode cX2_decryptBlock 17 = .ok (.getfield 23, 3) := by decide +kernel
theorem dX2_decryptBlock_20 : decode cX2_decryptBlock 20 = .ok (.invokevirtual 95, 3) := by decide +kernel
theorem dX2_decryptBlock_23 : decode cX2_decryptBlock 23 = .ok (.iconst 1, 1) := by decide +kernel
theorem dX2_decryptBlock_24 : decode cX2_decryptBlock 24 = .ok (.ireturn, 1) := by decide +kernel
theorem dX2_chain_0 : decode cX2_chain 0 = .ok (.aload_n 0, 1) := by decide +kernel
theorem dX2_chain_1 : decode cX2_chain 1 = .ok (.getfield 12, 3) := by decide +kernel
theorem dX2_chain_4 : decode cX2_chain 4 = .ok (.getfield 57, 3) := by decide +kernel
theorem dX2_chain_7 : decode cX2_chain 7 = .ok (.ifCond .ne 5, 3) := by decide +kernel
theorem dX2_chain_10 : decode cX2_chain 10 = .ok (.iconst 0, 1) := by decide +kernel
theorem dX2_chain_11 : decode cX2_chain 11 = .ok (.ireturn, 1) := by decide +kernel
theorem dX2_chain_12 : decode cX2_chain 12 = .ok (.iload_n 1, 1) := by decide +kernel
theorem dX2_chain_13 : decode cX2_chain 13 = .ok (.ifCond .eq 10, 3) := by decide +kernel
theorem dX2_chain_16 : decode cX2_chain 16 = .ok (.aload_n 0, 1) := by decide +kernel
theorem dX2_chain_17 : decode cX2_chain 17 = .ok (.invokevirtual 98, 3) := by decide +kernel
theorem dX2_chain_20 : decode cX2_chain 20 = .ok (.goto 7, 3) := by decide +kernel
theorem dX2_chain_23 : decode cX2_chain 23 = .ok (.aload_n 0, 1) := by decide +kernel
theorem dX2_chain_24 : decode cX2_chain 24 = .ok (.invokevirtual 101, 3) := by decide +kernel
theorem dX2_chain_27 : decode cX2_chain 27 = .ok (.iconst 1, 1) := by decide +kernel
theorem dX2_chain_28 : decode cX2_chain 28 = .ok (.ireturn, 1) := by decide +kernel
theorem dX2_unchain_0 : decode cX2_unchain 0 = .ok (.aload_n 0, 1) := by decide +kernel
theorem dX2_unchain_1 : decode cX2_unchain 1 = .ok (.getfield 33, 3) := by decide +kernel
theorem dX2_unchain_4 : decode cX2_unchain 4 = .ok (.ifCond .ne 5, 3) := by decide +kernel
theorem dX2_unchain_7 : decode cX2_unchain 7 = .ok (.iconst 0, 1) := by decide +kernel
theorem dX2_unchain_8 : decode cX2_unchain 8 = .ok (.ireturn, 1) := by decide +kernel
theorem dX2_unchain_9 : decode cX2_unchain 9 = .ok (.aload_n 0, 1) := by decide +kernel
theorem dX2_unchain_10 : decode cX2_unchain 10 = .ok (.getfield 27, 3) := by decide +kernel
theorem dX2_unchain_13 : decode cX2_unchain 13 = .ok (.iconst 0, 1) := by decide +kernel
theorem dX2_unchain_14 : decode cX2_unchain 14 = .ok (.invokestatic 104, 3) := by decide +kernel
theorem dX2_unchain_17 : decode cX2_unchain 17 = .ok (.iconst 1, 1) := by decide +kernel
theorem dX2_unchain_18 : decode cX2_unchain 18 = .ok (.ireturn, 1) := by decide +kernel
