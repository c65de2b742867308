theorem dX0_code_0 : decode cX0_code 0 = .ok (.bipush 100, 2) := by decide +kernel
theorem dX0_code_2 : decode cX0_code 2 = .ok (.iload_n 0, 1) := by decide +kernel
theorem dX0_code_3 : decode cX0_code 3 = .ok (.imul, 1) := by decide +kernel
theorem dX0_code_4 : decode cX0_code 4 = .ok (.iload_n 1, 1) := by decide +kernel
theorem dX0_code_5 : decode cX0_code 5 = .ok (.iadd, 1) := by decide +kernel
theorem dX0_code_6 : decode cX0_code 6 = .ok (.ireturn, 1) := by decide +kernel
theorem dX0_tilesAlike_0 : decode cX0_tilesAlike 0 = .ok (.iload_n 0, 1) := by decide +kernel
theorem dX0_tilesAlike_1 : decode cX0_tilesAlike 1 = .ok (.iconst 1, 1) := by decide +kernel
theorem dX0_tilesAlike_2 : decode cX0_tilesAlike 2 = .ok (.iadd, 1) := by decide +kernel
theorem dX0_tilesAlike_3 : decode cX0_tilesAlike 3 = .ok (.ireturn, 1) := by decide +kernel
theorem dX1_init_0 : decode cX1_init 0 = .ok (.aload_n 0, 1) := by decide +kernel
theorem dX1_init_1 : decode cX1_init 1 = .ok (.invokespecial 1, 3) := by decide +kernel
theorem dX1_init_4 : decode cX1_init 4 = .ok (.aload_n 0, 1) := by decide +kernel
theorem dX1_init_5 : decode cX1_init 5 = .ok (.bipush 34, 2) := by decide +kernel
theorem dX1_init_7 : decode cX1_init 7 = .ok (.newarray .int, 2) := by decide +kernel
theorem dX1_init_9 : decode cX1_init 9 = .ok (.putfield 9, 3) := by decide +kernel
theorem dX1_init_12 : decode cX1_init 12 = .ok (.aload_n 0, 1) := by decide +kernel
theorem dX1_init_13 : decode cX1_init 13 = .ok (.bipush 34, 2) := by decide +kernel
theorem dX1_init_15 : decode cX1_init 15 = .ok (.newarray .int, 2) := by decide +kernel
theorem dX1_init_17 : decode cX1_init 17 = .ok (.putfield 15, 3) := by decide +kernel
theorem dX1_init_20 : decode cX1_init 20 = .ok (.aload_n 0, 1) := by decide +kernel
theorem dX1_init_21 : decode cX1_init 21 = .ok (.iconst 4, 1) := by decide +kernel
theorem dX1_init_22 : decode cX1_init 22 = .ok (.newarray .int, 2) := by decide +kernel
theorem dX1_init_24 : decode cX1_init 24 = .ok (.putfield 18, 3) := by decide +kernel
theorem dX1_init_27 : decode cX1_init 27 = .ok (.aload_n 0, 1) := by decide +kernel
theorem dX1_init_28 : decode cX1_init 28 = .ok (.iconst 0, 1) := by decide +kernel
theorem dX1_init_29 : decode cX1_init 29 = .ok (.putfield 21, 3) := by decide +kernel
theorem dX1_init_32 : decode cX1_init 32 = .ok (.aload_n 0, 1) := by decide +kernel
theorem dX1_init_33 : decode cX1_init 33 = .ok (.iconst 0, 1) := by decide +kernel
theorem dX1_init_34 : decode cX1_init 34 = .ok (.putfield 25, 3) := by decide +kernel
theorem dX1_init_37 : decode cX1_init 37 = .ok (.return_, 1) := by decide +kernel
theorem dX1_size_0 : decode cX1_size 0 = .ok (.aload_n 0, 1) := by decide +kernel
theorem dX1_size_1 : decode cX1_size 1 = .ok (.getfield 21, 3) := by decide +kernel
theorem dX1_size_4 : decode cX1_size 4 = .ok (.iconst 3, 1) := by decide +kernel
theorem dX1_size_5 : decode cX1_size 5 = .ok (.aload_n 0, 1) := by decide +kernel
theorem dX1_size_6 : decode cX1_size 6 = .ok (.getfield 25, 3) := by decide +kernel
theorem dX1_size_9 : decode cX1_size 9 = .ok (.imul, 1) := by decide +kernel
theorem dX1_size_10 : decode cX1_size 10 = .ok (.iadd, 1) := by decide +kernel
theorem dX1_size_11 : decode cX1_size 11 = .ok (.ireturn, 1) := by decide +kernel
theorem dX1_isFull_0 : decode cX1_isFull 0 = .ok (.aload_n 0, 1) := by decide +kernel
theorem dX1_isFull_1 : decode cX1_isFull 1 = .ok (.invokevirtual 28, 3) := by decide +kernel
theorem dX1_isFull_4 : decode cX1_isFull 4 = .ok (.bipush 14, 2) := by decide +kernel
theorem dX1_isFull_6 : decode cX1_isFull 6 = .ok (.if_icmp .ne 7, 3) := by decide +kernel
theorem dX1_isFull_9 : decode cX1_isFull 9 = .ok (.iconst 1, 1) := by decide +kernel
theorem dX1_isFull_10 : decode cX1_isFull 10 = .ok (.goto 4, 3) := by decide +kernel
theorem dX1_isFull_13 : decode cX1_isFull 13 = .ok (.iconst 0, 1) := by decide +kernel
theorem dX1_isFull_14 : decode cX1_isFull 14 = .ok (.ireturn, 1) := by decide +kernel
theorem dX1_rests_0 : decode cX1_rests 0 = .ok (.aload_n 0, 1) := by decide +kernel
theorem dX1_rests_1 : decode cX1_rests 1 = .ok (.invokevirtual 28, 3) := by decide +kernel
theorem dX1_rests_4 : decode cX1_rests 4 = .ok (.bipush 13, 2) := by decide +kernel
theorem dX1_rests_6 : decode cX1_rests 6 = .ok (.if_icmp .ne 7, 3) := by decide +kernel
theorem dX1_rests_9 : decode cX1_rests 9 = .ok (.iconst 1, 1) := by decide +kernel
theorem dX1_rests_10 : decode cX1_rests 10 = .ok (.goto 4, 3) := by decide +kernel
theorem dX1_rests_13 : decode cX1_rests 13 = .ok (.iconst 0, 1) := by decide +kernel
theorem dX1_rests_14 : decode cX1_rests 14 = .ok (.ireturn, 1) := by decide +kernel
theorem dX1_gain_0 : decode cX1_gain 0 = .ok (.aload_n 0, 1) := by decide +kernel
theorem dX1_gain_1 : decode cX1_gain 1 = .ok (.getfield 9, 3) := by decide +kernel
theorem dX1_gain_4 : decode cX1_gain 4 = .ok (.iload_n 1, 1) := by decide +kernel
theorem dX1_gain_5 : decode cX1_gain 5 = .ok (.dup2, 1) := by decide +kernel
theorem dX1_gain_6 : decode cX1_gain 6 = .ok (.iaload, 1) := by decide +kernel
theorem dX1_gain_7 : decode cX1_gain 7 = .ok (.iconst 1, 1) := by decide +kernel
theorem dX1_gain_8 : decode cX1_gain 8 = .ok (.iadd, 1) := by decide +kernel
theorem dX1_gain_9 : decode cX1_gain 9 = .ok (.iastore, 1) := by decide +kernel
theorem dX1_gain_10 : decode cX1_gain 10 = .ok (.aload_n 0, 1) := by decide +kernel
theorem dX1_gain_11 : decode cX1_gain 11 = .ok (.dup, 1) := by decide +kernel
theorem dX1_gain_12 : decode cX1_gain 12 = .ok (.getfield 21, 3) := by decide +kernel
theorem dX1_gain_15 : decode cX1_gain 15 = .ok (.iconst 1, 1) := by decide +kernel
theorem dX1_gain_16 : decode cX1_gain 16 = .ok (.iadd, 1) := by decide +kernel
theorem dX1_gain_17 : decode cX1_gain 17 = .ok (.putfield 21, 3) := by decide +kernel
theorem dX1_gain_20 : decode cX1_gain 20 = .ok (.return_, 1) := by decide +kernel
theorem dX1_lose_0 : decode cX1_lose 0 = .ok (.aload_n 0, 1) := by decide +kernel
theorem dX1_lose_1 : decode cX1_lose 1 = .ok (.getfield 9, 3) := by decide +kernel
theorem dX1_lose_4 : decode cX1_lose 4 = .ok (.iload_n 1, 1) := by decide +kernel
theorem dX1_lose_5 : decode cX1_lose 5 = .ok (.dup2, 1) := by decide +kernel
theorem dX1_lose_6 : decode cX1_lose 6 = .ok (.iaload, 1) := by decide +kernel
theorem dX1_lose_7 : decode cX1_lose 7 = .ok (.iconst 1, 1) := by decide +kernel
theorem dX1_lose_8 : decode cX1_lose 8 = .ok (.isub, 1) := by decide +kernel
theorem dX1_lose_9 : decode cX1_lose 9 = .ok (.iastore, 1) := by decide +kernel
theorem dX1_lose_10 : decode cX1_lose 10 = .ok (.aload_n 0, 1) := by decide +kernel
theorem dX1_lose_11 : decode cX1_lose 11 = .ok (.dup, 1) := by decide +kernel
theorem dX1_lose_12 : decode cX1_lose 12 = .ok (.getfield 21, 3) := by decide +kernel
theorem dX1_lose_15 : decode cX1_lose 15 = .ok (.iconst 1, 1) := by decide +kernel
theorem dX1_lose_16 : decode cX1_lose 16 = .ok (.isub, 1) := by decide +kernel
theorem dX1_lose_17 : decode cX1_lose 17 = .ok (.putfield 21, 3) := by decide +kernel
theorem dX1_lose_20 : decode cX1_lose 20 = .ok (.return_, 1) := by decide +kernel
theorem dX1_canLay_0 : decode cX1_canLay 0 = .ok (.aload_n 0, 1) := by decide +kernel
theorem dX1_canLay_1 : decode cX1_canLay 1 = .ok (.getfield 25, 3) := by decide +kernel
theorem dX1_canLay_4 : decode cX1_canLay 4 = .ok (.iconst 4, 1) := by decide +kernel
theorem dX1_canLay_5 : decode cX1_canLay 5 = .ok (.if_icmp .lt 5, 3) := by decide +kernel
theorem dX1_canLay_8 : decode cX1_canLay 8 = .ok (.iconst 0, 1) := by decide +kernel
theorem dX1_canLay_9 : decode cX1_canLay 9 = .ok (.ireturn, 1) := by decide +kernel
theorem dX1_canLay_10 : decode cX1_canLay 10 = .ok (.iload_n 1, 1) := by decide +kernel
theorem dX1_canLay_11 : decode cX1_canLay 11 = .ok (.iconst 1, 1) := by decide +kernel
theorem dX1_canLay_12 : decode cX1_canLay 12 = .ok (.if_icmp .ne 40, 3) := by decide +kernel
theorem dX1_canLay_15 : decode cX1_canLay 15 = .ok (.aload_n 0, 1) := by decide +kernel
theorem dX1_canLay_16 : decode cX1_canLay 16 = .ok (.getfield 9, 3) := by decide +kernel
theorem dX1_canLay_19 : decode cX1_canLay 19 = .ok (.iload_n 2, 1) := by decide +kernel
theorem dX1_canLay_20 : decode cX1_canLay 20 = .ok (.iaload, 1) := by decide +kernel
theorem dX1_canLay_21 : decode cX1_canLay 21 = .ok (.ifCond .le 29, 3) := by decide +kernel
theorem dX1_canLay_24 : decode cX1_canLay 24 = .ok (.aload_n 0, 1) := by decide +kernel
theorem dX1_canLay_25 : decode cX1_canLay 25 = .ok (.getfield 9, 3) := by decide +kernel
theorem dX1_canLay_28 : decode cX1_canLay 28 = .ok (.iload_n 2, 1) := by decide +kernel
theorem dX1_canLay_29 : decode cX1_canLay 29 = .ok (.iconst 1, 1) := by decide +kernel
theorem dX1_canLay_30 : decode cX1_canLay 30 = .ok (.iadd, 1) := by decide +kernel
theorem dX1_canLay_31 : decode cX1_canLay 31 = .ok (.iaload, 1) := by decide +kernel
theorem dX1_canLay_32 : decode cX1_canLay 32 = .ok (.ifCond .le 18, 3) := by decide +kernel
theorem dX1_canLay_35 : decode cX1_canLay 35 = .ok (.aload_n 0, 1) := by decide +kernel
theorem dX1_canLay_36 : decode cX1_canLay 36 = .ok (.getfield 9, 3) := by decide +kernel
theorem dX1_canLay_39 : decode cX1_canLay 39 = .ok (.iload_n 2, 1) := by decide +kernel
theorem dX1_canLay_40 : decode cX1_canLay 40 = .ok (.iconst 2, 1) := by decide +kernel
theorem dX1_canLay_41 : decode cX1_canLay 41 = .ok (.iadd, 1) := by decide +kernel
theorem dX1_canLay_42 : decode cX1_canLay 42 = .ok (.iaload, 1) := by decide +kernel
theorem dX1_canLay_43 : decode cX1_canLay 43 = .ok (.ifCond .le 7, 3) := by decide +kernel
theorem dX1_canLay_46 : decode cX1_canLay 46 = .ok (.iconst 1, 1) := by decide +kernel
theorem dX1_canLay_47 : decode cX1_canLay 47 = .ok (.goto 4, 3) := by decide +kernel
theorem dX1_canLay_50 : decode cX1_canLay 50 = .ok (.iconst 0, 1) := by decide +kernel
theorem dX1_canLay_51 : decode cX1_canLay 51 = .ok (.ireturn, 1) := by decide +kernel
theorem dX1_canLay_52 : decode cX1_canLay 52 = .ok (.aload_n 0, 1) := by decide +kernel
theorem dX1_canLay_53 : decode cX1_canLay 53 = .ok (.getfield 9, 3) := by decide +kernel
theorem dX1_canLay_56 : decode cX1_canLay 56 = .ok (.iload_n 2, 1) := by decide +kernel
theorem dX1_canLay_57 : decode cX1_canLay 57 = .ok (.iaload, 1) := by decide +kernel
theorem dX1_canLay_58 : decode cX1_canLay 58 = .ok (.iload_n 1, 1) := by decide +kernel
theorem dX1_canLay_59 : decode cX1_canLay 59 = .ok (.invokestatic 34, 3) := by decide +kernel
theorem dX1_canLay_62 : decode cX1_canLay 62 = .ok (.if_icmp .lt 7, 3) := by decide +kernel
theorem dX1_canLay_65 : decode cX1_canLay 65 = .ok (.iconst 1, 1) := by decide +kernel
theorem dX1_canLay_66 : decode cX1_canLay 66 = .ok (.goto 4, 3) := by decide +kernel
theorem dX1_canLay_69 : decode cX1_canLay 69 = .ok (.iconst 0, 1) := by decide +kernel
theorem dX1_canLay_70 : decode cX1_canLay 70 = .ok (.ireturn, 1) := by decide +kernel
theorem dX1_lay_0 : decode cX1_lay 0 = .ok (.iload_n 1, 1) := by decide +kernel
theorem dX1_lay_1 : decode cX1_lay 1 = .ok (.iconst 1, 1) := by decide +kernel
theorem dX1_lay_2 : decode cX1_lay 2 = .ok (.if_icmp .ne 7, 3) := by decide +kernel
theorem dX1_lay_5 : decode cX1_lay 5 = .ok (.iconst 3, 1) := by decide +kernel
theorem dX1_lay_6 : decode cX1_lay 6 = .ok (.goto 7, 3) := by decide +kernel
theorem dX1_lay_9 : decode cX1_lay 9 = .ok (.iload_n 1, 1) := by decide +kernel
theorem dX1_lay_10 : decode cX1_lay 10 = .ok (.invokestatic 34, 3) := by decide +kernel
theorem dX1_lay_13 : decode cX1_lay 13 = .ok (.istore_n 3, 1) := by decide +kernel
theorem dX1_lay_14 : decode cX1_lay 14 = .ok (.iconst 0, 1) := by decide +kernel
theorem dX1_lay_15 : decode cX1_lay 15 = .ok (.istore 4, 2) := by decide +kernel
theorem dX1_lay_17 : decode cX1_lay 17 = .ok (.iload 4, 2) := by decide +kernel
theorem dX1_lay_19 : decode cX1_lay 19 = .ok (.iload_n 3, 1) := by decide +kernel
theorem dX1_lay_20 : decode cX1_lay 20 = .ok (.if_icmp .ge 41, 3) := by decide +kernel
theorem dX1_lay_23 : decode cX1_lay 23 = .ok (.iload_n 1, 1) := by decide +kernel
theorem dX1_lay_24 : decode cX1_lay 24 = .ok (.iconst 1, 1) := by decide +kernel
theorem dX1_lay_25 : decode cX1_lay 25 = .ok (.if_icmp .ne 10, 3) := by decide +kernel
theorem dX1_lay_28 : decode cX1_lay 28 = .ok (.iload_n 2, 1) := by decide +kernel
theorem dX1_lay_29 : decode cX1_lay 29 = .ok (.iload 4, 2) := by decide +kernel
theorem dX1_lay_31 : decode cX1_lay 31 = .ok (.iadd, 1) := by decide +kernel
theorem dX1_lay_32 : decode cX1_lay 32 = .ok (.goto 4, 3) := by decide +kernel
theorem dX1_lay_35 : decode cX1_lay 35 = .ok (.iload_n 2, 1) := by decide +kernel
theorem dX1_lay_36 : decode cX1_lay 36 = .ok (.istore 5, 2) := by decide +kernel
theorem dX1_lay_38 : decode cX1_lay 38 = .ok (.aload_n 0, 1) := by decide +kernel
theorem dX1_lay_39 : decode cX1_lay 39 = .ok (.iload 5, 2) := by decide +kernel
theorem dX1_lay_41 : decode cX1_lay 41 = .ok (.invokevirtual 38, 3) := by decide +kernel
theorem dX1_lay_44 : decode cX1_lay 44 = .ok (.aload_n 0, 1) := by decide +kernel
theorem dX1_lay_45 : decode cX1_lay 45 = .ok (.getfield 15, 3) := by decide +kernel
theorem dX1_lay_48 : decode cX1_lay 48 = .ok (.iload 5, 2) := by decide +kernel
theorem dX1_lay_50 : decode cX1_lay 50 = .ok (.dup2, 1) := by decide +kernel
theorem dX1_lay_51 : decode cX1_lay 51 = .ok (.iaload, 1) := by decide +kernel
theorem dX1_lay_52 : decode cX1_lay 52 = .ok (.iconst 1, 1) := by decide +kernel
theorem dX1_lay_53 : decode cX1_lay 53 = .ok (.iadd, 1) := by decide +kernel
theorem dX1_lay_54 : decode cX1_lay 54 = .ok (.iastore, 1) := by decide +kernel
theorem dX1_lay_55 : decode cX1_lay 55 = .ok (.iinc 4 1, 3) := by decide +kernel
theorem dX1_lay_58 : decode cX1_lay 58 = .ok (.goto (-41), 3) := by decide +kernel
theorem dX1_lay_61 : decode cX1_lay 61 = .ok (.aload_n 0, 1) := by decide +kernel
theorem dX1_lay_62 : decode cX1_lay 62 = .ok (.getfield 18, 3) := by decide +kernel
theorem dX1_lay_65 : decode cX1_lay 65 = .ok (.aload_n 0, 1) := by decide +kernel
theorem dX1_lay_66 : decode cX1_lay 66 = .ok (.getfield 25, 3) := by decide +kernel
theorem dX1_lay_69 : decode cX1_lay 69 = .ok (.iload_n 1, 1) := by decide +kernel
theorem dX1_lay_70 : decode cX1_lay 70 = .ok (.iload_n 2, 1) := by decide +kernel
theorem dX1_lay_71 : decode cX1_lay 71 = .ok (.invokestatic 42, 3) := by decide +kernel
theorem dX1_lay_74 : decode cX1_lay 74 = .ok (.iastore, 1) := by decide +kernel
theorem dX1_lay_75 : decode cX1_lay 75 = .ok (.aload_n 0, 1) := by decide +kernel
theorem dX1_lay_76 : decode cX1_lay 76 = .ok (.dup, 1) := by decide +kernel
theorem dX1_lay_77 : decode cX1_lay 77 = .ok (.getfield 25, 3) := by decide +kernel
theorem dX1_lay_80 : decode cX1_lay 80 = .ok (.iconst 1, 1) := by decide +kernel
theorem dX1_lay_81 : decode cX1_lay 81 = .ok (.iadd, 1) := by decide +kernel
theorem dX1_lay_82 : decode cX1_lay 82 = .ok (.putfield 25, 3) := by decide +kernel
theorem dX1_lay_85 : decode cX1_lay 85 = .ok (.return_, 1) := by decide +kernel
theorem dX1_giveBack_0 : decode cX1_giveBack 0 = .ok (.aload_n 0, 1) := by decide +kernel
theorem dX1_giveBack_1 : decode cX1_giveBack 1 = .ok (.getfield 9, 3) := by decide +kernel
theorem dX1_giveBack_4 : decode cX1_giveBack 4 = .ok (.invokestatic 46, 3) := by decide +kernel
theorem dX1_giveBack_7 : decode cX1_giveBack 7 = .ok (.aload_n 0, 1) := by decide +kernel
theorem dX1_giveBack_8 : decode cX1_giveBack 8 = .ok (.getfield 15, 3) := by decide +kernel
theorem dX1_giveBack_11 : decode cX1_giveBack 11 = .ok (.invokestatic 46, 3) := by decide +kernel
theorem dX1_giveBack_14 : decode cX1_giveBack 14 = .ok (.iadd, 1) := by decide +kernel
theorem dX1_giveBack_15 : decode cX1_giveBack 15 = .ok (.istore_n 2, 1) := by decide +kernel
theorem dX1_giveBack_16 : decode cX1_giveBack 16 = .ok (.iconst 0, 1) := by decide +kernel
theorem dX1_giveBack_17 : decode cX1_giveBack 17 = .ok (.istore_n 3, 1) := by decide +kernel
theorem dX1_giveBack_18 : decode cX1_giveBack 18 = .ok (.iload_n 3, 1) := by decide +kernel
theorem dX1_giveBack_19 : decode cX1_giveBack 19 = .ok (.bipush 34, 2) := by decide +kernel
theorem dX1_giveBack_21 : decode cX1_giveBack 21 = .ok (.if_icmp .ge 28, 3) := by decide +kernel
theorem dX1_giveBack_24 : decode cX1_giveBack 24 = .ok (.aload_n 1, 1) := by decide +kernel
theorem dX1_giveBack_25 : decode cX1_giveBack 25 = .ok (.iload_n 3, 1) := by decide +kernel
theorem dX1_giveBack_26 : decode cX1_giveBack 26 = .ok (.dup2, 1) := by decide +kernel
theorem dX1_giveBack_27 : decode cX1_giveBack 27 = .ok (.iaload, 1) := by decide +kernel
theorem dX1_giveBack_28 : decode cX1_giveBack 28 = .ok (.aload_n 0, 1) := by decide +kernel
theorem dX1_giveBack_29 : decode cX1_giveBack 29 = .ok (.getfield 9, 3) := by decide +kernel
theorem dX1_giveBack_32 : decode cX1_giveBack 32 = .ok (.iload_n 3, 1) := by decide +kernel
theorem dX1_giveBack_33 : decode cX1_giveBack 33 = .ok (.iaload, 1) := by decide +kernel
theorem dX1_giveBack_34 : decode cX1_giveBack 34 = .ok (.aload_n 0, 1) := by decide +kernel
theorem dX1_giveBack_35 : decode cX1_giveBack 35 = .ok (.getfield 15, 3) := by decide +kernel
theorem dX1_giveBack_38 : decode cX1_giveBack 38 = .ok (.iload_n 3, 1) := by decide +kernel
theorem dX1_giveBack_39 : decode cX1_giveBack 39 = .ok (.iaload, 1) := by decide +kernel
theorem dX1_giveBack_40 : decode cX1_giveBack 40 = .ok (.iadd, 1) := by decide +kernel
theorem dX1_giveBack_41 : decode cX1_giveBack 41 = .ok (.iadd, 1) := by decide +kernel
theorem dX1_giveBack_42 : decode cX1_giveBack 42 = .ok (.iastore, 1) := by decide +kernel
theorem dX1_giveBack_43 : decode cX1_giveBack 43 = .ok (.iinc 3 1, 3) := by decide +kernel
theorem dX1_giveBack_46 : decode cX1_giveBack 46 = .ok (.goto (-28), 3) := by decide +kernel
theorem dX1_giveBack_49 : decode cX1_giveBack 49 = .ok (.aload_n 0, 1) := by decide +kernel
theorem dX1_giveBack_50 : decode cX1_giveBack 50 = .ok (.getfield 9, 3) := by decide +kernel
theorem dX1_giveBack_53 : decode cX1_giveBack 53 = .ok (.iconst 0, 1) := by decide +kernel
theorem dX1_giveBack_54 : decode cX1_giveBack 54 = .ok (.invokestatic 50, 3) := by decide +kernel
theorem dX1_giveBack_57 : decode cX1_giveBack 57 = .ok (.aload_n 0, 1) := by decide +kernel
theorem dX1_giveBack_58 : decode cX1_giveBack 58 = .ok (.getfield 15, 3) := by decide +kernel
theorem dX1_giveBack_61 : decode cX1_giveBack 61 = .ok (.iconst 0, 1) := by decide +kernel
theorem dX1_giveBack_62 : decode cX1_giveBack 62 = .ok (.invokestatic 50, 3) := by decide +kernel
theorem dX1_giveBack_65 : decode cX1_giveBack 65 = .ok (.aload_n 0, 1) := by decide +kernel
theorem dX1_giveBack_66 : decode cX1_giveBack 66 = .ok (.iconst 0, 1) := by decide +kernel
theorem dX1_giveBack_67 : decode cX1_giveBack 67 = .ok (.putfield 21, 3) := by decide +kernel
theorem dX1_giveBack_70 : decode cX1_giveBack 70 = .ok (.aload_n 0, 1) := by decide +kernel
theorem dX1_giveBack_71 : decode cX1_giveBack 71 = .ok (.iconst 0, 1) := by decide +kernel
theorem dX1_giveBack_72 : decode cX1_giveBack 72 = .ok (.putfield 25, 3) := by decide +kernel
theorem dX1_giveBack_75 : decode cX1_giveBack 75 = .ok (.iload_n 2, 1) := by decide +kernel
theorem dX1_giveBack_76 : decode cX1_giveBack 76 = .ok (.ireturn, 1) := by decide +kernel
theorem dX2_init_0 : decode cX2_init 0 = .ok (.aload_n 0, 1) := by decide +kernel
theorem dX2_init_1 : decode cX2_init 1 = .ok (.invokespecial 3, 3) := by decide +kernel
theorem dX2_init_4 : decode cX2_init 4 = .ok (.aload_n 0, 1) := by decide +kernel
theorem dX2_init_5 : decode cX2_init 5 = .ok (.new 9, 3) := by decide +kernel
theorem dX2_init_8 : decode cX2_init 8 = .ok (.dup, 1) := by decide +kernel
theorem dX2_init_9 : decode cX2_init 9 = .ok (.invokespecial 11, 3) := by decide +kernel
theorem dX2_init_12 : decode cX2_init 12 = .ok (.putfield 12, 3) := by decide +kernel
theorem dX2_init_15 : decode cX2_init 15 = .ok (.aload_n 0, 1) := by decide +kernel
theorem dX2_init_16 : decode cX2_init 16 = .ok (.new 18, 3) := by decide +kernel
theorem dX2_init_19 : decode cX2_init 19 = .ok (.dup, 1) := by decide +kernel
theorem dX2_init_20 : decode cX2_init 20 = .ok (.invokespecial 20, 3) := by decide +kernel
theorem dX2_init_23 : decode cX2_init 23 = .ok (.putfield 21, 3) := by decide +kernel
theorem dX2_init_26 : decode cX2_init 26 = .ok (.aload_n 0, 1) := by decide +kernel
theorem dX2_init_27 : decode cX2_init 27 = .ok (.iconst 0, 1) := by decide +kernel
theorem dX2_init_28 : decode cX2_init 28 = .ok (.putfield 25, 3) := by decide +kernel
theorem dX2_init_31 : decode cX2_init 31 = .ok (.aload_n 0, 1) := by decide +kernel
theorem dX2_init_32 : decode cX2_init 32 = .ok (.iconst 0, 1) := by decide +kernel
theorem dX2_init_33 : decode cX2_init 33 = .ok (.putfield 29, 3) := by decide +kernel
theorem dX2_init_36 : decode cX2_init 36 = .ok (.aload_n 0, 1) := by decide +kernel
theorem dX2_init_37 : decode cX2_init 37 = .ok (.iconst 0, 1) := by decide +kernel
theorem dX2_init_38 : decode cX2_init 38 = .ok (.putfield 32, 3) := by decide +kernel
theorem dX2_init_41 : decode cX2_init 41 = .ok (.aload_n 0, 1) := by decide +kernel
theorem dX2_init_42 : decode cX2_init 42 = .ok (.aload_n 1, 1) := by decide +kernel
theorem dX2_init_43 : decode cX2_init 43 = .ok (.putfield 35, 3) := by decide +kernel
theorem dX2_init_46 : decode cX2_init 46 = .ok (.return_, 1) := by decide +kernel
theorem dX2_howDone_0 : decode cX2_howDone 0 = .ok (.aload_n 1, 1) := by decide +kernel
theorem dX2_howDone_1 : decode cX2_howDone 1 = .ok (.invokevirtual 39, 3) := by decide +kernel
theorem dX2_howDone_4 : decode cX2_howDone 4 = .ok (.ifCond .ne 6, 3) := by decide +kernel
theorem dX2_howDone_7 : decode cX2_howDone 7 = .ok (.bipush (-2), 2) := by decide +kernel
theorem dX2_howDone_9 : decode cX2_howDone 9 = .ok (.ireturn, 1) := by decide +kernel
theorem dX2_howDone_10 : decode cX2_howDone 10 = .ok (.aload_n 0, 1) := by decide +kernel
theorem dX2_howDone_11 : decode cX2_howDone 11 = .ok (.getfield 12, 3) := by decide +kernel
theorem dX2_howDone_14 : decode cX2_howDone 14 = .ok (.aload_n 1, 1) := by decide +kernel
theorem dX2_howDone_15 : decode cX2_howDone 15 = .ok (.invokevirtual 45, 3) := by decide +kernel
theorem dX2_howDone_18 : decode cX2_howDone 18 = .ok (.aload_n 0, 1) := by decide +kernel
theorem dX2_howDone_19 : decode cX2_howDone 19 = .ok (.getfield 12, 3) := by decide +kernel
theorem dX2_howDone_22 : decode cX2_howDone 22 = .ok (.getfield 49, 3) := by decide +kernel
theorem dX2_howDone_25 : decode cX2_howDone 25 = .ok (.ifCond .le 5, 3) := by decide +kernel
theorem dX2_howDone_28 : decode cX2_howDone 28 = .ok (.iconst 1, 1) := by decide +kernel
theorem dX2_howDone_29 : decode cX2_howDone 29 = .ok (.ireturn, 1) := by decide +kernel
theorem dX2_howDone_30 : decode cX2_howDone 30 = .ok (.aload_n 0, 1) := by decide +kernel
theorem dX2_howDone_31 : decode cX2_howDone 31 = .ok (.aload_n 1, 1) := by decide +kernel
theorem dX2_howDone_32 : decode cX2_howDone 32 = .ok (.invokevirtual 52, 3) := by decide +kernel
theorem dX2_howDone_35 : decode cX2_howDone 35 = .ok (.ifCond .eq 5, 3) := by decide +kernel
theorem dX2_howDone_38 : decode cX2_howDone 38 = .ok (.iconst 2, 1) := by decide +kernel
theorem dX2_howDone_39 : decode cX2_howDone 39 = .ok (.ireturn, 1) := by decide +kernel
theorem dX2_howDone_40 : decode cX2_howDone 40 = .ok (.aload_n 0, 1) := by decide +kernel
theorem dX2_howDone_41 : decode cX2_howDone 41 = .ok (.aload_n 1, 1) := by decide +kernel
theorem dX2_howDone_42 : decode cX2_howDone 42 = .ok (.invokevirtual 56, 3) := by decide +kernel
theorem dX2_howDone_45 : decode cX2_howDone 45 = .ok (.ifCond .eq 7, 3) := by decide +kernel
theorem dX2_howDone_48 : decode cX2_howDone 48 = .ok (.iconst 3, 1) := by decide +kernel
theorem dX2_howDone_49 : decode cX2_howDone 49 = .ok (.goto 4, 3) := by decide +kernel
theorem dX2_howDone_52 : decode cX2_howDone 52 = .ok (.iconst 0, 1) := by decide +kernel
theorem dX2_howDone_53 : decode cX2_howDone 53 = .ok (.ireturn, 1) := by decide +kernel
theorem dX2_isSeven_0 : decode cX2_isSeven 0 = .ok (.aload_n 0, 1) := by decide +kernel
theorem dX2_isSeven_1 : decode cX2_isSeven 1 = .ok (.getfield 35, 3) := by decide +kernel
theorem dX2_isSeven_4 : decode cX2_isSeven 4 = .ok (.getfield 86, 3) := by decide +kernel
theorem dX2_isSeven_7 : decode cX2_isSeven 7 = .ok (.ifCond .eq 24, 3) := by decide +kernel
theorem dX2_isSeven_10 : decode cX2_isSeven 10 = .ok (.aload_n 1, 1) := by decide +kernel
theorem dX2_isSeven_11 : decode cX2_isSeven 11 = .ok (.getfield 92, 3) := by decide +kernel
theorem dX2_isSeven_14 : decode cX2_isSeven 14 = .ok (.ifCond .ne 17, 3) := by decide +kernel
theorem dX2_isSeven_17 : decode cX2_isSeven 17 = .ok (.aload_n 1, 1) := by decide +kernel
theorem dX2_isSeven_18 : decode cX2_isSeven 18 = .ok (.getfield 71, 3) := by decide +kernel
theorem dX2_isSeven_21 : decode cX2_isSeven 21 = .ok (.invokestatic 95, 3) := by decide +kernel
theorem dX2_isSeven_24 : decode cX2_isSeven 24 = .ok (.ifCond .ne 7, 3) := by decide +kernel
theorem dX2_isSeven_27 : decode cX2_isSeven 27 = .ok (.iconst 1, 1) := by decide +kernel
theorem dX2_isSeven_28 : decode cX2_isSeven 28 = .ok (.goto 4, 3) := by decide +kernel
theorem dX2_isSeven_31 : decode cX2_isSeven 31 = .ok (.iconst 0, 1) := by decide +kernel
theorem dX2_isSeven_32 : decode cX2_isSeven 32 = .ok (.ireturn, 1) := by decide +kernel
theorem dX2_isOuterOnes_0 : decode cX2_isOuterOnes 0 = .ok (.aload_n 0, 1) := by decide +kernel
theorem dX2_isOuterOnes_1 : decode cX2_isOuterOnes 1 = .ok (.getfield 35, 3) := by decide +kernel
theorem dX2_isOuterOnes_4 : decode cX2_isOuterOnes 4 = .ok (.getfield 98, 3) := by decide +kernel
theorem dX2_isOuterOnes_7 : decode cX2_isOuterOnes 7 = .ok (.ifCond .eq 24, 3) := by decide +kernel
theorem dX2_isOuterOnes_10 : decode cX2_isOuterOnes 10 = .ok (.aload_n 1, 1) := by decide +kernel
theorem dX2_isOuterOnes_11 : decode cX2_isOuterOnes 11 = .ok (.getfield 92, 3) := by decide +kernel
theorem dX2_isOuterOnes_14 : decode cX2_isOuterOnes 14 = .ok (.ifCond .ne 17, 3) := by decide +kernel
theorem dX2_isOuterOnes_17 : decode cX2_isOuterOnes 17 = .ok (.aload_n 1, 1) := by decide +kernel
theorem dX2_isOuterOnes_18 : decode cX2_isOuterOnes 18 = .ok (.getfield 71, 3) := by decide +kernel
theorem dX2_isOuterOnes_21 : decode cX2_isOuterOnes 21 = .ok (.invokestatic 101, 3) := by decide +kernel
theorem dX2_isOuterOnes_24 : decode cX2_isOuterOnes 24 = .ok (.ifCond .ne 7, 3) := by decide +kernel
theorem dX2_isOuterOnes_27 : decode cX2_isOuterOnes 27 = .ok (.iconst 1, 1) := by decide +kernel
theorem dX2_isOuterOnes_28 : decode cX2_isOuterOnes 28 = .ok (.goto 4, 3) := by decide +kernel
theorem dX2_isOuterOnes_31 : decode cX2_isOuterOnes 31 = .ok (.iconst 0, 1) := by decide +kernel
theorem dX2_isOuterOnes_32 : decode cX2_isOuterOnes 32 = .ok (.ireturn, 1) := by decide +kernel
theorem dX3_init_0 : decode cX3_init 0 = .ok (.aload_n 0, 1) := by decide +kernel
theorem dX3_init_1 : decode cX3_init 1 = .ok (.invokespecial 5, 3) := by decide +kernel
theorem dX3_init_4 : decode cX3_init 4 = .ok (.aload_n 0, 1) := by decide +kernel
theorem dX3_init_5 : decode cX3_init 5 = .ok (.bipush 34, 2) := by decide +kernel
theorem dX3_init_7 : decode cX3_init 7 = .ok (.newarray .int, 2) := by decide +kernel
theorem dX3_init_9 : decode cX3_init 9 = .ok (.putfield 13, 3) := by decide +kernel
theorem dX3_init_12 : decode cX3_init 12 = .ok (.aload_n 0, 1) := by decide +kernel
theorem dX3_init_13 : decode cX3_init 13 = .ok (.bipush 34, 2) := by decide +kernel
theorem dX3_init_15 : decode cX3_init 15 = .ok (.newarray .int, 2) := by decide +kernel
theorem dX3_init_17 : decode cX3_init 17 = .ok (.putfield 17, 3) := by decide +kernel
theorem dX3_init_20 : decode cX3_init 20 = .ok (.aload_n 0, 1) := by decide +kernel
theorem dX3_init_21 : decode cX3_init 21 = .ok (.bipush 40, 2) := by decide +kernel
theorem dX3_init_23 : decode cX3_init 23 = .ok (.newarray .long, 2) := by decide +kernel
theorem dX3_init_25 : decode cX3_init 25 = .ok (.putfield 20, 3) := by decide +kernel
theorem dX3_init_28 : decode cX3_init 28 = .ok (.aload_n 0, 1) := by decide +kernel
theorem dX3_init_29 : decode cX3_init 29 = .ok (.bipush 90, 2) := by decide +kernel
theorem dX3_init_31 : decode cX3_init 31 = .ok (.newarray .long, 2) := by decide +kernel
theorem dX3_init_33 : decode cX3_init 33 = .ok (.putfield 24, 3) := by decide +kernel
theorem dX3_init_36 : decode cX3_init 36 = .ok (.aload_n 0, 1) := by decide +kernel
theorem dX3_init_37 : decode cX3_init 37 = .ok (.bipush 90, 2) := by decide +kernel
theorem dX3_init_39 : decode cX3_init 39 = .ok (.newarray .long, 2) := by decide +kernel
theorem dX3_init_41 : decode cX3_init 41 = .ok (.putfield 27, 3) := by decide +kernel
theorem dX3_init_44 : decode cX3_init 44 = .ok (.aload_n 0, 1) := by decide +kernel
theorem dX3_init_45 : decode cX3_init 45 = .ok (.bipush 10, 2) := by decide +kernel
theorem dX3_init_47 : decode cX3_init 47 = .ok (.newarray .long, 2) := by decide +kernel
theorem dX3_init_49 : decode cX3_init 49 = .ok (.putfield 30, 3) := by decide +kernel
theorem dX3_init_52 : decode cX3_init 52 = .ok (.aload_n 0, 1) := by decide +kernel
theorem dX3_init_53 : decode cX3_init 53 = .ok (.sipush 512, 3) := by decide +kernel
theorem dX3_init_56 : decode cX3_init 56 = .ok (.newarray .long, 2) := by decide +kernel
theorem dX3_init_58 : decode cX3_init 58 = .ok (.putfield 33, 3) := by decide +kernel
theorem dX3_init_61 : decode cX3_init 61 = .ok (.aload_n 0, 1) := by decide +kernel
theorem dX3_init_62 : decode cX3_init 62 = .ok (.sipush 5120, 3) := by decide +kernel
theorem dX3_init_65 : decode cX3_init 65 = .ok (.newarray .long, 2) := by decide +kernel
theorem dX3_init_67 : decode cX3_init 67 = .ok (.putfield 36, 3) := by decide +kernel
theorem dX3_init_70 : decode cX3_init 70 = .ok (.aload_n 0, 1) := by decide +kernel
theorem dX3_init_71 : decode cX3_init 71 = .ok (.bipush 14, 2) := by decide +kernel
theorem dX3_init_73 : decode cX3_init 73 = .ok (.putfield 39, 3) := by decide +kernel
theorem dX3_init_76 : decode cX3_init 76 = .ok (.aload_n 0, 1) := by decide +kernel
theorem dX3_init_77 : decode cX3_init 77 = .ok (.iconst 0, 1) := by decide +kernel
theorem dX3_init_78 : decode cX3_init 78 = .ok (.putfield 43, 3) := by decide +kernel
theorem dX3_init_81 : decode cX3_init 81 = .ok (.aload_n 0, 1) := by decide +kernel
theorem dX3_init_82 : decode cX3_init 82 = .ok (.iconst 3, 1) := by decide +kernel
theorem dX3_init_83 : decode cX3_init 83 = .ok (.putfield 46, 3) := by decide +kernel
theorem dX3_init_86 : decode cX3_init 86 = .ok (.aload_n 0, 1) := by decide +kernel
theorem dX3_init_87 : decode cX3_init 87 = .ok (.iconst 0, 1) := by decide +kernel
theorem dX3_init_88 : decode cX3_init 88 = .ok (.putfield 49, 3) := by decide +kernel
theorem dX3_init_91 : decode cX3_init 91 = .ok (.aload_n 0, 1) := by decide +kernel
theorem dX3_init_92 : decode cX3_init 92 = .ok (.lconst 0, 1) := by decide +kernel
theorem dX3_init_93 : decode cX3_init 93 = .ok (.putfield 52, 3) := by decide +kernel
theorem dX3_init_96 : decode cX3_init 96 = .ok (.aload_n 0, 1) := by decide +kernel
theorem dX3_init_97 : decode cX3_init 97 = .ok (.aload_n 1, 1) := by decide +kernel
theorem dX3_init_98 : decode cX3_init 98 = .ok (.putfield 56, 3) := by decide +kernel
theorem dX3_init_101 : decode cX3_init 101 = .ok (.aload_n 0, 1) := by decide +kernel
theorem dX3_init_102 : decode cX3_init 102 = .ok (.getfield 33, 3) := by decide +kernel
theorem dX3_init_105 : decode cX3_init 105 = .ok (.ldc2_w 60, 3) := by decide +kernel
theorem dX3_init_108 : decode cX3_init 108 = .ok (.invokestatic 62, 3) := by decide +kernel
theorem dX3_init_111 : decode cX3_init 111 = .ok (.return_, 1) := by decide +kernel
theorem dX3_reckon_0 : decode cX3_reckon 0 = .ok (.aload_n 0, 1) := by decide +kernel
theorem dX3_reckon_1 : decode cX3_reckon 1 = .ok (.aload_n 1, 1) := by decide +kernel
theorem dX3_reckon_2 : decode cX3_reckon 2 = .ok (.iload_n 2, 1) := by decide +kernel
theorem dX3_reckon_3 : decode cX3_reckon 3 = .ok (.invokevirtual 68, 3) := by decide +kernel
theorem dX3_reckon_6 : decode cX3_reckon 6 = .ok (.iconst 0, 1) := by decide +kernel
theorem dX3_reckon_7 : decode cX3_reckon 7 = .ok (.istore_n 3, 1) := by decide +kernel
theorem dX3_reckon_8 : decode cX3_reckon 8 = .ok (.iload_n 3, 1) := by decide +kernel
theorem dX3_reckon_9 : decode cX3_reckon 9 = .ok (.iconst 4, 1) := by decide +kernel
theorem dX3_reckon_10 : decode cX3_reckon 10 = .ok (.if_icmp .ge 14, 3) := by decide +kernel
theorem dX3_reckon_13 : decode cX3_reckon 13 = .ok (.aload_n 0, 1) := by decide +kernel
theorem dX3_reckon_14 : decode cX3_reckon 14 = .ok (.iload_n 3, 1) := by decide +kernel
theorem dX3_reckon_15 : decode cX3_reckon 15 = .ok (.invokevirtual 72, 3) := by decide +kernel
theorem dX3_reckon_18 : decode cX3_reckon 18 = .ok (.iinc 3 1, 3) := by decide +kernel
theorem dX3_reckon_21 : decode cX3_reckon 21 = .ok (.goto (-13), 3) := by decide +kernel
theorem dX3_reckon_24 : decode cX3_reckon 24 = .ok (.aload_n 0, 1) := by decide +kernel
theorem dX3_reckon_25 : decode cX3_reckon 25 = .ok (.iconst 3, 1) := by decide +kernel
theorem dX3_reckon_26 : decode cX3_reckon 26 = .ok (.invokevirtual 76, 3) := by decide +kernel
theorem dX3_reckon_29 : decode cX3_reckon 29 = .ok (.aload_n 0, 1) := by decide +kernel
theorem dX3_reckon_30 : decode cX3_reckon 30 = .ok (.invokevirtual 79, 3) := by decide +kernel
theorem dX3_reckon_33 : decode cX3_reckon 33 = .ok (.return_, 1) := by decide +kernel
theorem dX3_change_0 : decode cX3_change 0 = .ok (.iload_n 1, 1) := by decide +kernel
theorem dX3_change_1 : decode cX3_change 1 = .ok (.invokestatic 82, 3) := by decide +kernel
theorem dX3_change_4 : decode cX3_change 4 = .ok (.istore_n 3, 1) := by decide +kernel
theorem dX3_change_5 : decode cX3_change 5 = .ok (.aload_n 0, 1) := by decide +kernel
theorem dX3_change_6 : decode cX3_change 6 = .ok (.getfield 13, 3) := by decide +kernel
theorem dX3_change_9 : decode cX3_change 9 = .ok (.iload_n 1, 1) := by decide +kernel
theorem dX3_change_10 : decode cX3_change 10 = .ok (.dup2, 1) := by decide +kernel
theorem dX3_change_11 : decode cX3_change 11 = .ok (.iaload, 1) := by decide +kernel
theorem dX3_change_12 : decode cX3_change 12 = .ok (.iload_n 2, 1) := by decide +kernel
theorem dX3_change_13 : decode cX3_change 13 = .ok (.iadd, 1) := by decide +kernel
theorem dX3_change_14 : decode cX3_change 14 = .ok (.iastore, 1) := by decide +kernel
theorem dX3_change_15 : decode cX3_change 15 = .ok (.aload_n 0, 1) := by decide +kernel
theorem dX3_change_16 : decode cX3_change 16 = .ok (.iload_n 3, 1) := by decide +kernel
theorem dX3_change_17 : decode cX3_change 17 = .ok (.invokevirtual 72, 3) := by decide +kernel
theorem dX3_change_20 : decode cX3_change 20 = .ok (.iload_n 3, 1) := by decide +kernel
theorem dX3_change_21 : decode cX3_change 21 = .ok (.aload_n 0, 1) := by decide +kernel
theorem dX3_change_22 : decode cX3_change 22 = .ok (.getfield 46, 3) := by decide +kernel
theorem dX3_change_25 : decode cX3_change 25 = .ok (.if_icmp .eq 8, 3) := by decide +kernel
theorem dX3_change_28 : decode cX3_change 28 = .ok (.aload_n 0, 1) := by decide +kernel
theorem dX3_change_29 : decode cX3_change 29 = .ok (.iload_n 3, 1) := by decide +kernel
theorem dX3_change_30 : decode cX3_change 30 = .ok (.invokevirtual 76, 3) := by decide +kernel
theorem dX3_change_33 : decode cX3_change 33 = .ok (.return_, 1) := by decide +kernel
theorem dX3_look_0 : decode cX3_look 0 = .ok (.aload_n 1, 1) := by decide +kernel
theorem dX3_look_1 : decode cX3_look 1 = .ok (.getfield 92, 3) := by decide +kernel
theorem dX3_look_4 : decode cX3_look 4 = .ok (.iconst 0, 1) := by decide +kernel
theorem dX3_look_5 : decode cX3_look 5 = .ok (.aload_n 0, 1) := by decide +kernel
theorem dX3_look_6 : decode cX3_look 6 = .ok (.getfield 13, 3) := by decide +kernel
theorem dX3_look_9 : decode cX3_look 9 = .ok (.iconst 0, 1) := by decide +kernel
theorem dX3_look_10 : decode cX3_look 10 = .ok (.bipush 34, 2) := by decide +kernel
theorem dX3_look_12 : decode cX3_look 12 = .ok (.invokestatic 95, 3) := by decide +kernel
theorem dX3_look_15 : decode cX3_look 15 = .ok (.aload_n 1, 1) := by decide +kernel
theorem dX3_look_16 : decode cX3_look 16 = .ok (.getfield 101, 3) := by decide +kernel
theorem dX3_look_19 : decode cX3_look 19 = .ok (.iconst 0, 1) := by decide +kernel
theorem dX3_look_20 : decode cX3_look 20 = .ok (.aload_n 0, 1) := by decide +kernel
theorem dX3_look_21 : decode cX3_look 21 = .ok (.getfield 17, 3) := by decide +kernel
theorem dX3_look_24 : decode cX3_look 24 = .ok (.iconst 0, 1) := by decide +kernel
theorem dX3_look_25 : decode cX3_look 25 = .ok (.bipush 34, 2) := by decide +kernel
theorem dX3_look_27 : decode cX3_look 27 = .ok (.invokestatic 95, 3) := by decide +kernel
theorem dX3_look_30 : decode cX3_look 30 = .ok (.aload_n 0, 1) := by decide +kernel
theorem dX3_look_31 : decode cX3_look 31 = .ok (.iconst 4, 1) := by decide +kernel
theorem dX3_look_32 : decode cX3_look 32 = .ok (.aload_n 1, 1) := by decide +kernel
theorem dX3_look_33 : decode cX3_look 33 = .ok (.getfield 102, 3) := by decide +kernel
theorem dX3_look_36 : decode cX3_look 36 = .ok (.isub, 1) := by decide +kernel
theorem dX3_look_37 : decode cX3_look 37 = .ok (.putfield 43, 3) := by decide +kernel
theorem dX3_look_40 : decode cX3_look 40 = .ok (.aload_n 0, 1) := by decide +kernel
theorem dX3_look_41 : decode cX3_look 41 = .ok (.iload_n 2, 1) := by decide +kernel
theorem dX3_look_42 : decode cX3_look 42 = .ok (.putfield 39, 3) := by decide +kernel
theorem dX3_look_45 : decode cX3_look 45 = .ok (.return_, 1) := by decide +kernel
theorem dX3_total_0 : decode cX3_total 0 = .ok (.aload_n 0, 1) := by decide +kernel
theorem dX3_total_1 : decode cX3_total 1 = .ok (.aload_n 0, 1) := by decide +kernel
theorem dX3_total_2 : decode cX3_total 2 = .ok (.getfield 46, 3) := by decide +kernel
theorem dX3_total_5 : decode cX3_total 5 = .ok (.iconst 2, 1) := by decide +kernel
theorem dX3_total_6 : decode cX3_total 6 = .ok (.aload_n 0, 1) := by decide +kernel
theorem dX3_total_7 : decode cX3_total 7 = .ok (.getfield 43, 3) := by decide +kernel
theorem dX3_total_10 : decode cX3_total 10 = .ok (.imul, 1) := by decide +kernel
theorem dX3_total_11 : decode cX3_total 11 = .ok (.iconst 1, 1) := by decide +kernel
theorem dX3_total_12 : decode cX3_total 12 = .ok (.iadd, 1) := by decide +kernel
theorem dX3_total_13 : decode cX3_total 13 = .ok (.invokevirtual 105, 3) := by decide +kernel
theorem dX3_total_16 : decode cX3_total 16 = .ok (.lstore_n 1, 1) := by decide +kernel
theorem dX3_total_17 : decode cX3_total 17 = .ok (.aload_n 0, 1) := by decide +kernel
theorem dX3_total_18 : decode cX3_total 18 = .ok (.bipush 99, 2) := by decide +kernel
theorem dX3_total_20 : decode cX3_total 20 = .ok (.putfield 49, 3) := by decide +kernel
theorem dX3_total_23 : decode cX3_total 23 = .ok (.aload_n 0, 1) := by decide +kernel
theorem dX3_total_24 : decode cX3_total 24 = .ok (.lconst 0, 1) := by decide +kernel
theorem dX3_total_25 : decode cX3_total 25 = .ok (.putfield 52, 3) := by decide +kernel
theorem dX3_total_28 : decode cX3_total 28 = .ok (.lload_n 1, 1) := by decide +kernel
theorem dX3_total_29 : decode cX3_total 29 = .ok (.ldc2_w 86, 3) := by decide +kernel
theorem dX3_total_32 : decode cX3_total 32 = .ok (.lcmp, 1) := by decide +kernel
theorem dX3_total_33 : decode cX3_total 33 = .ok (.ifCond .eq 16, 3) := by decide +kernel
theorem dX3_total_36 : decode cX3_total 36 = .ok (.aload_n 0, 1) := by decide +kernel
theorem dX3_total_37 : decode cX3_total 37 = .ok (.lload_n 1, 1) := by decide +kernel
theorem dX3_total_38 : decode cX3_total 38 = .ok (.invokestatic 88, 3) := by decide +kernel
theorem dX3_total_41 : decode cX3_total 41 = .ok (.lload_n 1, 1) := by decide +kernel
theorem dX3_total_42 : decode cX3_total 42 = .ok (.ldc2_w 109, 3) := by decide +kernel
theorem dX3_total_45 : decode cX3_total 45 = .ok (.land, 1) := by decide +kernel
theorem dX3_total_46 : decode cX3_total 46 = .ok (.invokevirtual 111, 3) := by decide +kernel
theorem dX3_total_49 : decode cX3_total 49 = .ok (.aload_n 0, 1) := by decide +kernel
theorem dX3_total_50 : decode cX3_total 50 = .ok (.getfield 43, 3) := by decide +kernel
theorem dX3_total_53 : decode cX3_total 53 = .ok (.iconst 4, 1) := by decide +kernel
theorem dX3_total_54 : decode cX3_total 54 = .ok (.if_icmp .ne 7, 3) := by decide +kernel
theorem dX3_total_57 : decode cX3_total 57 = .ok (.iconst 1, 1) := by decide +kernel
theorem dX3_total_58 : decode cX3_total 58 = .ok (.goto 4, 3) := by decide +kernel
theorem dX3_total_61 : decode cX3_total 61 = .ok (.iconst 0, 1) := by decide +kernel
theorem dX3_total_62 : decode cX3_total 62 = .ok (.istore_n 3, 1) := by decide +kernel
theorem dX3_total_63 : decode cX3_total 63 = .ok (.iload_n 3, 1) := by decide +kernel
theorem dX3_total_64 : decode cX3_total 64 = .ok (.ifCond .eq 31, 3) := by decide +kernel
theorem dX3_total_67 : decode cX3_total 67 = .ok (.aload_n 0, 1) := by decide +kernel
theorem dX3_total_68 : decode cX3_total 68 = .ok (.getfield 56, 3) := by decide +kernel
theorem dX3_total_71 : decode cX3_total 71 = .ok (.getfield 115, 3) := by decide +kernel
theorem dX3_total_74 : decode cX3_total 74 = .ok (.ifCond .eq 21, 3) := by decide +kernel
theorem dX3_total_77 : decode cX3_total 77 = .ok (.aload_n 0, 1) := by decide +kernel
theorem dX3_total_78 : decode cX3_total 78 = .ok (.aload_n 0, 1) := by decide +kernel
theorem dX3_total_79 : decode cX3_total 79 = .ok (.getfield 13, 3) := by decide +kernel
theorem dX3_total_82 : decode cX3_total 82 = .ok (.invokestatic 121, 3) := by decide +kernel
theorem dX3_total_85 : decode cX3_total 85 = .ok (.aload_n 0, 1) := by decide +kernel
theorem dX3_total_86 : decode cX3_total 86 = .ok (.getfield 13, 3) := by decide +kernel
theorem dX3_total_89 : decode cX3_total 89 = .ok (.invokestatic 125, 3) := by decide +kernel
theorem dX3_total_92 : decode cX3_total 92 = .ok (.invokevirtual 111, 3) := by decide +kernel
theorem dX3_total_95 : decode cX3_total 95 = .ok (.iload_n 3, 1) := by decide +kernel
theorem dX3_total_96 : decode cX3_total 96 = .ok (.ifCond .eq 31, 3) := by decide +kernel
theorem dX3_total_99 : decode cX3_total 99 = .ok (.aload_n 0, 1) := by decide +kernel
theorem dX3_total_100 : decode cX3_total 100 = .ok (.getfield 56, 3) := by decide +kernel
theorem dX3_total_103 : decode cX3_total 103 = .ok (.getfield 129, 3) := by decide +kernel
theorem dX3_total_106 : decode cX3_total 106 = .ok (.ifCond .eq 21, 3) := by decide +kernel
theorem dX3_total_109 : decode cX3_total 109 = .ok (.aload_n 0, 1) := by decide +kernel
theorem dX3_total_110 : decode cX3_total 110 = .ok (.aload_n 0, 1) := by decide +kernel
theorem dX3_total_111 : decode cX3_total 111 = .ok (.getfield 13, 3) := by decide +kernel
theorem dX3_total_114 : decode cX3_total 114 = .ok (.invokestatic 132, 3) := by decide +kernel
theorem dX3_total_117 : decode cX3_total 117 = .ok (.aload_n 0, 1) := by decide +kernel
theorem dX3_total_118 : decode cX3_total 118 = .ok (.getfield 13, 3) := by decide +kernel
theorem dX3_total_121 : decode cX3_total 121 = .ok (.invokestatic 135, 3) := by decide +kernel
theorem dX3_total_124 : decode cX3_total 124 = .ok (.invokevirtual 111, 3) := by decide +kernel
theorem dX3_total_127 : decode cX3_total 127 = .ok (.return_, 1) := by decide +kernel
theorem dX3_helper_0 : decode cX3_helper 0 = .ok (.iload_n 1, 1) := by decide +kernel
theorem dX3_helper_1 : decode cX3_helper 1 = .ok (.istore_n 2, 1) := by decide +kernel
theorem dX3_helper_2 : decode cX3_helper 2 = .ok (.iconst 0, 1) := by decide +kernel
theorem dX3_helper_3 : decode cX3_helper 3 = .ok (.istore_n 3, 1) := by decide +kernel
theorem dX3_helper_4 : decode cX3_helper 4 = .ok (.iload_n 3, 1) := by decide +kernel
theorem dX3_helper_5 : decode cX3_helper 5 = .ok (.bipush 34, 2) := by decide +kernel
theorem dX3_helper_7 : decode cX3_helper 7 = .ok (.if_icmp .ge 26, 3) := by decide +kernel
theorem dX3_helper_10 : decode cX3_helper 10 = .ok (.aload_n 0, 1) := by decide +kernel
theorem dX3_helper_11 : decode cX3_helper 11 = .ok (.iload_n 3, 1) := by decide +kernel
theorem dX3_helper_12 : decode cX3_helper 12 = .ok (.invokevirtual 138, 3) := by decide +kernel
theorem dX3_helper_15 : decode cX3_helper 15 = .ok (.ifCond .eq 12, 3) := by decide +kernel
theorem dX3_helper_18 : decode cX3_helper 18 = .ok (.iload_n 2, 1) := by decide +kernel
theorem dX3_helper_19 : decode cX3_helper 19 = .ok (.ifCond .ne 5, 3) := by decide +kernel
theorem dX3_helper_22 : decode cX3_helper 22 = .ok (.iload_n 3, 1) := by decide +kernel
theorem dX3_helper_23 : decode cX3_helper 23 = .ok (.ireturn, 1) := by decide +kernel
theorem dX3_helper_24 : decode cX3_helper 24 = .ok (.iinc 2 (-1), 3) := by decide +kernel
theorem dX3_helper_27 : decode cX3_helper 27 = .ok (.iinc 3 1, 3) := by decide +kernel
theorem dX3_helper_30 : decode cX3_helper 30 = .ok (.goto (-26), 3) := by decide +kernel
theorem dX3_helper_33 : decode cX3_helper 33 = .ok (.bipush (-3), 2) := by decide +kernel
theorem dX3_helper_35 : decode cX3_helper 35 = .ok (.ireturn, 1) := by decide +kernel
theorem dX3_helpingOf_0 : decode cX3_helpingOf 0 = .ok (.iconst 0, 1) := by decide +kernel
theorem dX3_helpingOf_1 : decode cX3_helpingOf 1 = .ok (.istore_n 2, 1) := by decide +kernel
theorem dX3_helpingOf_2 : decode cX3_helpingOf 2 = .ok (.iconst 0, 1) := by decide +kernel
theorem dX3_helpingOf_3 : decode cX3_helpingOf 3 = .ok (.istore_n 3, 1) := by decide +kernel
theorem dX3_helpingOf_4 : decode cX3_helpingOf 4 = .ok (.iload_n 3, 1) := by decide +kernel
theorem dX3_helpingOf_5 : decode cX3_helpingOf 5 = .ok (.bipush 34, 2) := by decide +kernel
theorem dX3_helpingOf_7 : decode cX3_helpingOf 7 = .ok (.if_icmp .ge 23, 3) := by decide +kernel
theorem dX3_helpingOf_10 : decode cX3_helpingOf 10 = .ok (.aload_n 0, 1) := by decide +kernel
theorem dX3_helpingOf_11 : decode cX3_helpingOf 11 = .ok (.iload_n 3, 1) := by decide +kernel
theorem dX3_helpingOf_12 : decode cX3_helpingOf 12 = .ok (.invokevirtual 138, 3) := by decide +kernel
theorem dX3_helpingOf_15 : decode cX3_helpingOf 15 = .ok (.ifCond .eq 9, 3) := by decide +kernel
theorem dX3_helpingOf_18 : decode cX3_helpingOf 18 = .ok (.iload_n 2, 1) := by decide +kernel
theorem dX3_helpingOf_19 : decode cX3_helpingOf 19 = .ok (.aload_n 1, 1) := by decide +kernel
theorem dX3_helpingOf_20 : decode cX3_helpingOf 20 = .ok (.iload_n 3, 1) := by decide +kernel
theorem dX3_helpingOf_21 : decode cX3_helpingOf 21 = .ok (.iaload, 1) := by decide +kernel
theorem dX3_helpingOf_22 : decode cX3_helpingOf 22 = .ok (.iadd, 1) := by decide +kernel
theorem dX3_helpingOf_23 : decode cX3_helpingOf 23 = .ok (.istore_n 2, 1) := by decide +kernel
theorem dX3_helpingOf_24 : decode cX3_helpingOf 24 = .ok (.iinc 3 1, 3) := by decide +kernel
theorem dX3_helpingOf_27 : decode cX3_helpingOf 27 = .ok (.goto (-23), 3) := by decide +kernel
theorem dX3_helpingOf_30 : decode cX3_helpingOf 30 = .ok (.iload_n 2, 1) := by decide +kernel
theorem dX3_helpingOf_31 : decode cX3_helpingOf 31 = .ok (.ireturn, 1) := by decide +kernel
theorem dX3_isHelper_0 : decode cX3_isHelper 0 = .ok (.aload_n 0, 1) := by decide +kernel
theorem dX3_isHelper_1 : decode cX3_isHelper 1 = .ok (.getfield 52, 3) := by decide +kernel
theorem dX3_isHelper_4 : decode cX3_isHelper 4 = .ok (.iload_n 1, 1) := by decide +kernel
theorem dX3_isHelper_5 : decode cX3_isHelper 5 = .ok (.lshr, 1) := by decide +kernel
theorem dX3_isHelper_6 : decode cX3_isHelper 6 = .ok (.lconst 1, 1) := by decide +kernel
theorem dX3_isHelper_7 : decode cX3_isHelper 7 = .ok (.land, 1) := by decide +kernel
theorem dX3_isHelper_8 : decode cX3_isHelper 8 = .ok (.lconst 1, 1) := by decide +kernel
theorem dX3_isHelper_9 : decode cX3_isHelper 9 = .ok (.lcmp, 1) := by decide +kernel
theorem dX3_isHelper_10 : decode cX3_isHelper 10 = .ok (.ifCond .ne 7, 3) := by decide +kernel
theorem dX3_isHelper_13 : decode cX3_isHelper 13 = .ok (.iconst 1, 1) := by decide +kernel
theorem dX3_isHelper_14 : decode cX3_isHelper 14 = .ok (.goto 4, 3) := by decide +kernel
theorem dX3_isHelper_17 : decode cX3_isHelper 17 = .ok (.iconst 0, 1) := by decide +kernel
theorem dX3_isHelper_18 : decode cX3_isHelper 18 = .ok (.ireturn, 1) := by decide +kernel
theorem dX3_offer_0 : decode cX3_offer 0 = .ok (.iload_n 1, 1) := by decide +kernel
theorem dX3_offer_1 : decode cX3_offer 1 = .ok (.aload_n 0, 1) := by decide +kernel
theorem dX3_offer_2 : decode cX3_offer 2 = .ok (.getfield 49, 3) := by decide +kernel
theorem dX3_offer_5 : decode cX3_offer 5 = .ok (.if_icmp .ge 16, 3) := by decide +kernel
theorem dX3_offer_8 : decode cX3_offer 8 = .ok (.aload_n 0, 1) := by decide +kernel
theorem dX3_offer_9 : decode cX3_offer 9 = .ok (.iload_n 1, 1) := by decide +kernel
theorem dX3_offer_10 : decode cX3_offer 10 = .ok (.putfield 49, 3) := by decide +kernel
theorem dX3_offer_13 : decode cX3_offer 13 = .ok (.aload_n 0, 1) := by decide +kernel
theorem dX3_offer_14 : decode cX3_offer 14 = .ok (.lload_n 2, 1) := by decide +kernel
theorem dX3_offer_15 : decode cX3_offer 15 = .ok (.putfield 52, 3) := by decide +kernel
theorem dX3_offer_18 : decode cX3_offer 18 = .ok (.goto 21, 3) := by decide +kernel
theorem dX3_offer_21 : decode cX3_offer 21 = .ok (.iload_n 1, 1) := by decide +kernel
theorem dX3_offer_22 : decode cX3_offer 22 = .ok (.aload_n 0, 1) := by decide +kernel
theorem dX3_offer_23 : decode cX3_offer 23 = .ok (.getfield 49, 3) := by decide +kernel
theorem dX3_offer_26 : decode cX3_offer 26 = .ok (.if_icmp .ne 13, 3) := by decide +kernel
theorem dX3_offer_29 : decode cX3_offer 29 = .ok (.aload_n 0, 1) := by decide +kernel
theorem dX3_offer_30 : decode cX3_offer 30 = .ok (.dup, 1) := by decide +kernel
theorem dX3_offer_31 : decode cX3_offer 31 = .ok (.getfield 52, 3) := by decide +kernel
theorem dX3_offer_34 : decode cX3_offer 34 = .ok (.lload_n 2, 1) := by decide +kernel
theorem dX3_offer_35 : decode cX3_offer 35 = .ok (.lor, 1) := by decide +kernel
theorem dX3_offer_36 : decode cX3_offer 36 = .ok (.putfield 52, 3) := by decide +kernel
theorem dX3_offer_39 : decode cX3_offer 39 = .ok (.return_, 1) := by decide +kernel
theorem dX3_tilesOf_0 : decode cX3_tilesOf 0 = .ok (.lload_n 0, 1) := by decide +kernel
theorem dX3_tilesOf_1 : decode cX3_tilesOf 1 = .ok (.bipush 34, 2) := by decide +kernel
theorem dX3_tilesOf_3 : decode cX3_tilesOf 3 = .ok (.lshr, 1) := by decide +kernel
theorem dX3_tilesOf_4 : decode cX3_tilesOf 4 = .ok (.l2i, 1) := by decide +kernel
theorem dX3_tilesOf_5 : decode cX3_tilesOf 5 = .ok (.ireturn, 1) := by decide +kernel
theorem dX3_less_0 : decode cX3_less 0 = .ok (.lload_n 3, 1) := by decide +kernel
theorem dX3_less_1 : decode cX3_less 1 = .ok (.bipush 34, 2) := by decide +kernel
theorem dX3_less_3 : decode cX3_less 3 = .ok (.lshr, 1) := by decide +kernel
theorem dX3_less_4 : decode cX3_less 4 = .ok (.lload_n 1, 1) := by decide +kernel
theorem dX3_less_5 : decode cX3_less 5 = .ok (.bipush 34, 2) := by decide +kernel
theorem dX3_less_7 : decode cX3_less 7 = .ok (.lshr, 1) := by decide +kernel
theorem dX3_less_8 : decode cX3_less 8 = .ok (.lsub, 1) := by decide +kernel
theorem dX3_less_9 : decode cX3_less 9 = .ok (.lstore 5, 2) := by decide +kernel
theorem dX3_less_11 : decode cX3_less 11 = .ok (.lload 5, 2) := by decide +kernel
theorem dX3_less_13 : decode cX3_less 13 = .ok (.lconst 0, 1) := by decide +kernel
theorem dX3_less_14 : decode cX3_less 14 = .ok (.lcmp, 1) := by decide +kernel
theorem dX3_less_15 : decode cX3_less 15 = .ok (.ifCond .gt 16, 3) := by decide +kernel
theorem dX3_less_18 : decode cX3_less 18 = .ok (.lload_n 3, 1) := by decide +kernel
theorem dX3_less_19 : decode cX3_less 19 = .ok (.bipush 34, 2) := by decide +kernel
theorem dX3_less_21 : decode cX3_less 21 = .ok (.lshr, 1) := by decide +kernel
theorem dX3_less_22 : decode cX3_less 22 = .ok (.aload_n 0, 1) := by decide +kernel
theorem dX3_less_23 : decode cX3_less 23 = .ok (.getfield 39, 3) := by decide +kernel
theorem dX3_less_26 : decode cX3_less 26 = .ok (.i2l, 1) := by decide +kernel
theorem dX3_less_27 : decode cX3_less 27 = .ok (.lcmp, 1) := by decide +kernel
theorem dX3_less_28 : decode cX3_less 28 = .ok (.ifCond .le 5, 3) := by decide +kernel
theorem dX3_less_31 : decode cX3_less 31 = .ok (.lload_n 1, 1) := by decide +kernel
theorem dX3_less_32 : decode cX3_less 32 = .ok (.lreturn, 1) := by decide +kernel
theorem dX3_less_33 : decode cX3_less 33 = .ok (.lload 5, 2) := by decide +kernel
theorem dX3_less_35 : decode cX3_less 35 = .ok (.lconst 0, 1) := by decide +kernel
theorem dX3_less_36 : decode cX3_less 36 = .ok (.lcmp, 1) := by decide +kernel
theorem dX3_less_37 : decode cX3_less 37 = .ok (.ifCond .ge 7, 3) := by decide +kernel
theorem dX3_less_40 : decode cX3_less 40 = .ok (.lload_n 3, 1) := by decide +kernel
theorem dX3_less_41 : decode cX3_less 41 = .ok (.goto 6, 3) := by decide +kernel
theorem dX3_less_44 : decode cX3_less 44 = .ok (.lload_n 1, 1) := by decide +kernel
theorem dX3_less_45 : decode cX3_less 45 = .ok (.lload_n 3, 1) := by decide +kernel
theorem dX3_less_46 : decode cX3_less 46 = .ok (.lor, 1) := by decide +kernel
theorem dX3_less_47 : decode cX3_less 47 = .ok (.lreturn, 1) := by decide +kernel
theorem dX3_addAllBut_0 : decode cX3_addAllBut 0 = .ok (.aload_n 0, 1) := by decide +kernel
theorem dX3_addAllBut_1 : decode cX3_addAllBut 1 = .ok (.iload_n 1, 1) := by decide +kernel
theorem dX3_addAllBut_2 : decode cX3_addAllBut 2 = .ok (.putfield 46, 3) := by decide +kernel
theorem dX3_addAllBut_5 : decode cX3_addAllBut 5 = .ok (.aload_n 0, 1) := by decide +kernel
theorem dX3_addAllBut_6 : decode cX3_addAllBut 6 = .ok (.getfield 30, 3) := by decide +kernel
theorem dX3_addAllBut_9 : decode cX3_addAllBut 9 = .ok (.ldc2_w 86, 3) := by decide +kernel
theorem dX3_addAllBut_12 : decode cX3_addAllBut 12 = .ok (.invokestatic 62, 3) := by decide +kernel
theorem dX3_addAllBut_15 : decode cX3_addAllBut 15 = .ok (.aload_n 0, 1) := by decide +kernel
theorem dX3_addAllBut_16 : decode cX3_addAllBut 16 = .ok (.getfield 30, 3) := by decide +kernel
theorem dX3_addAllBut_19 : decode cX3_addAllBut 19 = .ok (.iconst 0, 1) := by decide +kernel
theorem dX3_addAllBut_20 : decode cX3_addAllBut 20 = .ok (.lconst 0, 1) := by decide +kernel
theorem dX3_addAllBut_21 : decode cX3_addAllBut 21 = .ok (.lastore, 1) := by decide +kernel
theorem dX3_addAllBut_22 : decode cX3_addAllBut 22 = .ok (.iconst 0, 1) := by decide +kernel
theorem dX3_addAllBut_23 : decode cX3_addAllBut 23 = .ok (.istore_n 2, 1) := by decide +kernel
theorem dX3_addAllBut_24 : decode cX3_addAllBut 24 = .ok (.iload_n 2, 1) := by decide +kernel
theorem dX3_addAllBut_25 : decode cX3_addAllBut 25 = .ok (.iconst 4, 1) := by decide +kernel
theorem dX3_addAllBut_26 : decode cX3_addAllBut 26 = .ok (.if_icmp .ge 19, 3) := by decide +kernel
theorem dX3_addAllBut_29 : decode cX3_addAllBut 29 = .ok (.iload_n 2, 1) := by decide +kernel
theorem dX3_addAllBut_30 : decode cX3_addAllBut 30 = .ok (.iload_n 1, 1) := by decide +kernel
theorem dX3_addAllBut_31 : decode cX3_addAllBut 31 = .ok (.if_icmp .eq 8, 3) := by decide +kernel
theorem dX3_addAllBut_34 : decode cX3_addAllBut 34 = .ok (.aload_n 0, 1) := by decide +kernel
theorem dX3_addAllBut_35 : decode cX3_addAllBut 35 = .ok (.iload_n 2, 1) := by decide +kernel
theorem dX3_addAllBut_36 : decode cX3_addAllBut 36 = .ok (.invokevirtual 142, 3) := by decide +kernel
theorem dX3_addAllBut_39 : decode cX3_addAllBut 39 = .ok (.iinc 2 1, 3) := by decide +kernel
theorem dX3_addAllBut_42 : decode cX3_addAllBut 42 = .ok (.goto (-18), 3) := by decide +kernel
theorem dX3_addAllBut_45 : decode cX3_addAllBut 45 = .ok (.return_, 1) := by decide +kernel
theorem dX3_addRow_0 : decode cX3_addRow 0 = .ok (.iconst 2, 1) := by decide +kernel
theorem dX3_addRow_1 : decode cX3_addRow 1 = .ok (.aload_n 0, 1) := by decide +kernel
theorem dX3_addRow_2 : decode cX3_addRow 2 = .ok (.getfield 43, 3) := by decide +kernel
theorem dX3_addRow_5 : decode cX3_addRow 5 = .ok (.imul, 1) := by decide +kernel
theorem dX3_addRow_6 : decode cX3_addRow 6 = .ok (.iconst 1, 1) := by decide +kernel
theorem dX3_addRow_7 : decode cX3_addRow 7 = .ok (.iadd, 1) := by decide +kernel
theorem dX3_addRow_8 : decode cX3_addRow 8 = .ok (.istore_n 2, 1) := by decide +kernel
theorem dX3_addRow_9 : decode cX3_addRow 9 = .ok (.iload_n 2, 1) := by decide +kernel
theorem dX3_addRow_10 : decode cX3_addRow 10 = .ok (.ifCond .le 21, 3) := by decide +kernel
theorem dX3_addRow_13 : decode cX3_addRow 13 = .ok (.aload_n 0, 1) := by decide +kernel
theorem dX3_addRow_14 : decode cX3_addRow 14 = .ok (.getfield 30, 3) := by decide +kernel
theorem dX3_addRow_17 : decode cX3_addRow 17 = .ok (.iload_n 2, 1) := by decide +kernel
theorem dX3_addRow_18 : decode cX3_addRow 18 = .ok (.aload_n 0, 1) := by decide +kernel
theorem dX3_addRow_19 : decode cX3_addRow 19 = .ok (.iload_n 1, 1) := by decide +kernel
theorem dX3_addRow_20 : decode cX3_addRow 20 = .ok (.iload_n 2, 1) := by decide +kernel
theorem dX3_addRow_21 : decode cX3_addRow 21 = .ok (.invokevirtual 105, 3) := by decide +kernel
theorem dX3_addRow_24 : decode cX3_addRow 24 = .ok (.lastore, 1) := by decide +kernel
theorem dX3_addRow_25 : decode cX3_addRow 25 = .ok (.iinc 2 (-1), 3) := by decide +kernel
theorem dX3_addRow_28 : decode cX3_addRow 28 = .ok (.goto (-19), 3) := by decide +kernel
theorem dX3_addRow_31 : decode cX3_addRow 31 = .ok (.return_, 1) := by decide +kernel
theorem dX3_leastWith_0 : decode cX3_leastWith 0 = .ok (.aload_n 0, 1) := by decide +kernel
theorem dX3_leastWith_1 : decode cX3_leastWith 1 = .ok (.getfield 30, 3) := by decide +kernel
theorem dX3_leastWith_4 : decode cX3_leastWith 4 = .ok (.iload_n 2, 1) := by decide +kernel
theorem dX3_leastWith_5 : decode cX3_leastWith 5 = .ok (.laload, 1) := by decide +kernel
theorem dX3_leastWith_6 : decode cX3_leastWith 6 = .ok (.lstore_n 3, 1) := by decide +kernel
theorem dX3_leastWith_7 : decode cX3_leastWith 7 = .ok (.iconst 1, 1) := by decide +kernel
theorem dX3_leastWith_8 : decode cX3_leastWith 8 = .ok (.istore 5, 2) := by decide +kernel
theorem dX3_leastWith_10 : decode cX3_leastWith 10 = .ok (.iload 5, 2) := by decide +kernel
theorem dX3_leastWith_12 : decode cX3_leastWith 12 = .ok (.iload_n 2, 1) := by decide +kernel
theorem dX3_leastWith_13 : decode cX3_leastWith 13 = .ok (.if_icmp .gt 95, 3) := by decide +kernel
theorem dX3_leastWith_16 : decode cX3_leastWith 16 = .ok (.aload_n 0, 1) := by decide +kernel
theorem dX3_leastWith_17 : decode cX3_leastWith 17 = .ok (.getfield 20, 3) := by decide +kernel
theorem dX3_leastWith_20 : decode cX3_leastWith 20 = .ok (.iload_n 1, 1) := by decide +kernel
theorem dX3_leastWith_21 : decode cX3_leastWith 21 = .ok (.bipush 10, 2) := by decide +kernel
theorem dX3_leastWith_23 : decode cX3_leastWith 23 = .ok (.imul, 1) := by decide +kernel
theorem dX3_leastWith_24 : decode cX3_leastWith 24 = .ok (.iload 5, 2) := by decide +kernel
theorem dX3_leastWith_26 : decode cX3_leastWith 26 = .ok (.iadd, 1) := by decide +kernel
theorem dX3_leastWith_27 : decode cX3_leastWith 27 = .ok (.laload, 1) := by decide +kernel
theorem dX3_leastWith_28 : decode cX3_leastWith 28 = .ok (.lstore 6, 2) := by decide +kernel
theorem dX3_leastWith_30 : decode cX3_leastWith 30 = .ok (.iload_n 2, 1) := by decide +kernel
theorem dX3_leastWith_31 : decode cX3_leastWith 31 = .ok (.iload 5, 2) := by decide +kernel
theorem dX3_leastWith_33 : decode cX3_leastWith 33 = .ok (.isub, 1) := by decide +kernel
theorem dX3_leastWith_34 : decode cX3_leastWith 34 = .ok (.iload 5, 2) := by decide +kernel
theorem dX3_leastWith_36 : decode cX3_leastWith 36 = .ok (.iand, 1) := by decide +kernel
theorem dX3_leastWith_37 : decode cX3_leastWith 37 = .ok (.iconst 1, 1) := by decide +kernel
theorem dX3_leastWith_38 : decode cX3_leastWith 38 = .ok (.iand, 1) := by decide +kernel
theorem dX3_leastWith_39 : decode cX3_leastWith 39 = .ok (.iconst 1, 1) := by decide +kernel
theorem dX3_leastWith_40 : decode cX3_leastWith 40 = .ok (.if_icmp .ne 7, 3) := by decide +kernel
theorem dX3_leastWith_43 : decode cX3_leastWith 43 = .ok (.iconst 1, 1) := by decide +kernel
theorem dX3_leastWith_44 : decode cX3_leastWith 44 = .ok (.goto 4, 3) := by decide +kernel
theorem dX3_leastWith_47 : decode cX3_leastWith 47 = .ok (.iconst 0, 1) := by decide +kernel
theorem dX3_leastWith_48 : decode cX3_leastWith 48 = .ok (.istore 8, 2) := by decide +kernel
theorem dX3_leastWith_50 : decode cX3_leastWith 50 = .ok (.lload 6, 2) := by decide +kernel
theorem dX3_leastWith_52 : decode cX3_leastWith 52 = .ok (.ldc2_w 86, 3) := by decide +kernel
theorem dX3_leastWith_55 : decode cX3_leastWith 55 = .ok (.lcmp, 1) := by decide +kernel
theorem dX3_leastWith_56 : decode cX3_leastWith 56 = .ok (.ifCond .eq 46, 3) := by decide +kernel
theorem dX3_leastWith_59 : decode cX3_leastWith 59 = .ok (.iload 8, 2) := by decide +kernel
theorem dX3_leastWith_61 : decode cX3_leastWith 61 = .ok (.ifCond .ne 41, 3) := by decide +kernel
theorem dX3_leastWith_64 : decode cX3_leastWith 64 = .ok (.lload 6, 2) := by decide +kernel
theorem dX3_leastWith_66 : decode cX3_leastWith 66 = .ok (.ldc2_w 109, 3) := by decide +kernel
theorem dX3_leastWith_69 : decode cX3_leastWith 69 = .ok (.land, 1) := by decide +kernel
theorem dX3_leastWith_70 : decode cX3_leastWith 70 = .ok (.bipush 9, 2) := by decide +kernel
theorem dX3_leastWith_72 : decode cX3_leastWith 72 = .ok (.iload_n 1, 1) := by decide +kernel
theorem dX3_leastWith_73 : decode cX3_leastWith 73 = .ok (.imul, 1) := by decide +kernel
theorem dX3_leastWith_74 : decode cX3_leastWith 74 = .ok (.lshl, 1) := by decide +kernel
theorem dX3_leastWith_75 : decode cX3_leastWith 75 = .ok (.lstore 9, 2) := by decide +kernel
theorem dX3_leastWith_77 : decode cX3_leastWith 77 = .ok (.aload_n 0, 1) := by decide +kernel
theorem dX3_leastWith_78 : decode cX3_leastWith 78 = .ok (.lload_n 3, 1) := by decide +kernel
theorem dX3_leastWith_79 : decode cX3_leastWith 79 = .ok (.aload_n 0, 1) := by decide +kernel
theorem dX3_leastWith_80 : decode cX3_leastWith 80 = .ok (.getfield 30, 3) := by decide +kernel
theorem dX3_leastWith_83 : decode cX3_leastWith 83 = .ok (.iload_n 2, 1) := by decide +kernel
theorem dX3_leastWith_84 : decode cX3_leastWith 84 = .ok (.iload 5, 2) := by decide +kernel
theorem dX3_leastWith_86 : decode cX3_leastWith 86 = .ok (.isub, 1) := by decide +kernel
theorem dX3_leastWith_87 : decode cX3_leastWith 87 = .ok (.laload, 1) := by decide +kernel
theorem dX3_leastWith_88 : decode cX3_leastWith 88 = .ok (.lload 6, 2) := by decide +kernel
theorem dX3_leastWith_90 : decode cX3_leastWith 90 = .ok (.ldc2_w 145, 3) := by decide +kernel
theorem dX3_leastWith_93 : decode cX3_leastWith 93 = .ok (.land, 1) := by decide +kernel
theorem dX3_leastWith_94 : decode cX3_leastWith 94 = .ok (.ladd, 1) := by decide +kernel
theorem dX3_leastWith_95 : decode cX3_leastWith 95 = .ok (.lload 9, 2) := by decide +kernel
theorem dX3_leastWith_97 : decode cX3_leastWith 97 = .ok (.ladd, 1) := by decide +kernel
theorem dX3_leastWith_98 : decode cX3_leastWith 98 = .ok (.invokevirtual 147, 3) := by decide +kernel
theorem dX3_leastWith_101 : decode cX3_leastWith 101 = .ok (.lstore_n 3, 1) := by decide +kernel
theorem dX3_leastWith_102 : decode cX3_leastWith 102 = .ok (.iinc 5 1, 3) := by decide +kernel
theorem dX3_leastWith_105 : decode cX3_leastWith 105 = .ok (.goto (-95), 3) := by decide +kernel
theorem dX3_leastWith_108 : decode cX3_leastWith 108 = .ok (.lload_n 3, 1) := by decide +kernel
theorem dX3_leastWith_109 : decode cX3_leastWith 109 = .ok (.lreturn, 1) := by decide +kernel
theorem dX3_workOut_0 : decode cX3_workOut 0 = .ok (.aload_n 0, 1) := by decide +kernel
theorem dX3_workOut_1 : decode cX3_workOut 1 = .ok (.iload_n 1, 1) := by decide +kernel
theorem dX3_workOut_2 : decode cX3_workOut 2 = .ok (.invokevirtual 151, 3) := by decide +kernel
theorem dX3_workOut_5 : decode cX3_workOut 5 = .ok (.lstore_n 2, 1) := by decide +kernel
theorem dX3_workOut_6 : decode cX3_workOut 6 = .ok (.lload_n 2, 1) := by decide +kernel
theorem dX3_workOut_7 : decode cX3_workOut 7 = .ok (.ldc2_w 155, 3) := by decide +kernel
theorem dX3_workOut_10 : decode cX3_workOut 10 = .ok (.lmul, 1) := by decide +kernel
theorem dX3_workOut_11 : decode cX3_workOut 11 = .ok (.bipush 55, 2) := by decide +kernel
theorem dX3_workOut_13 : decode cX3_workOut 13 = .ok (.lushr, 1) := by decide +kernel
theorem dX3_workOut_14 : decode cX3_workOut 14 = .ok (.l2i, 1) := by decide +kernel
theorem dX3_workOut_15 : decode cX3_workOut 15 = .ok (.istore 4, 2) := by decide +kernel
theorem dX3_workOut_17 : decode cX3_workOut 17 = .ok (.aload_n 0, 1) := by decide +kernel
theorem dX3_workOut_18 : decode cX3_workOut 18 = .ok (.getfield 33, 3) := by decide +kernel
theorem dX3_workOut_21 : decode cX3_workOut 21 = .ok (.iload 4, 2) := by decide +kernel
theorem dX3_workOut_23 : decode cX3_workOut 23 = .ok (.laload, 1) := by decide +kernel
theorem dX3_workOut_24 : decode cX3_workOut 24 = .ok (.lload_n 2, 1) := by decide +kernel
theorem dX3_workOut_25 : decode cX3_workOut 25 = .ok (.lcmp, 1) := by decide +kernel
theorem dX3_workOut_26 : decode cX3_workOut 26 = .ok (.ifCond .eq 35, 3) := by decide +kernel
theorem dX3_workOut_29 : decode cX3_workOut 29 = .ok (.aload_n 0, 1) := by decide +kernel
theorem dX3_workOut_30 : decode cX3_workOut 30 = .ok (.iload_n 1, 1) := by decide +kernel
theorem dX3_workOut_31 : decode cX3_workOut 31 = .ok (.invokevirtual 157, 3) := by decide +kernel
theorem dX3_workOut_34 : decode cX3_workOut 34 = .ok (.aload_n 0, 1) := by decide +kernel
theorem dX3_workOut_35 : decode cX3_workOut 35 = .ok (.getfield 33, 3) := by decide +kernel
theorem dX3_workOut_38 : decode cX3_workOut 38 = .ok (.iload 4, 2) := by decide +kernel
theorem dX3_workOut_40 : decode cX3_workOut 40 = .ok (.lload_n 2, 1) := by decide +kernel
theorem dX3_workOut_41 : decode cX3_workOut 41 = .ok (.lastore, 1) := by decide +kernel
theorem dX3_workOut_42 : decode cX3_workOut 42 = .ok (.aload_n 0, 1) := by decide +kernel
theorem dX3_workOut_43 : decode cX3_workOut 43 = .ok (.getfield 24, 3) := by decide +kernel
theorem dX3_workOut_46 : decode cX3_workOut 46 = .ok (.iconst 0, 1) := by decide +kernel
theorem dX3_workOut_47 : decode cX3_workOut 47 = .ok (.aload_n 0, 1) := by decide +kernel
theorem dX3_workOut_48 : decode cX3_workOut 48 = .ok (.getfield 36, 3) := by decide +kernel
theorem dX3_workOut_51 : decode cX3_workOut 51 = .ok (.iload 4, 2) := by decide +kernel
theorem dX3_workOut_53 : decode cX3_workOut 53 = .ok (.bipush 10, 2) := by decide +kernel
theorem dX3_workOut_55 : decode cX3_workOut 55 = .ok (.imul, 1) := by decide +kernel
theorem dX3_workOut_56 : decode cX3_workOut 56 = .ok (.bipush 10, 2) := by decide +kernel
theorem dX3_workOut_58 : decode cX3_workOut 58 = .ok (.invokestatic 95, 3) := by decide +kernel
theorem dX3_workOut_61 : decode cX3_workOut 61 = .ok (.aload_n 0, 1) := by decide +kernel
theorem dX3_workOut_62 : decode cX3_workOut 62 = .ok (.getfield 36, 3) := by decide +kernel
theorem dX3_workOut_65 : decode cX3_workOut 65 = .ok (.iload 4, 2) := by decide +kernel
theorem dX3_workOut_67 : decode cX3_workOut 67 = .ok (.bipush 10, 2) := by decide +kernel
theorem dX3_workOut_69 : decode cX3_workOut 69 = .ok (.imul, 1) := by decide +kernel
theorem dX3_workOut_70 : decode cX3_workOut 70 = .ok (.aload_n 0, 1) := by decide +kernel
theorem dX3_workOut_71 : decode cX3_workOut 71 = .ok (.getfield 20, 3) := by decide +kernel
theorem dX3_workOut_74 : decode cX3_workOut 74 = .ok (.iload_n 1, 1) := by decide +kernel
theorem dX3_workOut_75 : decode cX3_workOut 75 = .ok (.bipush 10, 2) := by decide +kernel
theorem dX3_workOut_77 : decode cX3_workOut 77 = .ok (.imul, 1) := by decide +kernel
theorem dX3_workOut_78 : decode cX3_workOut 78 = .ok (.bipush 10, 2) := by decide +kernel
theorem dX3_workOut_80 : decode cX3_workOut 80 = .ok (.invokestatic 95, 3) := by decide +kernel
theorem dX3_workOut_83 : decode cX3_workOut 83 = .ok (.return_, 1) := by decide +kernel
theorem dX3_keyOf_0 : decode cX3_keyOf 0 = .ok (.aload_n 0, 1) := by decide +kernel
theorem dX3_keyOf_1 : decode cX3_keyOf 1 = .ok (.getfield 39, 3) := by decide +kernel
theorem dX3_keyOf_4 : decode cX3_keyOf 4 = .ok (.i2l, 1) := by decide +kernel
theorem dX3_keyOf_5 : decode cX3_keyOf 5 = .ok (.lstore_n 2, 1) := by decide +kernel
theorem dX3_keyOf_6 : decode cX3_keyOf 6 = .ok (.iconst 0, 1) := by decide +kernel
theorem dX3_keyOf_7 : decode cX3_keyOf 7 = .ok (.istore 4, 2) := by decide +kernel
theorem dX3_keyOf_9 : decode cX3_keyOf 9 = .ok (.iload 4, 2) := by decide +kernel
theorem dX3_keyOf_11 : decode cX3_keyOf 11 = .ok (.iload_n 1, 1) := by decide +kernel
theorem dX3_keyOf_12 : decode cX3_keyOf 12 = .ok (.invokestatic 160, 3) := by decide +kernel
theorem dX3_keyOf_15 : decode cX3_keyOf 15 = .ok (.if_icmp .ge 44, 3) := by decide +kernel
theorem dX3_keyOf_18 : decode cX3_keyOf 18 = .ok (.iload_n 1, 1) := by decide +kernel
theorem dX3_keyOf_19 : decode cX3_keyOf 19 = .ok (.bipush 9, 2) := by decide +kernel
theorem dX3_keyOf_21 : decode cX3_keyOf 21 = .ok (.imul, 1) := by decide +kernel
theorem dX3_keyOf_22 : decode cX3_keyOf 22 = .ok (.iload 4, 2) := by decide +kernel
theorem dX3_keyOf_24 : decode cX3_keyOf 24 = .ok (.iadd, 1) := by decide +kernel
theorem dX3_keyOf_25 : decode cX3_keyOf 25 = .ok (.istore 5, 2) := by decide +kernel
theorem dX3_keyOf_27 : decode cX3_keyOf 27 = .ok (.lload_n 2, 1) := by decide +kernel
theorem dX3_keyOf_28 : decode cX3_keyOf 28 = .ok (.ldc2_w 163, 3) := by decide +kernel
theorem dX3_keyOf_31 : decode cX3_keyOf 31 = .ok (.lmul, 1) := by decide +kernel
theorem dX3_keyOf_32 : decode cX3_keyOf 32 = .ok (.aload_n 0, 1) := by decide +kernel
theorem dX3_keyOf_33 : decode cX3_keyOf 33 = .ok (.getfield 13, 3) := by decide +kernel
theorem dX3_keyOf_36 : decode cX3_keyOf 36 = .ok (.iload 5, 2) := by decide +kernel
theorem dX3_keyOf_38 : decode cX3_keyOf 38 = .ok (.iaload, 1) := by decide +kernel
theorem dX3_keyOf_39 : decode cX3_keyOf 39 = .ok (.iconst 5, 1) := by decide +kernel
theorem dX3_keyOf_40 : decode cX3_keyOf 40 = .ok (.imul, 1) := by decide +kernel
theorem dX3_keyOf_41 : decode cX3_keyOf 41 = .ok (.i2l, 1) := by decide +kernel
theorem dX3_keyOf_42 : decode cX3_keyOf 42 = .ok (.ladd, 1) := by decide +kernel
theorem dX3_keyOf_43 : decode cX3_keyOf 43 = .ok (.aload_n 0, 1) := by decide +kernel
theorem dX3_keyOf_44 : decode cX3_keyOf 44 = .ok (.getfield 17, 3) := by decide +kernel
theorem dX3_keyOf_47 : decode cX3_keyOf 47 = .ok (.iload 5, 2) := by decide +kernel
theorem dX3_keyOf_49 : decode cX3_keyOf 49 = .ok (.iaload, 1) := by decide +kernel
theorem dX3_keyOf_50 : decode cX3_keyOf 50 = .ok (.i2l, 1) := by decide +kernel
theorem dX3_keyOf_51 : decode cX3_keyOf 51 = .ok (.ladd, 1) := by decide +kernel
theorem dX3_keyOf_52 : decode cX3_keyOf 52 = .ok (.lstore_n 2, 1) := by decide +kernel
theorem dX3_keyOf_53 : decode cX3_keyOf 53 = .ok (.iinc 4 1, 3) := by decide +kernel
theorem dX3_keyOf_56 : decode cX3_keyOf 56 = .ok (.goto (-47), 3) := by decide +kernel
theorem dX3_keyOf_59 : decode cX3_keyOf 59 = .ok (.lload_n 2, 1) := by decide +kernel
theorem dX3_keyOf_60 : decode cX3_keyOf 60 = .ok (.lreturn, 1) := by decide +kernel
theorem dX3_goThrough_0 : decode cX3_goThrough 0 = .ok (.aload_n 0, 1) := by decide +kernel
theorem dX3_goThrough_1 : decode cX3_goThrough 1 = .ok (.getfield 24, 3) := by decide +kernel
theorem dX3_goThrough_4 : decode cX3_goThrough 4 = .ok (.ldc2_w 86, 3) := by decide +kernel
theorem dX3_goThrough_7 : decode cX3_goThrough 7 = .ok (.invokestatic 62, 3) := by decide +kernel
theorem dX3_goThrough_10 : decode cX3_goThrough 10 = .ok (.aload_n 0, 1) := by decide +kernel
theorem dX3_goThrough_11 : decode cX3_goThrough 11 = .ok (.getfield 24, 3) := by decide +kernel
theorem dX3_goThrough_14 : decode cX3_goThrough 14 = .ok (.iconst 0, 1) := by decide +kernel
theorem dX3_goThrough_15 : decode cX3_goThrough 15 = .ok (.lconst 0, 1) := by decide +kernel
theorem dX3_goThrough_16 : decode cX3_goThrough 16 = .ok (.lastore, 1) := by decide +kernel
theorem dX3_goThrough_17 : decode cX3_goThrough 17 = .ok (.iconst 0, 1) := by decide +kernel
theorem dX3_goThrough_18 : decode cX3_goThrough 18 = .ok (.istore_n 2, 1) := by decide +kernel
theorem dX3_goThrough_19 : decode cX3_goThrough 19 = .ok (.iload_n 2, 1) := by decide +kernel
theorem dX3_goThrough_20 : decode cX3_goThrough 20 = .ok (.iload_n 1, 1) := by decide +kernel
theorem dX3_goThrough_21 : decode cX3_goThrough 21 = .ok (.invokestatic 160, 3) := by decide +kernel
theorem dX3_goThrough_24 : decode cX3_goThrough 24 = .ok (.if_icmp .ge 93, 3) := by decide +kernel
theorem dX3_goThrough_27 : decode cX3_goThrough 27 = .ok (.aload_n 0, 1) := by decide +kernel
theorem dX3_goThrough_28 : decode cX3_goThrough 28 = .ok (.getfield 27, 3) := by decide +kernel
theorem dX3_goThrough_31 : decode cX3_goThrough 31 = .ok (.ldc2_w 86, 3) := by decide +kernel
theorem dX3_goThrough_34 : decode cX3_goThrough 34 = .ok (.invokestatic 62, 3) := by decide +kernel
theorem dX3_goThrough_37 : decode cX3_goThrough 37 = .ok (.iload_n 1, 1) := by decide +kernel
theorem dX3_goThrough_38 : decode cX3_goThrough 38 = .ok (.bipush 9, 2) := by decide +kernel
theorem dX3_goThrough_40 : decode cX3_goThrough 40 = .ok (.imul, 1) := by decide +kernel
theorem dX3_goThrough_41 : decode cX3_goThrough 41 = .ok (.iload_n 2, 1) := by decide +kernel
theorem dX3_goThrough_42 : decode cX3_goThrough 42 = .ok (.iadd, 1) := by decide +kernel
theorem dX3_goThrough_43 : decode cX3_goThrough 43 = .ok (.istore_n 3, 1) := by decide +kernel
theorem dX3_goThrough_44 : decode cX3_goThrough 44 = .ok (.iconst 0, 1) := by decide +kernel
theorem dX3_goThrough_45 : decode cX3_goThrough 45 = .ok (.istore 4, 2) := by decide +kernel
theorem dX3_goThrough_47 : decode cX3_goThrough 47 = .ok (.iload 4, 2) := by decide +kernel
theorem dX3_goThrough_49 : decode cX3_goThrough 49 = .ok (.bipush 90, 2) := by decide +kernel
theorem dX3_goThrough_51 : decode cX3_goThrough 51 = .ok (.if_icmp .ge 45, 3) := by decide +kernel
theorem dX3_goThrough_54 : decode cX3_goThrough 54 = .ok (.aload_n 0, 1) := by decide +kernel
theorem dX3_goThrough_55 : decode cX3_goThrough 55 = .ok (.getfield 24, 3) := by decide +kernel
theorem dX3_goThrough_58 : decode cX3_goThrough 58 = .ok (.iload 4, 2) := by decide +kernel
theorem dX3_goThrough_60 : decode cX3_goThrough 60 = .ok (.laload, 1) := by decide +kernel
theorem dX3_goThrough_61 : decode cX3_goThrough 61 = .ok (.ldc2_w 86, 3) := by decide +kernel
theorem dX3_goThrough_64 : decode cX3_goThrough 64 = .ok (.lcmp, 1) := by decide +kernel
theorem dX3_goThrough_65 : decode cX3_goThrough 65 = .ok (.ifCond .eq 25, 3) := by decide +kernel
theorem dX3_goThrough_68 : decode cX3_goThrough 68 = .ok (.aload_n 0, 1) := by decide +kernel
theorem dX3_goThrough_69 : decode cX3_goThrough 69 = .ok (.iload 4, 2) := by decide +kernel
theorem dX3_goThrough_71 : decode cX3_goThrough 71 = .ok (.bipush 10, 2) := by decide +kernel
theorem dX3_goThrough_73 : decode cX3_goThrough 73 = .ok (.idiv, 1) := by decide +kernel
theorem dX3_goThrough_74 : decode cX3_goThrough 74 = .ok (.iload 4, 2) := by decide +kernel
theorem dX3_goThrough_76 : decode cX3_goThrough 76 = .ok (.bipush 10, 2) := by decide +kernel
theorem dX3_goThrough_78 : decode cX3_goThrough 78 = .ok (.irem, 1) := by decide +kernel
theorem dX3_goThrough_79 : decode cX3_goThrough 79 = .ok (.aload_n 0, 1) := by decide +kernel
theorem dX3_goThrough_80 : decode cX3_goThrough 80 = .ok (.getfield 24, 3) := by decide +kernel
theorem dX3_goThrough_83 : decode cX3_goThrough 83 = .ok (.iload 4, 2) := by decide +kernel
theorem dX3_goThrough_85 : decode cX3_goThrough 85 = .ok (.laload, 1) := by decide +kernel
theorem dX3_goThrough_86 : decode cX3_goThrough 86 = .ok (.iload_n 3, 1) := by decide +kernel
theorem dX3_goThrough_87 : decode cX3_goThrough 87 = .ok (.invokevirtual 165, 3) := by decide +kernel
theorem dX3_goThrough_90 : decode cX3_goThrough 90 = .ok (.iinc 4 1, 3) := by decide +kernel
theorem dX3_goThrough_93 : decode cX3_goThrough 93 = .ok (.goto (-46), 3) := by decide +kernel
theorem dX3_goThrough_96 : decode cX3_goThrough 96 = .ok (.aload_n 0, 1) := by decide +kernel
theorem dX3_goThrough_97 : decode cX3_goThrough 97 = .ok (.getfield 27, 3) := by decide +kernel
theorem dX3_goThrough_100 : decode cX3_goThrough 100 = .ok (.iconst 0, 1) := by decide +kernel
theorem dX3_goThrough_101 : decode cX3_goThrough 101 = .ok (.aload_n 0, 1) := by decide +kernel
theorem dX3_goThrough_102 : decode cX3_goThrough 102 = .ok (.getfield 24, 3) := by decide +kernel
theorem dX3_goThrough_105 : decode cX3_goThrough 105 = .ok (.iconst 0, 1) := by decide +kernel
theorem dX3_goThrough_106 : decode cX3_goThrough 106 = .ok (.bipush 90, 2) := by decide +kernel
theorem dX3_goThrough_108 : decode cX3_goThrough 108 = .ok (.invokestatic 95, 3) := by decide +kernel
theorem dX3_goThrough_111 : decode cX3_goThrough 111 = .ok (.iinc 2 1, 3) := by decide +kernel
theorem dX3_goThrough_114 : decode cX3_goThrough 114 = .ok (.goto (-95), 3) := by decide +kernel
theorem dX3_goThrough_117 : decode cX3_goThrough 117 = .ok (.return_, 1) := by decide +kernel
theorem dX3_spread_0 : decode cX3_spread 0 = .ok (.iload_n 1, 1) := by decide +kernel
theorem dX3_spread_1 : decode cX3_spread 1 = .ok (.iconst 3, 1) := by decide +kernel
theorem dX3_spread_2 : decode cX3_spread 2 = .ok (.idiv, 1) := by decide +kernel
theorem dX3_spread_3 : decode cX3_spread 3 = .ok (.iload_n 1, 1) := by decide +kernel
theorem dX3_spread_4 : decode cX3_spread 4 = .ok (.iconst 3, 1) := by decide +kernel
theorem dX3_spread_5 : decode cX3_spread 5 = .ok (.irem, 1) := by decide +kernel
theorem dX3_spread_6 : decode cX3_spread 6 = .ok (.iadd, 1) := by decide +kernel
theorem dX3_spread_7 : decode cX3_spread 7 = .ok (.istore 6, 2) := by decide +kernel
theorem dX3_spread_9 : decode cX3_spread 9 = .ok (.iconst 4, 1) := by decide +kernel
theorem dX3_spread_10 : decode cX3_spread 10 = .ok (.aload_n 0, 1) := by decide +kernel
theorem dX3_spread_11 : decode cX3_spread 11 = .ok (.getfield 17, 3) := by decide +kernel
theorem dX3_spread_14 : decode cX3_spread 14 = .ok (.iload 5, 2) := by decide +kernel
theorem dX3_spread_16 : decode cX3_spread 16 = .ok (.iaload, 1) := by decide +kernel
theorem dX3_spread_17 : decode cX3_spread 17 = .ok (.isub, 1) := by decide +kernel
theorem dX3_spread_18 : decode cX3_spread 18 = .ok (.istore 7, 2) := by decide +kernel
theorem dX3_spread_20 : decode cX3_spread 20 = .ok (.iload 5, 2) := by decide +kernel
theorem dX3_spread_22 : decode cX3_spread 22 = .ok (.invokestatic 169, 3) := by decide +kernel
theorem dX3_spread_25 : decode cX3_spread 25 = .ok (.ifCond .eq 7, 3) := by decide +kernel
theorem dX3_spread_28 : decode cX3_spread 28 = .ok (.iconst 2, 1) := by decide +kernel
theorem dX3_spread_29 : decode cX3_spread 29 = .ok (.goto 4, 3) := by decide +kernel
theorem dX3_spread_32 : decode cX3_spread 32 = .ok (.iconst 0, 1) := by decide +kernel
theorem dX3_spread_33 : decode cX3_spread 33 = .ok (.istore 8, 2) := by decide +kernel
theorem dX3_spread_35 : decode cX3_spread 35 = .ok (.iconst 0, 1) := by decide +kernel
theorem dX3_spread_36 : decode cX3_spread 36 = .ok (.istore 9, 2) := by decide +kernel
theorem dX3_spread_38 : decode cX3_spread 38 = .ok (.iload 9, 2) := by decide +kernel
theorem dX3_spread_40 : decode cX3_spread 40 = .ok (.iload 8, 2) := by decide +kernel
theorem dX3_spread_42 : decode cX3_spread 42 = .ok (.if_icmp .gt 171, 3) := by decide +kernel
theorem dX3_spread_45 : decode cX3_spread 45 = .ok (.iconst 0, 1) := by decide +kernel
theorem dX3_spread_46 : decode cX3_spread 46 = .ok (.istore 10, 2) := by decide +kernel
theorem dX3_spread_48 : decode cX3_spread 48 = .ok (.iload 10, 2) := by decide +kernel
theorem dX3_spread_50 : decode cX3_spread 50 = .ok (.iconst 2, 1) := by decide +kernel
theorem dX3_spread_51 : decode cX3_spread 51 = .ok (.if_icmp .gt 156, 3) := by decide +kernel
theorem dX3_spread_54 : decode cX3_spread 54 = .ok (.iload 6, 2) := by decide +kernel
theorem dX3_spread_56 : decode cX3_spread 56 = .ok (.iload 9, 2) := by decide +kernel
theorem dX3_spread_58 : decode cX3_spread 58 = .ok (.iadd, 1) := by decide +kernel
theorem dX3_spread_59 : decode cX3_spread 59 = .ok (.iload 10, 2) := by decide +kernel
theorem dX3_spread_61 : decode cX3_spread 61 = .ok (.ifCond .ne 7, 3) := by decide +kernel
theorem dX3_spread_64 : decode cX3_spread 64 = .ok (.iconst 0, 1) := by decide +kernel
theorem dX3_spread_65 : decode cX3_spread 65 = .ok (.goto 7, 3) := by decide +kernel
theorem dX3_spread_68 : decode cX3_spread 68 = .ok (.iload 10, 2) := by decide +kernel
theorem dX3_spread_70 : decode cX3_spread 70 = .ok (.iconst 1, 1) := by decide +kernel
theorem dX3_spread_71 : decode cX3_spread 71 = .ok (.iadd, 1) := by decide +kernel
theorem dX3_spread_72 : decode cX3_spread 72 = .ok (.iadd, 1) := by decide +kernel
theorem dX3_spread_73 : decode cX3_spread 73 = .ok (.istore 11, 2) := by decide +kernel
theorem dX3_spread_75 : decode cX3_spread 75 = .ok (.iload_n 2, 1) := by decide +kernel
theorem dX3_spread_76 : decode cX3_spread 76 = .ok (.iconst 2, 1) := by decide +kernel
theorem dX3_spread_77 : decode cX3_spread 77 = .ok (.iload 9, 2) := by decide +kernel
theorem dX3_spread_79 : decode cX3_spread 79 = .ok (.imul, 1) := by decide +kernel
theorem dX3_spread_80 : decode cX3_spread 80 = .ok (.iadd, 1) := by decide +kernel
theorem dX3_spread_81 : decode cX3_spread 81 = .ok (.iload 10, 2) := by decide +kernel
theorem dX3_spread_83 : decode cX3_spread 83 = .ok (.iadd, 1) := by decide +kernel
theorem dX3_spread_84 : decode cX3_spread 84 = .ok (.istore 12, 2) := by decide +kernel
theorem dX3_spread_86 : decode cX3_spread 86 = .ok (.iload_n 2, 1) := by decide +kernel
theorem dX3_spread_87 : decode cX3_spread 87 = .ok (.iload 10, 2) := by decide +kernel
theorem dX3_spread_89 : decode cX3_spread 89 = .ok (.iand, 1) := by decide +kernel
theorem dX3_spread_90 : decode cX3_spread 90 = .ok (.iconst 1, 1) := by decide +kernel
theorem dX3_spread_91 : decode cX3_spread 91 = .ok (.iand, 1) := by decide +kernel
theorem dX3_spread_92 : decode cX3_spread 92 = .ok (.iconst 1, 1) := by decide +kernel
theorem dX3_spread_93 : decode cX3_spread 93 = .ok (.if_icmp .ne 7, 3) := by decide +kernel
theorem dX3_spread_96 : decode cX3_spread 96 = .ok (.iconst 1, 1) := by decide +kernel
theorem dX3_spread_97 : decode cX3_spread 97 = .ok (.goto 4, 3) := by decide +kernel
theorem dX3_spread_100 : decode cX3_spread 100 = .ok (.iconst 0, 1) := by decide +kernel
theorem dX3_spread_101 : decode cX3_spread 101 = .ok (.istore 13, 2) := by decide +kernel
theorem dX3_spread_103 : decode cX3_spread 103 = .ok (.iload 11, 2) := by decide +kernel
theorem dX3_spread_105 : decode cX3_spread 105 = .ok (.iload 7, 2) := by decide +kernel
theorem dX3_spread_107 : decode cX3_spread 107 = .ok (.if_icmp .gt 94, 3) := by decide +kernel
theorem dX3_spread_110 : decode cX3_spread 110 = .ok (.iload 12, 2) := by decide +kernel
theorem dX3_spread_112 : decode cX3_spread 112 = .ok (.bipush 10, 2) := by decide +kernel
theorem dX3_spread_114 : decode cX3_spread 114 = .ok (.if_icmp .ge 87, 3) := by decide +kernel
theorem dX3_spread_117 : decode cX3_spread 117 = .ok (.iload 13, 2) := by decide +kernel
theorem dX3_spread_119 : decode cX3_spread 119 = .ok (.ifCond .ne 82, 3) := by decide +kernel
theorem dX3_spread_122 : decode cX3_spread 122 = .ok (.iconst 0, 1) := by decide +kernel
theorem dX3_spread_123 : decode cX3_spread 123 = .ok (.iload 11, 2) := by decide +kernel
theorem dX3_spread_125 : decode cX3_spread 125 = .ok (.aload_n 0, 1) := by decide +kernel
theorem dX3_spread_126 : decode cX3_spread 126 = .ok (.getfield 13, 3) := by decide +kernel
theorem dX3_spread_129 : decode cX3_spread 129 = .ok (.iload 5, 2) := by decide +kernel
theorem dX3_spread_131 : decode cX3_spread 131 = .ok (.iaload, 1) := by decide +kernel
theorem dX3_spread_132 : decode cX3_spread 132 = .ok (.isub, 1) := by decide +kernel
theorem dX3_spread_133 : decode cX3_spread 133 = .ok (.invokestatic 172, 3) := by decide +kernel
theorem dX3_spread_136 : decode cX3_spread 136 = .ok (.istore 14, 2) := by decide +kernel
theorem dX3_spread_138 : decode cX3_spread 138 = .ok (.iload 14, 2) := by decide +kernel
theorem dX3_spread_140 : decode cX3_spread 140 = .ok (.ifCond .le 13, 3) := by decide +kernel
theorem dX3_spread_143 : decode cX3_spread 143 = .ok (.lconst 1, 1) := by decide +kernel
theorem dX3_spread_144 : decode cX3_spread 144 = .ok (.iload 5, 2) := by decide +kernel
theorem dX3_spread_146 : decode cX3_spread 146 = .ok (.bipush 9, 2) := by decide +kernel
theorem dX3_spread_148 : decode cX3_spread 148 = .ok (.irem, 1) := by decide +kernel
theorem dX3_spread_149 : decode cX3_spread 149 = .ok (.lshl, 1) := by decide +kernel
theorem dX3_spread_150 : decode cX3_spread 150 = .ok (.goto 4, 3) := by decide +kernel
theorem dX3_spread_153 : decode cX3_spread 153 = .ok (.lconst 0, 1) := by decide +kernel
theorem dX3_spread_154 : decode cX3_spread 154 = .ok (.lstore 15, 2) := by decide +kernel
theorem dX3_spread_156 : decode cX3_spread 156 = .ok (.iconst 3, 1) := by decide +kernel
theorem dX3_spread_157 : decode cX3_spread 157 = .ok (.iload 9, 2) := by decide +kernel
theorem dX3_spread_159 : decode cX3_spread 159 = .ok (.imul, 1) := by decide +kernel
theorem dX3_spread_160 : decode cX3_spread 160 = .ok (.iload_n 1, 1) := by decide +kernel
theorem dX3_spread_161 : decode cX3_spread 161 = .ok (.iconst 3, 1) := by decide +kernel
theorem dX3_spread_162 : decode cX3_spread 162 = .ok (.idiv, 1) := by decide +kernel
theorem dX3_spread_163 : decode cX3_spread 163 = .ok (.iadd, 1) := by decide +kernel
theorem dX3_spread_164 : decode cX3_spread 164 = .ok (.bipush 10, 2) := by decide +kernel
theorem dX3_spread_166 : decode cX3_spread 166 = .ok (.imul, 1) := by decide +kernel
theorem dX3_spread_167 : decode cX3_spread 167 = .ok (.iload 12, 2) := by decide +kernel
theorem dX3_spread_169 : decode cX3_spread 169 = .ok (.iadd, 1) := by decide +kernel
theorem dX3_spread_170 : decode cX3_spread 170 = .ok (.istore 17, 2) := by decide +kernel
theorem dX3_spread_172 : decode cX3_spread 172 = .ok (.aload_n 0, 1) := by decide +kernel
theorem dX3_spread_173 : decode cX3_spread 173 = .ok (.getfield 27, 3) := by decide +kernel
theorem dX3_spread_176 : decode cX3_spread 176 = .ok (.iload 17, 2) := by decide +kernel
theorem dX3_spread_178 : decode cX3_spread 178 = .ok (.aload_n 0, 1) := by decide +kernel
theorem dX3_spread_179 : decode cX3_spread 179 = .ok (.aload_n 0, 1) := by decide +kernel
theorem dX3_spread_180 : decode cX3_spread 180 = .ok (.getfield 27, 3) := by decide +kernel
theorem dX3_spread_183 : decode cX3_spread 183 = .ok (.iload 17, 2) := by decide +kernel
theorem dX3_spread_185 : decode cX3_spread 185 = .ok (.laload, 1) := by decide +kernel
theorem dX3_spread_186 : decode cX3_spread 186 = .ok (.lload_n 3, 1) := by decide +kernel
theorem dX3_spread_187 : decode cX3_spread 187 = .ok (.iload 14, 2) := by decide +kernel
theorem dX3_spread_189 : decode cX3_spread 189 = .ok (.i2l, 1) := by decide +kernel
theorem dX3_spread_190 : decode cX3_spread 190 = .ok (.bipush 34, 2) := by decide +kernel
theorem dX3_spread_192 : decode cX3_spread 192 = .ok (.lshl, 1) := by decide +kernel
theorem dX3_spread_193 : decode cX3_spread 193 = .ok (.ladd, 1) := by decide +kernel
theorem dX3_spread_194 : decode cX3_spread 194 = .ok (.lload 15, 2) := by decide +kernel
theorem dX3_spread_196 : decode cX3_spread 196 = .ok (.lor, 1) := by decide +kernel
theorem dX3_spread_197 : decode cX3_spread 197 = .ok (.invokevirtual 147, 3) := by decide +kernel
theorem dX3_spread_200 : decode cX3_spread 200 = .ok (.lastore, 1) := by decide +kernel
theorem dX3_spread_201 : decode cX3_spread 201 = .ok (.iinc 10 1, 3) := by decide +kernel
theorem dX3_spread_204 : decode cX3_spread 204 = .ok (.goto (-156), 3) := by decide +kernel
theorem dX3_spread_207 : decode cX3_spread 207 = .ok (.iinc 9 1, 3) := by decide +kernel
theorem dX3_spread_210 : decode cX3_spread 210 = .ok (.goto (-172), 3) := by decide +kernel
theorem dX3_spread_213 : decode cX3_spread 213 = .ok (.return_, 1) := by decide +kernel
theorem dX4_init_0 : decode cX4_init 0 = .ok (.aload_n 0, 1) := by decide +kernel
theorem dX4_init_1 : decode cX4_init 1 = .ok (.invokespecial 1, 3) := by decide +kernel
theorem dX4_init_4 : decode cX4_init 4 = .ok (.aload_n 0, 1) := by decide +kernel
theorem dX4_init_5 : decode cX4_init 5 = .ok (.iconst 0, 1) := by decide +kernel
theorem dX4_init_6 : decode cX4_init 6 = .ok (.putfield 7, 3) := by decide +kernel
theorem dX4_init_9 : decode cX4_init 9 = .ok (.aload_n 0, 1) := by decide +kernel
theorem dX4_init_10 : decode cX4_init 10 = .ok (.iconst 0, 1) := by decide +kernel
theorem dX4_init_11 : decode cX4_init 11 = .ok (.putfield 13, 3) := by decide +kernel
theorem dX4_init_14 : decode cX4_init 14 = .ok (.return_, 1) := by decide +kernel
theorem dX4_lackOfSeven_0 : decode cX4_lackOfSeven 0 = .ok (.iconst 0, 1) := by decide +kernel
theorem dX4_lackOfSeven_1 : decode cX4_lackOfSeven 1 = .ok (.istore_n 1, 1) := by decide +kernel
theorem dX4_lackOfSeven_2 : decode cX4_lackOfSeven 2 = .ok (.iconst 0, 1) := by decide +kernel
theorem dX4_lackOfSeven_3 : decode cX4_lackOfSeven 3 = .ok (.istore_n 2, 1) := by decide +kernel
theorem dX4_lackOfSeven_4 : decode cX4_lackOfSeven 4 = .ok (.aload_n 0, 1) := by decide +kernel
theorem dX4_lackOfSeven_5 : decode cX4_lackOfSeven 5 = .ok (.astore_n 3, 1) := by decide +kernel
theorem dX4_lackOfSeven_6 : decode cX4_lackOfSeven 6 = .ok (.aload_n 3, 1) := by decide +kernel
theorem dX4_lackOfSeven_7 : decode cX4_lackOfSeven 7 = .ok (.arraylength, 1) := by decide +kernel
theorem dX4_lackOfSeven_8 : decode cX4_lackOfSeven 8 = .ok (.istore 4, 2) := by decide +kernel
theorem dX4_lackOfSeven_10 : decode cX4_lackOfSeven 10 = .ok (.iconst 0, 1) := by decide +kernel
theorem dX4_lackOfSeven_11 : decode cX4_lackOfSeven 11 = .ok (.istore 5, 2) := by decide +kernel
theorem dX4_lackOfSeven_13 : decode cX4_lackOfSeven 13 = .ok (.iload 5, 2) := by decide +kernel
theorem dX4_lackOfSeven_15 : decode cX4_lackOfSeven 15 = .ok (.iload 4, 2) := by decide +kernel
theorem dX4_lackOfSeven_17 : decode cX4_lackOfSeven 17 = .ok (.if_icmp .ge 43, 3) := by decide +kernel
theorem dX4_lackOfSeven_20 : decode cX4_lackOfSeven 20 = .ok (.aload_n 3, 1) := by decide +kernel
theorem dX4_lackOfSeven_21 : decode cX4_lackOfSeven 21 = .ok (.iload 5, 2) := by decide +kernel
theorem dX4_lackOfSeven_23 : decode cX4_lackOfSeven 23 = .ok (.iaload, 1) := by decide +kernel
theorem dX4_lackOfSeven_24 : decode cX4_lackOfSeven 24 = .ok (.istore 6, 2) := by decide +kernel
theorem dX4_lackOfSeven_26 : decode cX4_lackOfSeven 26 = .ok (.iload_n 1, 1) := by decide +kernel
theorem dX4_lackOfSeven_27 : decode cX4_lackOfSeven 27 = .ok (.iload 6, 2) := by decide +kernel
theorem dX4_lackOfSeven_29 : decode cX4_lackOfSeven 29 = .ok (.iconst 2, 1) := by decide +kernel
theorem dX4_lackOfSeven_30 : decode cX4_lackOfSeven 30 = .ok (.if_icmp .lt 7, 3) := by decide +kernel
theorem dX4_lackOfSeven_33 : decode cX4_lackOfSeven 33 = .ok (.iconst 1, 1) := by decide +kernel
theorem dX4_lackOfSeven_34 : decode cX4_lackOfSeven 34 = .ok (.goto 4, 3) := by decide +kernel
theorem dX4_lackOfSeven_37 : decode cX4_lackOfSeven 37 = .ok (.iconst 0, 1) := by decide +kernel
theorem dX4_lackOfSeven_38 : decode cX4_lackOfSeven 38 = .ok (.iadd, 1) := by decide +kernel
theorem dX4_lackOfSeven_39 : decode cX4_lackOfSeven 39 = .ok (.istore_n 1, 1) := by decide +kernel
theorem dX4_lackOfSeven_40 : decode cX4_lackOfSeven 40 = .ok (.iload_n 2, 1) := by decide +kernel
theorem dX4_lackOfSeven_41 : decode cX4_lackOfSeven 41 = .ok (.iload 6, 2) := by decide +kernel
theorem dX4_lackOfSeven_43 : decode cX4_lackOfSeven 43 = .ok (.iconst 1, 1) := by decide +kernel
theorem dX4_lackOfSeven_44 : decode cX4_lackOfSeven 44 = .ok (.if_icmp .lt 7, 3) := by decide +kernel
theorem dX4_lackOfSeven_47 : decode cX4_lackOfSeven 47 = .ok (.iconst 1, 1) := by decide +kernel
theorem dX4_lackOfSeven_48 : decode cX4_lackOfSeven 48 = .ok (.goto 4, 3) := by decide +kernel
theorem dX4_lackOfSeven_51 : decode cX4_lackOfSeven 51 = .ok (.iconst 0, 1) := by decide +kernel
theorem dX4_lackOfSeven_52 : decode cX4_lackOfSeven 52 = .ok (.iadd, 1) := by decide +kernel
theorem dX4_lackOfSeven_53 : decode cX4_lackOfSeven 53 = .ok (.istore_n 2, 1) := by decide +kernel
theorem dX4_lackOfSeven_54 : decode cX4_lackOfSeven 54 = .ok (.iinc 5 1, 3) := by decide +kernel
theorem dX4_lackOfSeven_57 : decode cX4_lackOfSeven 57 = .ok (.goto (-44), 3) := by decide +kernel
theorem dX4_lackOfSeven_60 : decode cX4_lackOfSeven 60 = .ok (.bipush 14, 2) := by decide +kernel
theorem dX4_lackOfSeven_62 : decode cX4_lackOfSeven 62 = .ok (.iload_n 1, 1) := by decide +kernel
theorem dX4_lackOfSeven_63 : decode cX4_lackOfSeven 63 = .ok (.bipush 7, 2) := by decide +kernel
theorem dX4_lackOfSeven_65 : decode cX4_lackOfSeven 65 = .ok (.invokestatic 16, 3) := by decide +kernel
theorem dX4_lackOfSeven_68 : decode cX4_lackOfSeven 68 = .ok (.isub, 1) := by decide +kernel
theorem dX4_lackOfSeven_69 : decode cX4_lackOfSeven 69 = .ok (.iload_n 2, 1) := by decide +kernel
theorem dX4_lackOfSeven_70 : decode cX4_lackOfSeven 70 = .ok (.bipush 7, 2) := by decide +kernel
theorem dX4_lackOfSeven_72 : decode cX4_lackOfSeven 72 = .ok (.invokestatic 16, 3) := by decide +kernel
theorem dX4_lackOfSeven_75 : decode cX4_lackOfSeven 75 = .ok (.isub, 1) := by decide +kernel
theorem dX4_lackOfSeven_76 : decode cX4_lackOfSeven 76 = .ok (.ireturn, 1) := by decide +kernel
theorem dX4_helpersOfSeven_0 : decode cX4_helpersOfSeven 0 = .ok (.iconst 0, 1) := by decide +kernel
theorem dX4_helpersOfSeven_1 : decode cX4_helpersOfSeven 1 = .ok (.istore_n 1, 1) := by decide +kernel
theorem dX4_helpersOfSeven_2 : decode cX4_helpersOfSeven 2 = .ok (.aload_n 0, 1) := by decide +kernel
theorem dX4_helpersOfSeven_3 : decode cX4_helpersOfSeven 3 = .ok (.astore_n 2, 1) := by decide +kernel
theorem dX4_helpersOfSeven_4 : decode cX4_helpersOfSeven 4 = .ok (.aload_n 2, 1) := by decide +kernel
theorem dX4_helpersOfSeven_5 : decode cX4_helpersOfSeven 5 = .ok (.arraylength, 1) := by decide +kernel
theorem dX4_helpersOfSeven_6 : decode cX4_helpersOfSeven 6 = .ok (.istore_n 3, 1) := by decide +kernel
theorem dX4_helpersOfSeven_7 : decode cX4_helpersOfSeven 7 = .ok (.iconst 0, 1) := by decide +kernel
theorem dX4_helpersOfSeven_8 : decode cX4_helpersOfSeven 8 = .ok (.istore 4, 2) := by decide +kernel
theorem dX4_helpersOfSeven_10 : decode cX4_helpersOfSeven 10 = .ok (.iload 4, 2) := by decide +kernel
theorem dX4_helpersOfSeven_12 : decode cX4_helpersOfSeven 12 = .ok (.iload_n 3, 1) := by decide +kernel
theorem dX4_helpersOfSeven_13 : decode cX4_helpersOfSeven 13 = .ok (.if_icmp .ge 29, 3) := by decide +kernel
theorem dX4_helpersOfSeven_16 : decode cX4_helpersOfSeven 16 = .ok (.aload_n 2, 1) := by decide +kernel
theorem dX4_helpersOfSeven_17 : decode cX4_helpersOfSeven 17 = .ok (.iload 4, 2) := by decide +kernel
theorem dX4_helpersOfSeven_19 : decode cX4_helpersOfSeven 19 = .ok (.iaload, 1) := by decide +kernel
theorem dX4_helpersOfSeven_20 : decode cX4_helpersOfSeven 20 = .ok (.istore 5, 2) := by decide +kernel
theorem dX4_helpersOfSeven_22 : decode cX4_helpersOfSeven 22 = .ok (.iload_n 1, 1) := by decide +kernel
theorem dX4_helpersOfSeven_23 : decode cX4_helpersOfSeven 23 = .ok (.iload 5, 2) := by decide +kernel
theorem dX4_helpersOfSeven_25 : decode cX4_helpersOfSeven 25 = .ok (.iconst 1, 1) := by decide +kernel
theorem dX4_helpersOfSeven_26 : decode cX4_helpersOfSeven 26 = .ok (.if_icmp .lt 7, 3) := by decide +kernel
theorem dX4_helpersOfSeven_29 : decode cX4_helpersOfSeven 29 = .ok (.iconst 1, 1) := by decide +kernel
theorem dX4_helpersOfSeven_30 : decode cX4_helpersOfSeven 30 = .ok (.goto 4, 3) := by decide +kernel
theorem dX4_helpersOfSeven_33 : decode cX4_helpersOfSeven 33 = .ok (.iconst 0, 1) := by decide +kernel
theorem dX4_helpersOfSeven_34 : decode cX4_helpersOfSeven 34 = .ok (.iadd, 1) := by decide +kernel
theorem dX4_helpersOfSeven_35 : decode cX4_helpersOfSeven 35 = .ok (.istore_n 1, 1) := by decide +kernel
theorem dX4_helpersOfSeven_36 : decode cX4_helpersOfSeven 36 = .ok (.iinc 4 1, 3) := by decide +kernel
theorem dX4_helpersOfSeven_39 : decode cX4_helpersOfSeven 39 = .ok (.goto (-29), 3) := by decide +kernel
theorem dX4_helpersOfSeven_42 : decode cX4_helpersOfSeven 42 = .ok (.lconst 0, 1) := by decide +kernel
theorem dX4_helpersOfSeven_43 : decode cX4_helpersOfSeven 43 = .ok (.lstore_n 2, 1) := by decide +kernel
theorem dX4_helpersOfSeven_44 : decode cX4_helpersOfSeven 44 = .ok (.iconst 0, 1) := by decide +kernel
theorem dX4_helpersOfSeven_45 : decode cX4_helpersOfSeven 45 = .ok (.istore 4, 2) := by decide +kernel
theorem dX4_helpersOfSeven_47 : decode cX4_helpersOfSeven 47 = .ok (.iload 4, 2) := by decide +kernel
theorem dX4_helpersOfSeven_49 : decode cX4_helpersOfSeven 49 = .ok (.bipush 34, 2) := by decide +kernel
theorem dX4_helpersOfSeven_51 : decode cX4_helpersOfSeven 51 = .ok (.if_icmp .ge 37, 3) := by decide +kernel
theorem dX4_helpersOfSeven_54 : decode cX4_helpersOfSeven 54 = .ok (.aload_n 0, 1) := by decide +kernel
theorem dX4_helpersOfSeven_55 : decode cX4_helpersOfSeven 55 = .ok (.iload 4, 2) := by decide +kernel
theorem dX4_helpersOfSeven_57 : decode cX4_helpersOfSeven 57 = .ok (.iaload, 1) := by decide +kernel
theorem dX4_helpersOfSeven_58 : decode cX4_helpersOfSeven 58 = .ok (.iconst 1, 1) := by decide +kernel
theorem dX4_helpersOfSeven_59 : decode cX4_helpersOfSeven 59 = .ok (.if_icmp .eq 16, 3) := by decide +kernel
theorem dX4_helpersOfSeven_62 : decode cX4_helpersOfSeven 62 = .ok (.aload_n 0, 1) := by decide +kernel
theorem dX4_helpersOfSeven_63 : decode cX4_helpersOfSeven 63 = .ok (.iload 4, 2) := by decide +kernel
theorem dX4_helpersOfSeven_65 : decode cX4_helpersOfSeven 65 = .ok (.iaload, 1) := by decide +kernel
theorem dX4_helpersOfSeven_66 : decode cX4_helpersOfSeven 66 = .ok (.ifCond .ne 16, 3) := by decide +kernel
theorem dX4_helpersOfSeven_69 : decode cX4_helpersOfSeven 69 = .ok (.iload_n 1, 1) := by decide +kernel
theorem dX4_helpersOfSeven_70 : decode cX4_helpersOfSeven 70 = .ok (.bipush 7, 2) := by decide +kernel
theorem dX4_helpersOfSeven_72 : decode cX4_helpersOfSeven 72 = .ok (.if_icmp .ge 10, 3) := by decide +kernel
theorem dX4_helpersOfSeven_75 : decode cX4_helpersOfSeven 75 = .ok (.lload_n 2, 1) := by decide +kernel
theorem dX4_helpersOfSeven_76 : decode cX4_helpersOfSeven 76 = .ok (.lconst 1, 1) := by decide +kernel
theorem dX4_helpersOfSeven_77 : decode cX4_helpersOfSeven 77 = .ok (.iload 4, 2) := by decide +kernel
theorem dX4_helpersOfSeven_79 : decode cX4_helpersOfSeven 79 = .ok (.lshl, 1) := by decide +kernel
theorem dX4_helpersOfSeven_80 : decode cX4_helpersOfSeven 80 = .ok (.lor, 1) := by decide +kernel
theorem dX4_helpersOfSeven_81 : decode cX4_helpersOfSeven 81 = .ok (.lstore_n 2, 1) := by decide +kernel
theorem dX4_helpersOfSeven_82 : decode cX4_helpersOfSeven 82 = .ok (.iinc 4 1, 3) := by decide +kernel
theorem dX4_helpersOfSeven_85 : decode cX4_helpersOfSeven 85 = .ok (.goto (-38), 3) := by decide +kernel
theorem dX4_helpersOfSeven_88 : decode cX4_helpersOfSeven 88 = .ok (.lload_n 2, 1) := by decide +kernel
theorem dX4_helpersOfSeven_89 : decode cX4_helpersOfSeven 89 = .ok (.lreturn, 1) := by decide +kernel
theorem dX4_lackOfOuter_0 : decode cX4_lackOfOuter 0 = .ok (.iconst 0, 1) := by decide +kernel
theorem dX4_lackOfOuter_1 : decode cX4_lackOfOuter 1 = .ok (.istore_n 1, 1) := by decide +kernel
theorem dX4_lackOfOuter_2 : decode cX4_lackOfOuter 2 = .ok (.iconst 0, 1) := by decide +kernel
theorem dX4_lackOfOuter_3 : decode cX4_lackOfOuter 3 = .ok (.istore_n 2, 1) := by decide +kernel
theorem dX4_lackOfOuter_4 : decode cX4_lackOfOuter 4 = .ok (.iload_n 2, 1) := by decide +kernel
theorem dX4_lackOfOuter_5 : decode cX4_lackOfOuter 5 = .ok (.bipush 34, 2) := by decide +kernel
theorem dX4_lackOfOuter_7 : decode cX4_lackOfOuter 7 = .ok (.if_icmp .ge 25, 3) := by decide +kernel
theorem dX4_lackOfOuter_10 : decode cX4_lackOfOuter 10 = .ok (.iload_n 2, 1) := by decide +kernel
theorem dX4_lackOfOuter_11 : decode cX4_lackOfOuter 11 = .ok (.invokestatic 24, 3) := by decide +kernel
theorem dX4_lackOfOuter_14 : decode cX4_lackOfOuter 14 = .ok (.ifCond .eq 12, 3) := by decide +kernel
theorem dX4_lackOfOuter_17 : decode cX4_lackOfOuter 17 = .ok (.aload_n 0, 1) := by decide +kernel
theorem dX4_lackOfOuter_18 : decode cX4_lackOfOuter 18 = .ok (.iload_n 2, 1) := by decide +kernel
theorem dX4_lackOfOuter_19 : decode cX4_lackOfOuter 19 = .ok (.iaload, 1) := by decide +kernel
theorem dX4_lackOfOuter_20 : decode cX4_lackOfOuter 20 = .ok (.ifCond .le 6, 3) := by decide +kernel
theorem dX4_lackOfOuter_23 : decode cX4_lackOfOuter 23 = .ok (.iinc 1 1, 3) := by decide +kernel
theorem dX4_lackOfOuter_26 : decode cX4_lackOfOuter 26 = .ok (.iinc 2 1, 3) := by decide +kernel
theorem dX4_lackOfOuter_29 : decode cX4_lackOfOuter 29 = .ok (.goto (-25), 3) := by decide +kernel
theorem dX4_lackOfOuter_32 : decode cX4_lackOfOuter 32 = .ok (.bipush 13, 2) := by decide +kernel
theorem dX4_lackOfOuter_34 : decode cX4_lackOfOuter 34 = .ok (.iload_n 1, 1) := by decide +kernel
theorem dX4_lackOfOuter_35 : decode cX4_lackOfOuter 35 = .ok (.isub, 1) := by decide +kernel
theorem dX4_lackOfOuter_36 : decode cX4_lackOfOuter 36 = .ok (.aload_n 0, 1) := by decide +kernel
theorem dX4_lackOfOuter_37 : decode cX4_lackOfOuter 37 = .ok (.invokestatic 28, 3) := by decide +kernel
theorem dX4_lackOfOuter_40 : decode cX4_lackOfOuter 40 = .ok (.ifCond .eq 7, 3) := by decide +kernel
theorem dX4_lackOfOuter_43 : decode cX4_lackOfOuter 43 = .ok (.iconst 0, 1) := by decide +kernel
theorem dX4_lackOfOuter_44 : decode cX4_lackOfOuter 44 = .ok (.goto 4, 3) := by decide +kernel
theorem dX4_lackOfOuter_47 : decode cX4_lackOfOuter 47 = .ok (.iconst 1, 1) := by decide +kernel
theorem dX4_lackOfOuter_48 : decode cX4_lackOfOuter 48 = .ok (.iadd, 1) := by decide +kernel
theorem dX4_lackOfOuter_49 : decode cX4_lackOfOuter 49 = .ok (.ireturn, 1) := by decide +kernel
theorem dX4_helpersOfOuter_0 : decode cX4_helpersOfOuter 0 = .ok (.aload_n 0, 1) := by decide +kernel
theorem dX4_helpersOfOuter_1 : decode cX4_helpersOfOuter 1 = .ok (.invokestatic 28, 3) := by decide +kernel
theorem dX4_helpersOfOuter_4 : decode cX4_helpersOfOuter 4 = .ok (.ifCond .eq 7, 3) := by decide +kernel
theorem dX4_helpersOfOuter_7 : decode cX4_helpersOfOuter 7 = .ok (.iconst 1, 1) := by decide +kernel
theorem dX4_helpersOfOuter_8 : decode cX4_helpersOfOuter 8 = .ok (.goto 4, 3) := by decide +kernel
theorem dX4_helpersOfOuter_11 : decode cX4_helpersOfOuter 11 = .ok (.iconst 2, 1) := by decide +kernel
theorem dX4_helpersOfOuter_12 : decode cX4_helpersOfOuter 12 = .ok (.istore_n 1, 1) := by decide +kernel
theorem dX4_helpersOfOuter_13 : decode cX4_helpersOfOuter 13 = .ok (.lconst 0, 1) := by decide +kernel
theorem dX4_helpersOfOuter_14 : decode cX4_helpersOfOuter 14 = .ok (.lstore_n 2, 1) := by decide +kernel
theorem dX4_helpersOfOuter_15 : decode cX4_helpersOfOuter 15 = .ok (.iconst 0, 1) := by decide +kernel
theorem dX4_helpersOfOuter_16 : decode cX4_helpersOfOuter 16 = .ok (.istore 4, 2) := by decide +kernel
theorem dX4_helpersOfOuter_18 : decode cX4_helpersOfOuter 18 = .ok (.iload 4, 2) := by decide +kernel
theorem dX4_helpersOfOuter_20 : decode cX4_helpersOfOuter 20 = .ok (.bipush 34, 2) := by decide +kernel
theorem dX4_helpersOfOuter_22 : decode cX4_helpersOfOuter 22 = .ok (.if_icmp .ge 32, 3) := by decide +kernel
theorem dX4_helpersOfOuter_25 : decode cX4_helpersOfOuter 25 = .ok (.iload 4, 2) := by decide +kernel
theorem dX4_helpersOfOuter_27 : decode cX4_helpersOfOuter 27 = .ok (.invokestatic 24, 3) := by decide +kernel
theorem dX4_helpersOfOuter_30 : decode cX4_helpersOfOuter 30 = .ok (.ifCond .eq 18, 3) := by decide +kernel
theorem dX4_helpersOfOuter_33 : decode cX4_helpersOfOuter 33 = .ok (.aload_n 0, 1) := by decide +kernel
theorem dX4_helpersOfOuter_34 : decode cX4_helpersOfOuter 34 = .ok (.iload 4, 2) := by decide +kernel
theorem dX4_helpersOfOuter_36 : decode cX4_helpersOfOuter 36 = .ok (.iaload, 1) := by decide +kernel
theorem dX4_helpersOfOuter_37 : decode cX4_helpersOfOuter 37 = .ok (.iload_n 1, 1) := by decide +kernel
theorem dX4_helpersOfOuter_38 : decode cX4_helpersOfOuter 38 = .ok (.if_icmp .ge 10, 3) := by decide +kernel
theorem dX4_helpersOfOuter_41 : decode cX4_helpersOfOuter 41 = .ok (.lload_n 2, 1) := by decide +kernel
theorem dX4_helpersOfOuter_42 : decode cX4_helpersOfOuter 42 = .ok (.lconst 1, 1) := by decide +kernel
theorem dX4_helpersOfOuter_43 : decode cX4_helpersOfOuter 43 = .ok (.iload 4, 2) := by decide +kernel
theorem dX4_helpersOfOuter_45 : decode cX4_helpersOfOuter 45 = .ok (.lshl, 1) := by decide +kernel
theorem dX4_helpersOfOuter_46 : decode cX4_helpersOfOuter 46 = .ok (.lor, 1) := by decide +kernel
theorem dX4_helpersOfOuter_47 : decode cX4_helpersOfOuter 47 = .ok (.lstore_n 2, 1) := by decide +kernel
theorem dX4_helpersOfOuter_48 : decode cX4_helpersOfOuter 48 = .ok (.iinc 4 1, 3) := by decide +kernel
theorem dX4_helpersOfOuter_51 : decode cX4_helpersOfOuter 51 = .ok (.goto (-33), 3) := by decide +kernel
theorem dX4_helpersOfOuter_54 : decode cX4_helpersOfOuter 54 = .ok (.lload_n 2, 1) := by decide +kernel
theorem dX4_helpersOfOuter_55 : decode cX4_helpersOfOuter 55 = .ok (.lreturn, 1) := by decide +kernel
theorem dX4_hasOuterPair_0 : decode cX4_hasOuterPair 0 = .ok (.iconst 0, 1) := by decide +kernel
theorem dX4_hasOuterPair_1 : decode cX4_hasOuterPair 1 = .ok (.istore_n 1, 1) := by decide +kernel
theorem dX4_hasOuterPair_2 : decode cX4_hasOuterPair 2 = .ok (.iload_n 1, 1) := by decide +kernel
theorem dX4_hasOuterPair_3 : decode cX4_hasOuterPair 3 = .ok (.bipush 34, 2) := by decide +kernel
theorem dX4_hasOuterPair_5 : decode cX4_hasOuterPair 5 = .ok (.if_icmp .ge 25, 3) := by decide +kernel
theorem dX4_hasOuterPair_8 : decode cX4_hasOuterPair 8 = .ok (.iload_n 1, 1) := by decide +kernel
theorem dX4_hasOuterPair_9 : decode cX4_hasOuterPair 9 = .ok (.invokestatic 24, 3) := by decide +kernel
theorem dX4_hasOuterPair_12 : decode cX4_hasOuterPair 12 = .ok (.ifCond .eq 12, 3) := by decide +kernel
theorem dX4_hasOuterPair_15 : decode cX4_hasOuterPair 15 = .ok (.aload_n 0, 1) := by decide +kernel
theorem dX4_hasOuterPair_16 : decode cX4_hasOuterPair 16 = .ok (.iload_n 1, 1) := by decide +kernel
theorem dX4_hasOuterPair_17 : decode cX4_hasOuterPair 17 = .ok (.iaload, 1) := by decide +kernel
theorem dX4_hasOuterPair_18 : decode cX4_hasOuterPair 18 = .ok (.iconst 2, 1) := by decide +kernel
theorem dX4_hasOuterPair_19 : decode cX4_hasOuterPair 19 = .ok (.if_icmp .lt 5, 3) := by decide +kernel
theorem dX4_hasOuterPair_22 : decode cX4_hasOuterPair 22 = .ok (.iconst 1, 1) := by decide +kernel
theorem dX4_hasOuterPair_23 : decode cX4_hasOuterPair 23 = .ok (.ireturn, 1) := by decide +kernel
theorem dX4_hasOuterPair_24 : decode cX4_hasOuterPair 24 = .ok (.iinc 1 1, 3) := by decide +kernel
theorem dX4_hasOuterPair_27 : decode cX4_hasOuterPair 27 = .ok (.goto (-25), 3) := by decide +kernel
theorem dX4_hasOuterPair_30 : decode cX4_hasOuterPair 30 = .ok (.iconst 0, 1) := by decide +kernel
theorem dX4_hasOuterPair_31 : decode cX4_hasOuterPair 31 = .ok (.ireturn, 1) := by decide +kernel
theorem dX5_init_0 : decode cX5_init 0 = .ok (.aload_n 0, 1) := by decide +kernel
theorem dX5_init_1 : decode cX5_init 1 = .ok (.invokespecial 1, 3) := by decide +kernel
theorem dX5_init_4 : decode cX5_init 4 = .ok (.aload_n 0, 1) := by decide +kernel
theorem dX5_init_5 : decode cX5_init 5 = .ok (.bipush 40, 2) := by decide +kernel
theorem dX5_init_7 : decode cX5_init 7 = .ok (.newarray .int, 2) := by decide +kernel
theorem dX5_init_9 : decode cX5_init 9 = .ok (.putfield 9, 3) := by decide +kernel
theorem dX5_init_12 : decode cX5_init 12 = .ok (.aload_n 0, 1) := by decide +kernel
theorem dX5_init_13 : decode cX5_init 13 = .ok (.iconst (-1), 1) := by decide +kernel
theorem dX5_init_14 : decode cX5_init 14 = .ok (.putfield 13, 3) := by decide +kernel
theorem dX5_init_17 : decode cX5_init 17 = .ok (.aload_n 0, 1) := by decide +kernel
theorem dX5_init_18 : decode cX5_init 18 = .ok (.iconst 0, 1) := by decide +kernel
theorem dX5_init_19 : decode cX5_init 19 = .ok (.putfield 17, 3) := by decide +kernel
theorem dX5_init_22 : decode cX5_init 22 = .ok (.return_, 1) := by decide +kernel
theorem dX6_init_0 : decode cX6_init 0 = .ok (.aload_n 0, 1) := by decide +kernel
theorem dX6_init_1 : decode cX6_init 1 = .ok (.invokespecial 1, 3) := by decide +kernel
theorem dX6_init_4 : decode cX6_init 4 = .ok (.aload_n 0, 1) := by decide +kernel
theorem dX6_init_5 : decode cX6_init 5 = .ok (.bipush 20, 2) := by decide +kernel
theorem dX6_init_7 : decode cX6_init 7 = .ok (.newarray .int, 2) := by decide +kernel
theorem dX6_init_9 : decode cX6_init 9 = .ok (.putfield 9, 3) := by decide +kernel
theorem dX6_init_12 : decode cX6_init 12 = .ok (.aload_n 0, 1) := by decide +kernel
theorem dX6_init_13 : decode cX6_init 13 = .ok (.bipush 20, 2) := by decide +kernel
theorem dX6_init_15 : decode cX6_init 15 = .ok (.newarray .int, 2) := by decide +kernel
theorem dX6_init_17 : decode cX6_init 17 = .ok (.putfield 13, 3) := by decide +kernel
theorem dX6_init_20 : decode cX6_init 20 = .ok (.aload_n 0, 1) := by decide +kernel
theorem dX6_init_21 : decode cX6_init 21 = .ok (.bipush 20, 2) := by decide +kernel
theorem dX6_init_23 : decode cX6_init 23 = .ok (.newarray .int, 2) := by decide +kernel
theorem dX6_init_25 : decode cX6_init 25 = .ok (.putfield 16, 3) := by decide +kernel
theorem dX6_init_28 : decode cX6_init 28 = .ok (.aload_n 0, 1) := by decide +kernel
theorem dX6_init_29 : decode cX6_init 29 = .ok (.iconst 0, 1) := by decide +kernel
theorem dX6_init_30 : decode cX6_init 30 = .ok (.putfield 19, 3) := by decide +kernel
theorem dX6_init_33 : decode cX6_init 33 = .ok (.return_, 1) := by decide +kernel
theorem dX7_same_0 : decode cX7_same 0 = .ok (.aload_n 0, 1) := by decide +kernel
theorem dX7_same_1 : decode cX7_same 1 = .ok (.iconst 0, 1) := by decide +kernel
theorem dX7_same_2 : decode cX7_same 2 = .ok (.invokestatic 7, 3) := by decide +kernel
theorem dX7_same_5 : decode cX7_same 5 = .ok (.istore_n 2, 1) := by decide +kernel
theorem dX7_same_6 : decode cX7_same 6 = .ok (.aload_n 0, 1) := by decide +kernel
theorem dX7_same_7 : decode cX7_same 7 = .ok (.iconst 1, 1) := by decide +kernel
theorem dX7_same_8 : decode cX7_same 8 = .ok (.invokestatic 7, 3) := by decide +kernel
theorem dX7_same_11 : decode cX7_same 11 = .ok (.istore_n 3, 1) := by decide +kernel
theorem dX7_same_12 : decode cX7_same 12 = .ok (.aload_n 0, 1) := by decide +kernel
theorem dX7_same_13 : decode cX7_same 13 = .ok (.iconst 2, 1) := by decide +kernel
theorem dX7_same_14 : decode cX7_same 14 = .ok (.invokestatic 7, 3) := by decide +kernel
theorem dX7_same_17 : decode cX7_same 17 = .ok (.istore 4, 2) := by decide +kernel
theorem dX7_same_19 : decode cX7_same 19 = .ok (.aload_n 1, 1) := by decide +kernel
theorem dX7_same_20 : decode cX7_same 20 = .ok (.iconst 0, 1) := by decide +kernel
theorem dX7_same_21 : decode cX7_same 21 = .ok (.invokestatic 7, 3) := by decide +kernel
theorem dX7_same_24 : decode cX7_same 24 = .ok (.istore 5, 2) := by decide +kernel
theorem dX7_same_26 : decode cX7_same 26 = .ok (.aload_n 1, 1) := by decide +kernel
theorem dX7_same_27 : decode cX7_same 27 = .ok (.iconst 1, 1) := by decide +kernel
theorem dX7_same_28 : decode cX7_same 28 = .ok (.invokestatic 7, 3) := by decide +kernel
theorem dX7_same_31 : decode cX7_same 31 = .ok (.istore 6, 2) := by decide +kernel
theorem dX7_same_33 : decode cX7_same 33 = .ok (.aload_n 1, 1) := by decide +kernel
theorem dX7_same_34 : decode cX7_same 34 = .ok (.iconst 2, 1) := by decide +kernel
theorem dX7_same_35 : decode cX7_same 35 = .ok (.invokestatic 7, 3) := by decide +kernel
theorem dX7_same_38 : decode cX7_same 38 = .ok (.istore 7, 2) := by decide +kernel
theorem dX7_same_40 : decode cX7_same 40 = .ok (.iload_n 2, 1) := by decide +kernel
theorem dX7_same_41 : decode cX7_same 41 = .ok (.iload_n 3, 1) := by decide +kernel
theorem dX7_same_42 : decode cX7_same 42 = .ok (.iload 4, 2) := by decide +kernel
theorem dX7_same_44 : decode cX7_same 44 = .ok (.invokestatic 13, 3) := by decide +kernel
theorem dX7_same_47 : decode cX7_same 47 = .ok (.invokestatic 13, 3) := by decide +kernel
theorem dX7_same_50 : decode cX7_same 50 = .ok (.iload 5, 2) := by decide +kernel
theorem dX7_same_52 : decode cX7_same 52 = .ok (.iload 6, 2) := by decide +kernel
theorem dX7_same_54 : decode cX7_same 54 = .ok (.iload 7, 2) := by decide +kernel
theorem dX7_same_56 : decode cX7_same 56 = .ok (.invokestatic 13, 3) := by decide +kernel
theorem dX7_same_59 : decode cX7_same 59 = .ok (.invokestatic 13, 3) := by decide +kernel
theorem dX7_same_62 : decode cX7_same 62 = .ok (.if_icmp .ne 60, 3) := by decide +kernel
theorem dX7_same_65 : decode cX7_same 65 = .ok (.iload_n 2, 1) := by decide +kernel
theorem dX7_same_66 : decode cX7_same 66 = .ok (.iload_n 3, 1) := by decide +kernel
theorem dX7_same_67 : decode cX7_same 67 = .ok (.iload 4, 2) := by decide +kernel
theorem dX7_same_69 : decode cX7_same 69 = .ok (.invokestatic 19, 3) := by decide +kernel
theorem dX7_same_72 : decode cX7_same 72 = .ok (.invokestatic 19, 3) := by decide +kernel
theorem dX7_same_75 : decode cX7_same 75 = .ok (.iload 5, 2) := by decide +kernel
theorem dX7_same_77 : decode cX7_same 77 = .ok (.iload 6, 2) := by decide +kernel
theorem dX7_same_79 : decode cX7_same 79 = .ok (.iload 7, 2) := by decide +kernel
theorem dX7_same_81 : decode cX7_same 81 = .ok (.invokestatic 19, 3) := by decide +kernel
theorem dX7_same_84 : decode cX7_same 84 = .ok (.invokestatic 19, 3) := by decide +kernel
theorem dX7_same_87 : decode cX7_same 87 = .ok (.if_icmp .ne 35, 3) := by decide +kernel
theorem dX7_same_90 : decode cX7_same 90 = .ok (.iload_n 2, 1) := by decide +kernel
theorem dX7_same_91 : decode cX7_same 91 = .ok (.iload_n 3, 1) := by decide +kernel
theorem dX7_same_92 : decode cX7_same 92 = .ok (.iadd, 1) := by decide +kernel
theorem dX7_same_93 : decode cX7_same 93 = .ok (.iload 4, 2) := by decide +kernel
theorem dX7_same_95 : decode cX7_same 95 = .ok (.iadd, 1) := by decide +kernel
theorem dX7_same_96 : decode cX7_same 96 = .ok (.iload 5, 2) := by decide +kernel
theorem dX7_same_98 : decode cX7_same 98 = .ok (.iload 6, 2) := by decide +kernel
theorem dX7_same_100 : decode cX7_same 100 = .ok (.iadd, 1) := by decide +kernel
theorem dX7_same_101 : decode cX7_same 101 = .ok (.iload 7, 2) := by decide +kernel
theorem dX7_same_103 : decode cX7_same 103 = .ok (.iadd, 1) := by decide +kernel
theorem dX7_same_104 : decode cX7_same 104 = .ok (.if_icmp .ne 18, 3) := by decide +kernel
theorem dX7_same_107 : decode cX7_same 107 = .ok (.aload_n 0, 1) := by decide +kernel
theorem dX7_same_108 : decode cX7_same 108 = .ok (.invokestatic 22, 3) := by decide +kernel
theorem dX7_same_111 : decode cX7_same 111 = .ok (.aload_n 1, 1) := by decide +kernel
theorem dX7_same_112 : decode cX7_same 112 = .ok (.invokestatic 22, 3) := by decide +kernel
theorem dX7_same_115 : decode cX7_same 115 = .ok (.if_icmp .ne 7, 3) := by decide +kernel
theorem dX7_same_118 : decode cX7_same 118 = .ok (.iconst 1, 1) := by decide +kernel
theorem dX7_same_119 : decode cX7_same 119 = .ok (.goto 4, 3) := by decide +kernel
theorem dX7_same_122 : decode cX7_same 122 = .ok (.iconst 0, 1) := by decide +kernel
theorem dX7_same_123 : decode cX7_same 123 = .ok (.ireturn, 1) := by decide +kernel
theorem dX7_rowKey_0 : decode cX7_rowKey 0 = .ok (.iconst 0, 1) := by decide +kernel
theorem dX7_rowKey_1 : decode cX7_rowKey 1 = .ok (.istore_n 2, 1) := by decide +kernel
theorem dX7_rowKey_2 : decode cX7_rowKey 2 = .ok (.iconst 0, 1) := by decide +kernel
theorem dX7_rowKey_3 : decode cX7_rowKey 3 = .ok (.istore_n 3, 1) := by decide +kernel
theorem dX7_rowKey_4 : decode cX7_rowKey 4 = .ok (.iload_n 1, 1) := by decide +kernel
theorem dX7_rowKey_5 : decode cX7_rowKey 5 = .ok (.bipush 9, 2) := by decide +kernel
theorem dX7_rowKey_7 : decode cX7_rowKey 7 = .ok (.imul, 1) := by decide +kernel
theorem dX7_rowKey_8 : decode cX7_rowKey 8 = .ok (.istore 4, 2) := by decide +kernel
theorem dX7_rowKey_10 : decode cX7_rowKey 10 = .ok (.iconst 0, 1) := by decide +kernel
theorem dX7_rowKey_11 : decode cX7_rowKey 11 = .ok (.istore 5, 2) := by decide +kernel
theorem dX7_rowKey_13 : decode cX7_rowKey 13 = .ok (.iload 5, 2) := by decide +kernel
theorem dX7_rowKey_15 : decode cX7_rowKey 15 = .ok (.bipush 9, 2) := by decide +kernel
theorem dX7_rowKey_17 : decode cX7_rowKey 17 = .ok (.if_icmp .ge 38, 3) := by decide +kernel
theorem dX7_rowKey_20 : decode cX7_rowKey 20 = .ok (.iload_n 2, 1) := by decide +kernel
theorem dX7_rowKey_21 : decode cX7_rowKey 21 = .ok (.iconst 5, 1) := by decide +kernel
theorem dX7_rowKey_22 : decode cX7_rowKey 22 = .ok (.imul, 1) := by decide +kernel
theorem dX7_rowKey_23 : decode cX7_rowKey 23 = .ok (.aload_n 0, 1) := by decide +kernel
theorem dX7_rowKey_24 : decode cX7_rowKey 24 = .ok (.iload 4, 2) := by decide +kernel
theorem dX7_rowKey_26 : decode cX7_rowKey 26 = .ok (.iload 5, 2) := by decide +kernel
theorem dX7_rowKey_28 : decode cX7_rowKey 28 = .ok (.iadd, 1) := by decide +kernel
theorem dX7_rowKey_29 : decode cX7_rowKey 29 = .ok (.iaload, 1) := by decide +kernel
theorem dX7_rowKey_30 : decode cX7_rowKey 30 = .ok (.iadd, 1) := by decide +kernel
theorem dX7_rowKey_31 : decode cX7_rowKey 31 = .ok (.istore_n 2, 1) := by decide +kernel
theorem dX7_rowKey_32 : decode cX7_rowKey 32 = .ok (.iload_n 3, 1) := by decide +kernel
theorem dX7_rowKey_33 : decode cX7_rowKey 33 = .ok (.iconst 5, 1) := by decide +kernel
theorem dX7_rowKey_34 : decode cX7_rowKey 34 = .ok (.imul, 1) := by decide +kernel
theorem dX7_rowKey_35 : decode cX7_rowKey 35 = .ok (.aload_n 0, 1) := by decide +kernel
theorem dX7_rowKey_36 : decode cX7_rowKey 36 = .ok (.iload 4, 2) := by decide +kernel
theorem dX7_rowKey_38 : decode cX7_rowKey 38 = .ok (.bipush 9, 2) := by decide +kernel
theorem dX7_rowKey_40 : decode cX7_rowKey 40 = .ok (.iadd, 1) := by decide +kernel
theorem dX7_rowKey_41 : decode cX7_rowKey 41 = .ok (.iconst 1, 1) := by decide +kernel
theorem dX7_rowKey_42 : decode cX7_rowKey 42 = .ok (.isub, 1) := by decide +kernel
theorem dX7_rowKey_43 : decode cX7_rowKey 43 = .ok (.iload 5, 2) := by decide +kernel
theorem dX7_rowKey_45 : decode cX7_rowKey 45 = .ok (.isub, 1) := by decide +kernel
theorem dX7_rowKey_46 : decode cX7_rowKey 46 = .ok (.iaload, 1) := by decide +kernel
theorem dX7_rowKey_47 : decode cX7_rowKey 47 = .ok (.iadd, 1) := by decide +kernel
theorem dX7_rowKey_48 : decode cX7_rowKey 48 = .ok (.istore_n 3, 1) := by decide +kernel
theorem dX7_rowKey_49 : decode cX7_rowKey 49 = .ok (.iinc 5 1, 3) := by decide +kernel
theorem dX7_rowKey_52 : decode cX7_rowKey 52 = .ok (.goto (-39), 3) := by decide +kernel
theorem dX7_rowKey_55 : decode cX7_rowKey 55 = .ok (.iload_n 2, 1) := by decide +kernel
theorem dX7_rowKey_56 : decode cX7_rowKey 56 = .ok (.iload_n 3, 1) := by decide +kernel
theorem dX7_rowKey_57 : decode cX7_rowKey 57 = .ok (.invokestatic 19, 3) := by decide +kernel
theorem dX7_rowKey_60 : decode cX7_rowKey 60 = .ok (.ireturn, 1) := by decide +kernel
theorem dX7_lastRowKey_0 : decode cX7_lastRowKey 0 = .ok (.iconst 0, 1) := by decide +kernel
theorem dX7_lastRowKey_1 : decode cX7_lastRowKey 1 = .ok (.istore_n 1, 1) := by decide +kernel
theorem dX7_lastRowKey_2 : decode cX7_lastRowKey 2 = .ok (.iconst 0, 1) := by decide +kernel
theorem dX7_lastRowKey_3 : decode cX7_lastRowKey 3 = .ok (.istore_n 2, 1) := by decide +kernel
theorem dX7_lastRowKey_4 : decode cX7_lastRowKey 4 = .ok (.iload_n 2, 1) := by decide +kernel
theorem dX7_lastRowKey_5 : decode cX7_lastRowKey 5 = .ok (.bipush 7, 2) := by decide +kernel
theorem dX7_lastRowKey_7 : decode cX7_lastRowKey 7 = .ok (.if_icmp .ge 22, 3) := by decide +kernel
theorem dX7_lastRowKey_10 : decode cX7_lastRowKey 10 = .ok (.iload_n 1, 1) := by decide +kernel
theorem dX7_lastRowKey_11 : decode cX7_lastRowKey 11 = .ok (.iconst 1, 1) := by decide +kernel
theorem dX7_lastRowKey_12 : decode cX7_lastRowKey 12 = .ok (.iconst 3, 1) := by decide +kernel
theorem dX7_lastRowKey_13 : decode cX7_lastRowKey 13 = .ok (.aload_n 0, 1) := by decide +kernel
theorem dX7_lastRowKey_14 : decode cX7_lastRowKey 14 = .ok (.bipush 27, 2) := by decide +kernel
theorem dX7_lastRowKey_16 : decode cX7_lastRowKey 16 = .ok (.iload_n 2, 1) := by decide +kernel
theorem dX7_lastRowKey_17 : decode cX7_lastRowKey 17 = .ok (.iadd, 1) := by decide +kernel
theorem dX7_lastRowKey_18 : decode cX7_lastRowKey 18 = .ok (.iaload, 1) := by decide +kernel
theorem dX7_lastRowKey_19 : decode cX7_lastRowKey 19 = .ok (.imul, 1) := by decide +kernel
theorem dX7_lastRowKey_20 : decode cX7_lastRowKey 20 = .ok (.ishl, 1) := by decide +kernel
theorem dX7_lastRowKey_21 : decode cX7_lastRowKey 21 = .ok (.iadd, 1) := by decide +kernel
theorem dX7_lastRowKey_22 : decode cX7_lastRowKey 22 = .ok (.istore_n 1, 1) := by decide +kernel
theorem dX7_lastRowKey_23 : decode cX7_lastRowKey 23 = .ok (.iinc 2 1, 3) := by decide +kernel
theorem dX7_lastRowKey_26 : decode cX7_lastRowKey 26 = .ok (.goto (-22), 3) := by decide +kernel
theorem dX7_lastRowKey_29 : decode cX7_lastRowKey 29 = .ok (.iload_n 1, 1) := by decide +kernel
theorem dX7_lastRowKey_30 : decode cX7_lastRowKey 30 = .ok (.ireturn, 1) := by decide +kernel
theorem dX8_isSort_0 : decode cX8_isSort 0 = .ok (.iload_n 0, 1) := by decide +kernel
theorem dX8_isSort_1 : decode cX8_isSort 1 = .ok (.ifCond .lt 13, 3) := by decide +kernel
theorem dX8_isSort_4 : decode cX8_isSort 4 = .ok (.iload_n 0, 1) := by decide +kernel
theorem dX8_isSort_5 : decode cX8_isSort 5 = .ok (.bipush 34, 2) := by decide +kernel
theorem dX8_isSort_7 : decode cX8_isSort 7 = .ok (.if_icmp .ge 7, 3) := by decide +kernel
theorem dX8_isSort_10 : decode cX8_isSort 10 = .ok (.iconst 1, 1) := by decide +kernel
theorem dX8_isSort_11 : decode cX8_isSort 11 = .ok (.goto 4, 3) := by decide +kernel
theorem dX8_isSort_14 : decode cX8_isSort 14 = .ok (.iconst 0, 1) := by decide +kernel
theorem dX8_isSort_15 : decode cX8_isSort 15 = .ok (.ireturn, 1) := by decide +kernel
theorem dX8_rowOf_0 : decode cX8_rowOf 0 = .ok (.iload_n 0, 1) := by decide +kernel
theorem dX8_rowOf_1 : decode cX8_rowOf 1 = .ok (.bipush 9, 2) := by decide +kernel
theorem dX8_rowOf_3 : decode cX8_rowOf 3 = .ok (.idiv, 1) := by decide +kernel
theorem dX8_rowOf_4 : decode cX8_rowOf 4 = .ok (.ireturn, 1) := by decide +kernel
theorem dX8_lengthOf_0 : decode cX8_lengthOf 0 = .ok (.iload_n 0, 1) := by decide +kernel
theorem dX8_lengthOf_1 : decode cX8_lengthOf 1 = .ok (.iconst 3, 1) := by decide +kernel
theorem dX8_lengthOf_2 : decode cX8_lengthOf 2 = .ok (.if_icmp .ge 8, 3) := by decide +kernel
theorem dX8_lengthOf_5 : decode cX8_lengthOf 5 = .ok (.bipush 9, 2) := by decide +kernel
theorem dX8_lengthOf_7 : decode cX8_lengthOf 7 = .ok (.goto 5, 3) := by decide +kernel
theorem dX8_lengthOf_10 : decode cX8_lengthOf 10 = .ok (.bipush 7, 2) := by decide +kernel
theorem dX8_lengthOf_12 : decode cX8_lengthOf 12 = .ok (.ireturn, 1) := by decide +kernel
theorem dX8_startsRun_0 : decode cX8_startsRun 0 = .ok (.iload_n 0, 1) := by decide +kernel
theorem dX8_startsRun_1 : decode cX8_startsRun 1 = .ok (.bipush 27, 2) := by decide +kernel
theorem dX8_startsRun_3 : decode cX8_startsRun 3 = .ok (.if_icmp .ge 16, 3) := by decide +kernel
theorem dX8_startsRun_6 : decode cX8_startsRun 6 = .ok (.iload_n 0, 1) := by decide +kernel
theorem dX8_startsRun_7 : decode cX8_startsRun 7 = .ok (.bipush 9, 2) := by decide +kernel
theorem dX8_startsRun_9 : decode cX8_startsRun 9 = .ok (.irem, 1) := by decide +kernel
theorem dX8_startsRun_10 : decode cX8_startsRun 10 = .ok (.bipush 6, 2) := by decide +kernel
theorem dX8_startsRun_12 : decode cX8_startsRun 12 = .ok (.if_icmp .gt 7, 3) := by decide +kernel
theorem dX8_startsRun_15 : decode cX8_startsRun 15 = .ok (.iconst 1, 1) := by decide +kernel
theorem dX8_startsRun_16 : decode cX8_startsRun 16 = .ok (.goto 4, 3) := by decide +kernel
theorem dX8_startsRun_19 : decode cX8_startsRun 19 = .ok (.iconst 0, 1) := by decide +kernel
theorem dX8_startsRun_20 : decode cX8_startsRun 20 = .ok (.ireturn, 1) := by decide +kernel
theorem dX8_isOuter_0 : decode cX8_isOuter 0 = .ok (.iload_n 0, 1) := by decide +kernel
theorem dX8_isOuter_1 : decode cX8_isOuter 1 = .ok (.bipush 9, 2) := by decide +kernel
theorem dX8_isOuter_3 : decode cX8_isOuter 3 = .ok (.irem, 1) := by decide +kernel
theorem dX8_isOuter_4 : decode cX8_isOuter 4 = .ok (.istore_n 1, 1) := by decide +kernel
theorem dX8_isOuter_5 : decode cX8_isOuter 5 = .ok (.iload_n 0, 1) := by decide +kernel
theorem dX8_isOuter_6 : decode cX8_isOuter 6 = .ok (.bipush 27, 2) := by decide +kernel
theorem dX8_isOuter_8 : decode cX8_isOuter 8 = .ok (.if_icmp .ge 13, 3) := by decide +kernel
theorem dX8_isOuter_11 : decode cX8_isOuter 11 = .ok (.iload_n 1, 1) := by decide +kernel
theorem dX8_isOuter_12 : decode cX8_isOuter 12 = .ok (.ifCond .eq 9, 3) := by decide +kernel
theorem dX8_isOuter_15 : decode cX8_isOuter 15 = .ok (.iload_n 1, 1) := by decide +kernel
theorem dX8_isOuter_16 : decode cX8_isOuter 16 = .ok (.bipush 8, 2) := by decide +kernel
theorem dX8_isOuter_18 : decode cX8_isOuter 18 = .ok (.if_icmp .ne 7, 3) := by decide +kernel
theorem dX8_isOuter_21 : decode cX8_isOuter 21 = .ok (.iconst 1, 1) := by decide +kernel
theorem dX8_isOuter_22 : decode cX8_isOuter 22 = .ok (.goto 4, 3) := by decide +kernel
theorem dX8_isOuter_25 : decode cX8_isOuter 25 = .ok (.iconst 0, 1) := by decide +kernel
theorem dX8_isOuter_26 : decode cX8_isOuter 26 = .ok (.ireturn, 1) := by decide +kernel
theorem dX8_sum_0 : decode cX8_sum 0 = .ok (.iconst 0, 1) := by decide +kernel
theorem dX8_sum_1 : decode cX8_sum 1 = .ok (.istore_n 1, 1) := by decide +kernel
theorem dX8_sum_2 : decode cX8_sum 2 = .ok (.aload_n 0, 1) := by decide +kernel
theorem dX8_sum_3 : decode cX8_sum 3 = .ok (.astore_n 2, 1) := by decide +kernel
theorem dX8_sum_4 : decode cX8_sum 4 = .ok (.aload_n 2, 1) := by decide +kernel
theorem dX8_sum_5 : decode cX8_sum 5 = .ok (.arraylength, 1) := by decide +kernel
theorem dX8_sum_6 : decode cX8_sum 6 = .ok (.istore_n 3, 1) := by decide +kernel
theorem dX8_sum_7 : decode cX8_sum 7 = .ok (.iconst 0, 1) := by decide +kernel
theorem dX8_sum_8 : decode cX8_sum 8 = .ok (.istore 4, 2) := by decide +kernel
theorem dX8_sum_10 : decode cX8_sum 10 = .ok (.iload 4, 2) := by decide +kernel
theorem dX8_sum_12 : decode cX8_sum 12 = .ok (.iload_n 3, 1) := by decide +kernel
theorem dX8_sum_13 : decode cX8_sum 13 = .ok (.if_icmp .ge 20, 3) := by decide +kernel
theorem dX8_sum_16 : decode cX8_sum 16 = .ok (.aload_n 2, 1) := by decide +kernel
theorem dX8_sum_17 : decode cX8_sum 17 = .ok (.iload 4, 2) := by decide +kernel
theorem dX8_sum_19 : decode cX8_sum 19 = .ok (.iaload, 1) := by decide +kernel
theorem dX8_sum_20 : decode cX8_sum 20 = .ok (.istore 5, 2) := by decide +kernel
theorem dX8_sum_22 : decode cX8_sum 22 = .ok (.iload_n 1, 1) := by decide +kernel
theorem dX8_sum_23 : decode cX8_sum 23 = .ok (.iload 5, 2) := by decide +kernel
theorem dX8_sum_25 : decode cX8_sum 25 = .ok (.iadd, 1) := by decide +kernel
theorem dX8_sum_26 : decode cX8_sum 26 = .ok (.istore_n 1, 1) := by decide +kernel
theorem dX8_sum_27 : decode cX8_sum 27 = .ok (.iinc 4 1, 3) := by decide +kernel
theorem dX8_sum_30 : decode cX8_sum 30 = .ok (.goto (-20), 3) := by decide +kernel
theorem dX8_sum_33 : decode cX8_sum 33 = .ok (.iload_n 1, 1) := by decide +kernel
theorem dX8_sum_34 : decode cX8_sum 34 = .ok (.ireturn, 1) := by decide +kernel
theorem dX9_init_0 : decode cX9_init 0 = .ok (.aload_n 0, 1) := by decide +kernel
theorem dX9_init_1 : decode cX9_init 1 = .ok (.invokespecial 1, 3) := by decide +kernel
theorem dX9_init_4 : decode cX9_init 4 = .ok (.aload_n 0, 1) := by decide +kernel
theorem dX9_init_5 : decode cX9_init 5 = .ok (.bipush 34, 2) := by decide +kernel
theorem dX9_init_7 : decode cX9_init 7 = .ok (.newarray .int, 2) := by decide +kernel
theorem dX9_init_9 : decode cX9_init 9 = .ok (.putfield 9, 3) := by decide +kernel
theorem dX9_init_12 : decode cX9_init 12 = .ok (.aload_n 0, 1) := by decide +kernel
theorem dX9_init_13 : decode cX9_init 13 = .ok (.iconst 5, 1) := by decide +kernel
theorem dX9_init_14 : decode cX9_init 14 = .ok (.newarray .int, 2) := by decide +kernel
theorem dX9_init_16 : decode cX9_init 16 = .ok (.putfield 15, 3) := by decide +kernel
theorem dX9_init_19 : decode cX9_init 19 = .ok (.aload_n 0, 1) := by decide +kernel
theorem dX9_init_20 : decode cX9_init 20 = .ok (.bipush 40, 2) := by decide +kernel
theorem dX9_init_22 : decode cX9_init 22 = .ok (.newarray .int, 2) := by decide +kernel
theorem dX9_init_24 : decode cX9_init 24 = .ok (.putfield 18, 3) := by decide +kernel
theorem dX9_init_27 : decode cX9_init 27 = .ok (.aload_n 0, 1) := by decide +kernel
theorem dX9_init_28 : decode cX9_init 28 = .ok (.iconst 0, 1) := by decide +kernel
theorem dX9_init_29 : decode cX9_init 29 = .ok (.putfield 21, 3) := by decide +kernel
theorem dX9_init_32 : decode cX9_init 32 = .ok (.aload_n 0, 1) := by decide +kernel
theorem dX9_init_33 : decode cX9_init 33 = .ok (.iconst 0, 1) := by decide +kernel
theorem dX9_init_34 : decode cX9_init 34 = .ok (.putfield 25, 3) := by decide +kernel
theorem dX9_init_37 : decode cX9_init 37 = .ok (.return_, 1) := by decide +kernel
theorem dX9_find_0 : decode cX9_find 0 = .ok (.aload_n 0, 1) := by decide +kernel
theorem dX9_find_1 : decode cX9_find 1 = .ok (.iconst 0, 1) := by decide +kernel
theorem dX9_find_2 : decode cX9_find 2 = .ok (.putfield 25, 3) := by decide +kernel
theorem dX9_find_5 : decode cX9_find 5 = .ok (.aload_n 0, 1) := by decide +kernel
theorem dX9_find_6 : decode cX9_find 6 = .ok (.iconst 4, 1) := by decide +kernel
theorem dX9_find_7 : decode cX9_find 7 = .ok (.aload_n 1, 1) := by decide +kernel
theorem dX9_find_8 : decode cX9_find 8 = .ok (.getfield 30, 3) := by decide +kernel
theorem dX9_find_11 : decode cX9_find 11 = .ok (.isub, 1) := by decide +kernel
theorem dX9_find_12 : decode cX9_find 12 = .ok (.putfield 21, 3) := by decide +kernel
theorem dX9_find_15 : decode cX9_find 15 = .ok (.aload_n 1, 1) := by decide +kernel
theorem dX9_find_16 : decode cX9_find 16 = .ok (.getfield 33, 3) := by decide +kernel
theorem dX9_find_19 : decode cX9_find 19 = .ok (.iconst 0, 1) := by decide +kernel
theorem dX9_find_20 : decode cX9_find 20 = .ok (.aload_n 0, 1) := by decide +kernel
theorem dX9_find_21 : decode cX9_find 21 = .ok (.getfield 9, 3) := by decide +kernel
theorem dX9_find_24 : decode cX9_find 24 = .ok (.iconst 0, 1) := by decide +kernel
theorem dX9_find_25 : decode cX9_find 25 = .ok (.bipush 34, 2) := by decide +kernel
theorem dX9_find_27 : decode cX9_find 27 = .ok (.invokestatic 36, 3) := by decide +kernel
theorem dX9_find_30 : decode cX9_find 30 = .ok (.iconst 0, 1) := by decide +kernel
theorem dX9_find_31 : decode cX9_find 31 = .ok (.istore_n 2, 1) := by decide +kernel
theorem dX9_find_32 : decode cX9_find 32 = .ok (.iload_n 2, 1) := by decide +kernel
theorem dX9_find_33 : decode cX9_find 33 = .ok (.aload_n 1, 1) := by decide +kernel
theorem dX9_find_34 : decode cX9_find 34 = .ok (.getfield 30, 3) := by decide +kernel
theorem dX9_find_37 : decode cX9_find 37 = .ok (.if_icmp .ge 28, 3) := by decide +kernel
theorem dX9_find_40 : decode cX9_find 40 = .ok (.aload_n 0, 1) := by decide +kernel
theorem dX9_find_41 : decode cX9_find 41 = .ok (.getfield 15, 3) := by decide +kernel
theorem dX9_find_44 : decode cX9_find 44 = .ok (.iconst 1, 1) := by decide +kernel
theorem dX9_find_45 : decode cX9_find 45 = .ok (.aload_n 0, 1) := by decide +kernel
theorem dX9_find_46 : decode cX9_find 46 = .ok (.getfield 21, 3) := by decide +kernel
theorem dX9_find_49 : decode cX9_find 49 = .ok (.iadd, 1) := by decide +kernel
theorem dX9_find_50 : decode cX9_find 50 = .ok (.iload_n 2, 1) := by decide +kernel
theorem dX9_find_51 : decode cX9_find 51 = .ok (.iadd, 1) := by decide +kernel
theorem dX9_find_52 : decode cX9_find 52 = .ok (.aload_n 1, 1) := by decide +kernel
theorem dX9_find_53 : decode cX9_find 53 = .ok (.getfield 42, 3) := by decide +kernel
theorem dX9_find_56 : decode cX9_find 56 = .ok (.iload_n 2, 1) := by decide +kernel
theorem dX9_find_57 : decode cX9_find 57 = .ok (.iaload, 1) := by decide +kernel
theorem dX9_find_58 : decode cX9_find 58 = .ok (.iastore, 1) := by decide +kernel
theorem dX9_find_59 : decode cX9_find 59 = .ok (.iinc 2 1, 3) := by decide +kernel
theorem dX9_find_62 : decode cX9_find 62 = .ok (.goto (-30), 3) := by decide +kernel
theorem dX9_find_65 : decode cX9_find 65 = .ok (.iconst 0, 1) := by decide +kernel
theorem dX9_find_66 : decode cX9_find 66 = .ok (.istore_n 2, 1) := by decide +kernel
theorem dX9_find_67 : decode cX9_find 67 = .ok (.iload_n 2, 1) := by decide +kernel
theorem dX9_find_68 : decode cX9_find 68 = .ok (.bipush 34, 2) := by decide +kernel
theorem dX9_find_70 : decode cX9_find 70 = .ok (.if_icmp .ge 57, 3) := by decide +kernel
theorem dX9_find_73 : decode cX9_find 73 = .ok (.aload_n 0, 1) := by decide +kernel
theorem dX9_find_74 : decode cX9_find 74 = .ok (.getfield 9, 3) := by decide +kernel
theorem dX9_find_77 : decode cX9_find 77 = .ok (.iload_n 2, 1) := by decide +kernel
theorem dX9_find_78 : decode cX9_find 78 = .ok (.iaload, 1) := by decide +kernel
theorem dX9_find_79 : decode cX9_find 79 = .ok (.iconst 2, 1) := by decide +kernel
theorem dX9_find_80 : decode cX9_find 80 = .ok (.if_icmp .lt 41, 3) := by decide +kernel
theorem dX9_find_83 : decode cX9_find 83 = .ok (.aload_n 0, 1) := by decide +kernel
theorem dX9_find_84 : decode cX9_find 84 = .ok (.getfield 9, 3) := by decide +kernel
theorem dX9_find_87 : decode cX9_find 87 = .ok (.iload_n 2, 1) := by decide +kernel
theorem dX9_find_88 : decode cX9_find 88 = .ok (.dup2, 1) := by decide +kernel
theorem dX9_find_89 : decode cX9_find 89 = .ok (.iaload, 1) := by decide +kernel
theorem dX9_find_90 : decode cX9_find 90 = .ok (.iconst 2, 1) := by decide +kernel
theorem dX9_find_91 : decode cX9_find 91 = .ok (.isub, 1) := by decide +kernel
theorem dX9_find_92 : decode cX9_find 92 = .ok (.iastore, 1) := by decide +kernel
theorem dX9_find_93 : decode cX9_find 93 = .ok (.aload_n 0, 1) := by decide +kernel
theorem dX9_find_94 : decode cX9_find 94 = .ok (.getfield 15, 3) := by decide +kernel
theorem dX9_find_97 : decode cX9_find 97 = .ok (.iconst 0, 1) := by decide +kernel
theorem dX9_find_98 : decode cX9_find 98 = .ok (.iconst 0, 1) := by decide +kernel
theorem dX9_find_99 : decode cX9_find 99 = .ok (.iload_n 2, 1) := by decide +kernel
theorem dX9_find_100 : decode cX9_find 100 = .ok (.invokestatic 45, 3) := by decide +kernel
theorem dX9_find_103 : decode cX9_find 103 = .ok (.iastore, 1) := by decide +kernel
theorem dX9_find_104 : decode cX9_find 104 = .ok (.aload_n 0, 1) := by decide +kernel
theorem dX9_find_105 : decode cX9_find 105 = .ok (.iconst 1, 1) := by decide +kernel
theorem dX9_find_106 : decode cX9_find 106 = .ok (.iconst 0, 1) := by decide +kernel
theorem dX9_find_107 : decode cX9_find 107 = .ok (.iconst (-1), 1) := by decide +kernel
theorem dX9_find_108 : decode cX9_find 108 = .ok (.invokestatic 49, 3) := by decide +kernel
theorem dX9_find_111 : decode cX9_find 111 = .ok (.aload_n 0, 1) := by decide +kernel
theorem dX9_find_112 : decode cX9_find 112 = .ok (.getfield 9, 3) := by decide +kernel
theorem dX9_find_115 : decode cX9_find 115 = .ok (.iload_n 2, 1) := by decide +kernel
theorem dX9_find_116 : decode cX9_find 116 = .ok (.dup2, 1) := by decide +kernel
theorem dX9_find_117 : decode cX9_find 117 = .ok (.iaload, 1) := by decide +kernel
theorem dX9_find_118 : decode cX9_find 118 = .ok (.iconst 2, 1) := by decide +kernel
theorem dX9_find_119 : decode cX9_find 119 = .ok (.iadd, 1) := by decide +kernel
theorem dX9_find_120 : decode cX9_find 120 = .ok (.iastore, 1) := by decide +kernel
theorem dX9_find_121 : decode cX9_find 121 = .ok (.iinc 2 1, 3) := by decide +kernel
theorem dX9_find_124 : decode cX9_find 124 = .ok (.goto (-57), 3) := by decide +kernel
theorem dX9_find_127 : decode cX9_find 127 = .ok (.return_, 1) := by decide +kernel
theorem dX9_seek_0 : decode cX9_seek 0 = .ok (.iload_n 1, 1) := by decide +kernel
theorem dX9_seek_1 : decode cX9_seek 1 = .ok (.aload_n 0, 1) := by decide +kernel
theorem dX9_seek_2 : decode cX9_seek 2 = .ok (.getfield 21, 3) := by decide +kernel
theorem dX9_seek_5 : decode cX9_seek 5 = .ok (.if_icmp .le 8, 3) := by decide +kernel
theorem dX9_seek_8 : decode cX9_seek 8 = .ok (.aload_n 0, 1) := by decide +kernel
theorem dX9_seek_9 : decode cX9_seek 9 = .ok (.invokevirtual 53, 3) := by decide +kernel
theorem dX9_seek_12 : decode cX9_seek 12 = .ok (.return_, 1) := by decide +kernel
theorem dX9_seek_13 : decode cX9_seek 13 = .ok (.aload_n 0, 1) := by decide +kernel
theorem dX9_seek_14 : decode cX9_seek 14 = .ok (.getfield 9, 3) := by decide +kernel
theorem dX9_seek_17 : decode cX9_seek 17 = .ok (.astore 4, 2) := by decide +kernel
theorem dX9_seek_19 : decode cX9_seek 19 = .ok (.iload_n 2, 1) := by decide +kernel
theorem dX9_seek_20 : decode cX9_seek 20 = .ok (.istore 5, 2) := by decide +kernel
theorem dX9_seek_22 : decode cX9_seek 22 = .ok (.iload 5, 2) := by decide +kernel
theorem dX9_seek_24 : decode cX9_seek 24 = .ok (.bipush 34, 2) := by decide +kernel
theorem dX9_seek_26 : decode cX9_seek 26 = .ok (.if_icmp .ge 17, 3) := by decide +kernel
theorem dX9_seek_29 : decode cX9_seek 29 = .ok (.aload 4, 2) := by decide +kernel
theorem dX9_seek_31 : decode cX9_seek 31 = .ok (.iload 5, 2) := by decide +kernel
theorem dX9_seek_33 : decode cX9_seek 33 = .ok (.iaload, 1) := by decide +kernel
theorem dX9_seek_34 : decode cX9_seek 34 = .ok (.ifCond .ne 9, 3) := by decide +kernel
theorem dX9_seek_37 : decode cX9_seek 37 = .ok (.iinc 5 1, 3) := by decide +kernel
theorem dX9_seek_40 : decode cX9_seek 40 = .ok (.goto (-18), 3) := by decide +kernel
theorem dX9_seek_43 : decode cX9_seek 43 = .ok (.iload 5, 2) := by decide +kernel
theorem dX9_seek_45 : decode cX9_seek 45 = .ok (.bipush 34, 2) := by decide +kernel
theorem dX9_seek_47 : decode cX9_seek 47 = .ok (.if_icmp .lt 4, 3) := by decide +kernel
theorem dX9_seek_50 : decode cX9_seek 50 = .ok (.return_, 1) := by decide +kernel
theorem dX9_seek_51 : decode cX9_seek 51 = .ok (.aload 4, 2) := by decide +kernel
theorem dX9_seek_53 : decode cX9_seek 53 = .ok (.iload 5, 2) := by decide +kernel
theorem dX9_seek_55 : decode cX9_seek 55 = .ok (.iaload, 1) := by decide +kernel
theorem dX9_seek_56 : decode cX9_seek 56 = .ok (.iconst 3, 1) := by decide +kernel
theorem dX9_seek_57 : decode cX9_seek 57 = .ok (.if_icmp .lt 49, 3) := by decide +kernel
theorem dX9_seek_60 : decode cX9_seek 60 = .ok (.iload 5, 2) := by decide +kernel
theorem dX9_seek_62 : decode cX9_seek 62 = .ok (.iload_n 3, 1) := by decide +kernel
theorem dX9_seek_63 : decode cX9_seek 63 = .ok (.if_icmp .eq 43, 3) := by decide +kernel
theorem dX9_seek_66 : decode cX9_seek 66 = .ok (.aload 4, 2) := by decide +kernel
theorem dX9_seek_68 : decode cX9_seek 68 = .ok (.iload 5, 2) := by decide +kernel
theorem dX9_seek_70 : decode cX9_seek 70 = .ok (.dup2, 1) := by decide +kernel
theorem dX9_seek_71 : decode cX9_seek 71 = .ok (.iaload, 1) := by decide +kernel
theorem dX9_seek_72 : decode cX9_seek 72 = .ok (.iconst 3, 1) := by decide +kernel
theorem dX9_seek_73 : decode cX9_seek 73 = .ok (.isub, 1) := by decide +kernel
theorem dX9_seek_74 : decode cX9_seek 74 = .ok (.iastore, 1) := by decide +kernel
theorem dX9_seek_75 : decode cX9_seek 75 = .ok (.aload_n 0, 1) := by decide +kernel
theorem dX9_seek_76 : decode cX9_seek 76 = .ok (.getfield 15, 3) := by decide +kernel
theorem dX9_seek_79 : decode cX9_seek 79 = .ok (.iload_n 1, 1) := by decide +kernel
theorem dX9_seek_80 : decode cX9_seek 80 = .ok (.iconst 2, 1) := by decide +kernel
theorem dX9_seek_81 : decode cX9_seek 81 = .ok (.iload 5, 2) := by decide +kernel
theorem dX9_seek_83 : decode cX9_seek 83 = .ok (.invokestatic 45, 3) := by decide +kernel
theorem dX9_seek_86 : decode cX9_seek 86 = .ok (.iastore, 1) := by decide +kernel
theorem dX9_seek_87 : decode cX9_seek 87 = .ok (.aload_n 0, 1) := by decide +kernel
theorem dX9_seek_88 : decode cX9_seek 88 = .ok (.iload_n 1, 1) := by decide +kernel
theorem dX9_seek_89 : decode cX9_seek 89 = .ok (.iconst 1, 1) := by decide +kernel
theorem dX9_seek_90 : decode cX9_seek 90 = .ok (.iadd, 1) := by decide +kernel
theorem dX9_seek_91 : decode cX9_seek 91 = .ok (.iload 5, 2) := by decide +kernel
theorem dX9_seek_93 : decode cX9_seek 93 = .ok (.iload_n 3, 1) := by decide +kernel
theorem dX9_seek_94 : decode cX9_seek 94 = .ok (.invokestatic 49, 3) := by decide +kernel
theorem dX9_seek_97 : decode cX9_seek 97 = .ok (.aload 4, 2) := by decide +kernel
theorem dX9_seek_99 : decode cX9_seek 99 = .ok (.iload 5, 2) := by decide +kernel
theorem dX9_seek_101 : decode cX9_seek 101 = .ok (.dup2, 1) := by decide +kernel
theorem dX9_seek_102 : decode cX9_seek 102 = .ok (.iaload, 1) := by decide +kernel
theorem dX9_seek_103 : decode cX9_seek 103 = .ok (.iconst 3, 1) := by decide +kernel
theorem dX9_seek_104 : decode cX9_seek 104 = .ok (.iadd, 1) := by decide +kernel
theorem dX9_seek_105 : decode cX9_seek 105 = .ok (.iastore, 1) := by decide +kernel
theorem dX9_seek_106 : decode cX9_seek 106 = .ok (.iload 5, 2) := by decide +kernel
theorem dX9_seek_108 : decode cX9_seek 108 = .ok (.invokestatic 56, 3) := by decide +kernel
theorem dX9_seek_111 : decode cX9_seek 111 = .ok (.ifCond .eq 60, 3) := by decide +kernel
theorem dX9_seek_114 : decode cX9_seek 114 = .ok (.aload 4, 2) := by decide +kernel
theorem dX9_seek_116 : decode cX9_seek 116 = .ok (.iload 5, 2) := by decide +kernel
theorem dX9_seek_118 : decode cX9_seek 118 = .ok (.iconst 1, 1) := by decide +kernel
theorem dX9_seek_119 : decode cX9_seek 119 = .ok (.iadd, 1) := by decide +kernel
theorem dX9_seek_120 : decode cX9_seek 120 = .ok (.iaload, 1) := by decide +kernel
theorem dX9_seek_121 : decode cX9_seek 121 = .ok (.ifCond .le 50, 3) := by decide +kernel
theorem dX9_seek_124 : decode cX9_seek 124 = .ok (.aload 4, 2) := by decide +kernel
theorem dX9_seek_126 : decode cX9_seek 126 = .ok (.iload 5, 2) := by decide +kernel
theorem dX9_seek_128 : decode cX9_seek 128 = .ok (.iconst 2, 1) := by decide +kernel
theorem dX9_seek_129 : decode cX9_seek 129 = .ok (.iadd, 1) := by decide +kernel
theorem dX9_seek_130 : decode cX9_seek 130 = .ok (.iaload, 1) := by decide +kernel
theorem dX9_seek_131 : decode cX9_seek 131 = .ok (.ifCond .le 40, 3) := by decide +kernel
theorem dX9_seek_134 : decode cX9_seek 134 = .ok (.aload_n 0, 1) := by decide +kernel
theorem dX9_seek_135 : decode cX9_seek 135 = .ok (.iload 5, 2) := by decide +kernel
theorem dX9_seek_137 : decode cX9_seek 137 = .ok (.iconst (-1), 1) := by decide +kernel
theorem dX9_seek_138 : decode cX9_seek 138 = .ok (.invokevirtual 60, 3) := by decide +kernel
theorem dX9_seek_141 : decode cX9_seek 141 = .ok (.aload_n 0, 1) := by decide +kernel
theorem dX9_seek_142 : decode cX9_seek 142 = .ok (.getfield 15, 3) := by decide +kernel
theorem dX9_seek_145 : decode cX9_seek 145 = .ok (.iload_n 1, 1) := by decide +kernel
theorem dX9_seek_146 : decode cX9_seek 146 = .ok (.iconst 1, 1) := by decide +kernel
theorem dX9_seek_147 : decode cX9_seek 147 = .ok (.iload 5, 2) := by decide +kernel
theorem dX9_seek_149 : decode cX9_seek 149 = .ok (.invokestatic 45, 3) := by decide +kernel
theorem dX9_seek_152 : decode cX9_seek 152 = .ok (.iastore, 1) := by decide +kernel
theorem dX9_seek_153 : decode cX9_seek 153 = .ok (.aload_n 0, 1) := by decide +kernel
theorem dX9_seek_154 : decode cX9_seek 154 = .ok (.iload_n 1, 1) := by decide +kernel
theorem dX9_seek_155 : decode cX9_seek 155 = .ok (.iconst 1, 1) := by decide +kernel
theorem dX9_seek_156 : decode cX9_seek 156 = .ok (.iadd, 1) := by decide +kernel
theorem dX9_seek_157 : decode cX9_seek 157 = .ok (.iload 5, 2) := by decide +kernel
theorem dX9_seek_159 : decode cX9_seek 159 = .ok (.iload 5, 2) := by decide +kernel
theorem dX9_seek_161 : decode cX9_seek 161 = .ok (.invokestatic 49, 3) := by decide +kernel
theorem dX9_seek_164 : decode cX9_seek 164 = .ok (.aload_n 0, 1) := by decide +kernel
theorem dX9_seek_165 : decode cX9_seek 165 = .ok (.iload 5, 2) := by decide +kernel
theorem dX9_seek_167 : decode cX9_seek 167 = .ok (.iconst 1, 1) := by decide +kernel
theorem dX9_seek_168 : decode cX9_seek 168 = .ok (.invokevirtual 60, 3) := by decide +kernel
theorem dX9_seek_171 : decode cX9_seek 171 = .ok (.return_, 1) := by decide +kernel
theorem dX9_shiftRun_0 : decode cX9_shiftRun 0 = .ok (.aload_n 0, 1) := by decide +kernel
theorem dX9_shiftRun_1 : decode cX9_shiftRun 1 = .ok (.getfield 9, 3) := by decide +kernel
theorem dX9_shiftRun_4 : decode cX9_shiftRun 4 = .ok (.iload_n 1, 1) := by decide +kernel
theorem dX9_shiftRun_5 : decode cX9_shiftRun 5 = .ok (.dup2, 1) := by decide +kernel
theorem dX9_shiftRun_6 : decode cX9_shiftRun 6 = .ok (.iaload, 1) := by decide +kernel
theorem dX9_shiftRun_7 : decode cX9_shiftRun 7 = .ok (.iload_n 2, 1) := by decide +kernel
theorem dX9_shiftRun_8 : decode cX9_shiftRun 8 = .ok (.iadd, 1) := by decide +kernel
theorem dX9_shiftRun_9 : decode cX9_shiftRun 9 = .ok (.iastore, 1) := by decide +kernel
theorem dX9_shiftRun_10 : decode cX9_shiftRun 10 = .ok (.aload_n 0, 1) := by decide +kernel
theorem dX9_shiftRun_11 : decode cX9_shiftRun 11 = .ok (.getfield 9, 3) := by decide +kernel
theorem dX9_shiftRun_14 : decode cX9_shiftRun 14 = .ok (.iload_n 1, 1) := by decide +kernel
theorem dX9_shiftRun_15 : decode cX9_shiftRun 15 = .ok (.iconst 1, 1) := by decide +kernel
theorem dX9_shiftRun_16 : decode cX9_shiftRun 16 = .ok (.iadd, 1) := by decide +kernel
theorem dX9_shiftRun_17 : decode cX9_shiftRun 17 = .ok (.dup2, 1) := by decide +kernel
theorem dX9_shiftRun_18 : decode cX9_shiftRun 18 = .ok (.iaload, 1) := by decide +kernel
theorem dX9_shiftRun_19 : decode cX9_shiftRun 19 = .ok (.iload_n 2, 1) := by decide +kernel
theorem dX9_shiftRun_20 : decode cX9_shiftRun 20 = .ok (.iadd, 1) := by decide +kernel
theorem dX9_shiftRun_21 : decode cX9_shiftRun 21 = .ok (.iastore, 1) := by decide +kernel
theorem dX9_shiftRun_22 : decode cX9_shiftRun 22 = .ok (.aload_n 0, 1) := by decide +kernel
theorem dX9_shiftRun_23 : decode cX9_shiftRun 23 = .ok (.getfield 9, 3) := by decide +kernel
theorem dX9_shiftRun_26 : decode cX9_shiftRun 26 = .ok (.iload_n 1, 1) := by decide +kernel
theorem dX9_shiftRun_27 : decode cX9_shiftRun 27 = .ok (.iconst 2, 1) := by decide +kernel
theorem dX9_shiftRun_28 : decode cX9_shiftRun 28 = .ok (.iadd, 1) := by decide +kernel
theorem dX9_shiftRun_29 : decode cX9_shiftRun 29 = .ok (.dup2, 1) := by decide +kernel
theorem dX9_shiftRun_30 : decode cX9_shiftRun 30 = .ok (.iaload, 1) := by decide +kernel
theorem dX9_shiftRun_31 : decode cX9_shiftRun 31 = .ok (.iload_n 2, 1) := by decide +kernel
theorem dX9_shiftRun_32 : decode cX9_shiftRun 32 = .ok (.iadd, 1) := by decide +kernel
theorem dX9_shiftRun_33 : decode cX9_shiftRun 33 = .ok (.iastore, 1) := by decide +kernel
theorem dX9_shiftRun_34 : decode cX9_shiftRun 34 = .ok (.return_, 1) := by decide +kernel
theorem dX9_keepPath_0 : decode cX9_keepPath 0 = .ok (.aload_n 0, 1) := by decide +kernel
theorem dX9_keepPath_1 : decode cX9_keepPath 1 = .ok (.getfield 25, 3) := by decide +kernel
theorem dX9_keepPath_4 : decode cX9_keepPath 4 = .ok (.bipush 8, 2) := by decide +kernel
theorem dX9_keepPath_6 : decode cX9_keepPath 6 = .ok (.if_icmp .ge 32, 3) := by decide +kernel
theorem dX9_keepPath_9 : decode cX9_keepPath 9 = .ok (.aload_n 0, 1) := by decide +kernel
theorem dX9_keepPath_10 : decode cX9_keepPath 10 = .ok (.getfield 15, 3) := by decide +kernel
theorem dX9_keepPath_13 : decode cX9_keepPath 13 = .ok (.iconst 0, 1) := by decide +kernel
theorem dX9_keepPath_14 : decode cX9_keepPath 14 = .ok (.aload_n 0, 1) := by decide +kernel
theorem dX9_keepPath_15 : decode cX9_keepPath 15 = .ok (.getfield 18, 3) := by decide +kernel
theorem dX9_keepPath_18 : decode cX9_keepPath 18 = .ok (.iconst 5, 1) := by decide +kernel
theorem dX9_keepPath_19 : decode cX9_keepPath 19 = .ok (.aload_n 0, 1) := by decide +kernel
theorem dX9_keepPath_20 : decode cX9_keepPath 20 = .ok (.getfield 25, 3) := by decide +kernel
theorem dX9_keepPath_23 : decode cX9_keepPath 23 = .ok (.imul, 1) := by decide +kernel
theorem dX9_keepPath_24 : decode cX9_keepPath 24 = .ok (.iconst 5, 1) := by decide +kernel
theorem dX9_keepPath_25 : decode cX9_keepPath 25 = .ok (.invokestatic 36, 3) := by decide +kernel
theorem dX9_keepPath_28 : decode cX9_keepPath 28 = .ok (.aload_n 0, 1) := by decide +kernel
theorem dX9_keepPath_29 : decode cX9_keepPath 29 = .ok (.dup, 1) := by decide +kernel
theorem dX9_keepPath_30 : decode cX9_keepPath 30 = .ok (.getfield 25, 3) := by decide +kernel
theorem dX9_keepPath_33 : decode cX9_keepPath 33 = .ok (.iconst 1, 1) := by decide +kernel
theorem dX9_keepPath_34 : decode cX9_keepPath 34 = .ok (.iadd, 1) := by decide +kernel
theorem dX9_keepPath_35 : decode cX9_keepPath 35 = .ok (.putfield 25, 3) := by decide +kernel
theorem dX9_keepPath_38 : decode cX9_keepPath 38 = .ok (.return_, 1) := by decide +kernel
theorem dX10_init_0 : decode cX10_init 0 = .ok (.aload_n 0, 1) := by decide +kernel
theorem dX10_init_1 : decode cX10_init 1 = .ok (.invokespecial 3, 3) := by decide +kernel
theorem dX10_init_4 : decode cX10_init 4 = .ok (.aload_n 0, 1) := by decide +kernel
theorem dX10_init_5 : decode cX10_init 5 = .ok (.bipush 6, 2) := by decide +kernel
theorem dX10_init_7 : decode cX10_init 7 = .ok (.anewarray 9, 3) := by decide +kernel
theorem dX10_init_10 : decode cX10_init 10 = .ok (.putfield 11, 3) := by decide +kernel
theorem dX10_init_13 : decode cX10_init 13 = .ok (.aload_n 0, 1) := by decide +kernel
theorem dX10_init_14 : decode cX10_init 14 = .ok (.iconst 4, 1) := by decide +kernel
theorem dX10_init_15 : decode cX10_init 15 = .ok (.anewarray 15, 3) := by decide +kernel
theorem dX10_init_18 : decode cX10_init 18 = .ok (.putfield 17, 3) := by decide +kernel
theorem dX10_init_21 : decode cX10_init 21 = .ok (.aload_n 0, 1) := by decide +kernel
theorem dX10_init_22 : decode cX10_init 22 = .ok (.bipush 34, 2) := by decide +kernel
theorem dX10_init_24 : decode cX10_init 24 = .ok (.newarray .int, 2) := by decide +kernel
theorem dX10_init_26 : decode cX10_init 26 = .ok (.putfield 23, 3) := by decide +kernel
theorem dX10_init_29 : decode cX10_init 29 = .ok (.aload_n 0, 1) := by decide +kernel
theorem dX10_init_30 : decode cX10_init 30 = .ok (.bipush 34, 2) := by decide +kernel
theorem dX10_init_32 : decode cX10_init 32 = .ok (.newarray .int, 2) := by decide +kernel
theorem dX10_init_34 : decode cX10_init 34 = .ok (.putfield 27, 3) := by decide +kernel
theorem dX10_init_37 : decode cX10_init 37 = .ok (.aload_n 0, 1) := by decide +kernel
theorem dX10_init_38 : decode cX10_init 38 = .ok (.bipush 34, 2) := by decide +kernel
theorem dX10_init_40 : decode cX10_init 40 = .ok (.newarray .int, 2) := by decide +kernel
theorem dX10_init_42 : decode cX10_init 42 = .ok (.putfield 30, 3) := by decide +kernel
theorem dX10_init_45 : decode cX10_init 45 = .ok (.aload_n 0, 1) := by decide +kernel
theorem dX10_init_46 : decode cX10_init 46 = .ok (.new 33, 3) := by decide +kernel
theorem dX10_init_49 : decode cX10_init 49 = .ok (.dup, 1) := by decide +kernel
theorem dX10_init_50 : decode cX10_init 50 = .ok (.invokespecial 35, 3) := by decide +kernel
theorem dX10_init_53 : decode cX10_init 53 = .ok (.putfield 36, 3) := by decide +kernel
theorem dX10_init_56 : decode cX10_init 56 = .ok (.aload_n 0, 1) := by decide +kernel
theorem dX10_init_57 : decode cX10_init 57 = .ok (.new 40, 3) := by decide +kernel
theorem dX10_init_60 : decode cX10_init 60 = .ok (.dup, 1) := by decide +kernel
theorem dX10_init_61 : decode cX10_init 61 = .ok (.aload_n 0, 1) := by decide +kernel
theorem dX10_init_62 : decode cX10_init 62 = .ok (.getfield 36, 3) := by decide +kernel
theorem dX10_init_65 : decode cX10_init 65 = .ok (.invokespecial 42, 3) := by decide +kernel
theorem dX10_init_68 : decode cX10_init 68 = .ok (.putfield 45, 3) := by decide +kernel
theorem dX10_init_71 : decode cX10_init 71 = .ok (.aload_n 0, 1) := by decide +kernel
theorem dX10_init_72 : decode cX10_init 72 = .ok (.new 49, 3) := by decide +kernel
theorem dX10_init_75 : decode cX10_init 75 = .ok (.dup, 1) := by decide +kernel
theorem dX10_init_76 : decode cX10_init 76 = .ok (.aload_n 0, 1) := by decide +kernel
theorem dX10_init_77 : decode cX10_init 77 = .ok (.getfield 36, 3) := by decide +kernel
theorem dX10_init_80 : decode cX10_init 80 = .ok (.invokespecial 51, 3) := by decide +kernel
theorem dX10_init_83 : decode cX10_init 83 = .ok (.putfield 52, 3) := by decide +kernel
theorem dX10_init_86 : decode cX10_init 86 = .ok (.aload_n 0, 1) := by decide +kernel
theorem dX10_init_87 : decode cX10_init 87 = .ok (.iconst 1, 1) := by decide +kernel
theorem dX10_init_88 : decode cX10_init 88 = .ok (.putfield 56, 3) := by decide +kernel
theorem dX10_init_91 : decode cX10_init 91 = .ok (.iconst 0, 1) := by decide +kernel
theorem dX10_init_92 : decode cX10_init 92 = .ok (.istore_n 1, 1) := by decide +kernel
theorem dX10_init_93 : decode cX10_init 93 = .ok (.iload_n 1, 1) := by decide +kernel
theorem dX10_init_94 : decode cX10_init 94 = .ok (.bipush 6, 2) := by decide +kernel
theorem dX10_init_96 : decode cX10_init 96 = .ok (.if_icmp .ge 22, 3) := by decide +kernel
theorem dX10_init_99 : decode cX10_init 99 = .ok (.aload_n 0, 1) := by decide +kernel
theorem dX10_init_100 : decode cX10_init 100 = .ok (.getfield 11, 3) := by decide +kernel
theorem dX10_init_103 : decode cX10_init 103 = .ok (.iload_n 1, 1) := by decide +kernel
theorem dX10_init_104 : decode cX10_init 104 = .ok (.new 9, 3) := by decide +kernel
theorem dX10_init_107 : decode cX10_init 107 = .ok (.dup, 1) := by decide +kernel
theorem dX10_init_108 : decode cX10_init 108 = .ok (.invokespecial 60, 3) := by decide +kernel
theorem dX10_init_111 : decode cX10_init 111 = .ok (.aastore, 1) := by decide +kernel
theorem dX10_init_112 : decode cX10_init 112 = .ok (.iinc 1 1, 3) := by decide +kernel
theorem dX10_init_115 : decode cX10_init 115 = .ok (.goto (-22), 3) := by decide +kernel
theorem dX10_init_118 : decode cX10_init 118 = .ok (.iconst 0, 1) := by decide +kernel
theorem dX10_init_119 : decode cX10_init 119 = .ok (.istore_n 1, 1) := by decide +kernel
theorem dX10_init_120 : decode cX10_init 120 = .ok (.iload_n 1, 1) := by decide +kernel
theorem dX10_init_121 : decode cX10_init 121 = .ok (.iconst 4, 1) := by decide +kernel
theorem dX10_init_122 : decode cX10_init 122 = .ok (.if_icmp .ge 22, 3) := by decide +kernel
theorem dX10_init_125 : decode cX10_init 125 = .ok (.aload_n 0, 1) := by decide +kernel
theorem dX10_init_126 : decode cX10_init 126 = .ok (.getfield 17, 3) := by decide +kernel
theorem dX10_init_129 : decode cX10_init 129 = .ok (.iload_n 1, 1) := by decide +kernel
theorem dX10_init_130 : decode cX10_init 130 = .ok (.new 15, 3) := by decide +kernel
theorem dX10_init_133 : decode cX10_init 133 = .ok (.dup, 1) := by decide +kernel
theorem dX10_init_134 : decode cX10_init 134 = .ok (.invokespecial 61, 3) := by decide +kernel
theorem dX10_init_137 : decode cX10_init 137 = .ok (.aastore, 1) := by decide +kernel
theorem dX10_init_138 : decode cX10_init 138 = .ok (.iinc 1 1, 3) := by decide +kernel
theorem dX10_init_141 : decode cX10_init 141 = .ok (.goto (-21), 3) := by decide +kernel
theorem dX10_init_144 : decode cX10_init 144 = .ok (.aload_n 0, 1) := by decide +kernel
theorem dX10_init_145 : decode cX10_init 145 = .ok (.getfield 23, 3) := by decide +kernel
theorem dX10_init_148 : decode cX10_init 148 = .ok (.iconst 4, 1) := by decide +kernel
theorem dX10_init_149 : decode cX10_init 149 = .ok (.invokestatic 62, 3) := by decide +kernel
theorem dX10_init_152 : decode cX10_init 152 = .ok (.return_, 1) := by decide +kernel
theorem dX10_take_0 : decode cX10_take 0 = .ok (.iload_n 1, 1) := by decide +kernel
theorem dX10_take_1 : decode cX10_take 1 = .ok (.invokestatic 103, 3) := by decide +kernel
theorem dX10_take_4 : decode cX10_take 4 = .ok (.ifCond .eq 10, 3) := by decide +kernel
theorem dX10_take_7 : decode cX10_take 7 = .ok (.iload_n 2, 1) := by decide +kernel
theorem dX10_take_8 : decode cX10_take 8 = .ok (.invokestatic 114, 3) := by decide +kernel
theorem dX10_take_11 : decode cX10_take 11 = .ok (.ifCond .ne 5, 3) := by decide +kernel
theorem dX10_take_14 : decode cX10_take 14 = .ok (.iconst (-1), 1) := by decide +kernel
theorem dX10_take_15 : decode cX10_take 15 = .ok (.ireturn, 1) := by decide +kernel
theorem dX10_take_16 : decode cX10_take 16 = .ok (.aload_n 0, 1) := by decide +kernel
theorem dX10_take_17 : decode cX10_take 17 = .ok (.getfield 17, 3) := by decide +kernel
theorem dX10_take_20 : decode cX10_take 20 = .ok (.iload_n 1, 1) := by decide +kernel
theorem dX10_take_21 : decode cX10_take 21 = .ok (.aaload, 1) := by decide +kernel
theorem dX10_take_22 : decode cX10_take 22 = .ok (.invokevirtual 117, 3) := by decide +kernel
theorem dX10_take_25 : decode cX10_take 25 = .ok (.ifCond .eq 6, 3) := by decide +kernel
theorem dX10_take_28 : decode cX10_take 28 = .ok (.bipush (-2), 2) := by decide +kernel
theorem dX10_take_30 : decode cX10_take 30 = .ok (.ireturn, 1) := by decide +kernel
theorem dX10_take_31 : decode cX10_take 31 = .ok (.aload_n 0, 1) := by decide +kernel
theorem dX10_take_32 : decode cX10_take 32 = .ok (.getfield 23, 3) := by decide +kernel
theorem dX10_take_35 : decode cX10_take 35 = .ok (.iload_n 2, 1) := by decide +kernel
theorem dX10_take_36 : decode cX10_take 36 = .ok (.iaload, 1) := by decide +kernel
theorem dX10_take_37 : decode cX10_take 37 = .ok (.ifCond .ne 6, 3) := by decide +kernel
theorem dX10_take_40 : decode cX10_take 40 = .ok (.bipush (-16), 2) := by decide +kernel
theorem dX10_take_42 : decode cX10_take 42 = .ok (.ireturn, 1) := by decide +kernel
theorem dX10_take_43 : decode cX10_take 43 = .ok (.aload_n 0, 1) := by decide +kernel
theorem dX10_take_44 : decode cX10_take 44 = .ok (.getfield 23, 3) := by decide +kernel
theorem dX10_take_47 : decode cX10_take 47 = .ok (.iload_n 2, 1) := by decide +kernel
theorem dX10_take_48 : decode cX10_take 48 = .ok (.dup2, 1) := by decide +kernel
theorem dX10_take_49 : decode cX10_take 49 = .ok (.iaload, 1) := by decide +kernel
theorem dX10_take_50 : decode cX10_take 50 = .ok (.iconst 1, 1) := by decide +kernel
theorem dX10_take_51 : decode cX10_take 51 = .ok (.isub, 1) := by decide +kernel
theorem dX10_take_52 : decode cX10_take 52 = .ok (.iastore, 1) := by decide +kernel
theorem dX10_take_53 : decode cX10_take 53 = .ok (.aload_n 0, 1) := by decide +kernel
theorem dX10_take_54 : decode cX10_take 54 = .ok (.getfield 17, 3) := by decide +kernel
theorem dX10_take_57 : decode cX10_take 57 = .ok (.iload_n 1, 1) := by decide +kernel
theorem dX10_take_58 : decode cX10_take 58 = .ok (.aaload, 1) := by decide +kernel
theorem dX10_take_59 : decode cX10_take 59 = .ok (.iload_n 2, 1) := by decide +kernel
theorem dX10_take_60 : decode cX10_take 60 = .ok (.invokevirtual 120, 3) := by decide +kernel
theorem dX10_take_63 : decode cX10_take 63 = .ok (.aload_n 0, 1) := by decide +kernel
theorem dX10_take_64 : decode cX10_take 64 = .ok (.getfield 17, 3) := by decide +kernel
theorem dX10_take_67 : decode cX10_take 67 = .ok (.iload_n 1, 1) := by decide +kernel
theorem dX10_take_68 : decode cX10_take 68 = .ok (.aaload, 1) := by decide +kernel
theorem dX10_take_69 : decode cX10_take 69 = .ok (.invokevirtual 106, 3) := by decide +kernel
theorem dX10_take_72 : decode cX10_take 72 = .ok (.ireturn, 1) := by decide +kernel
theorem dX10_seed_0 : decode cX10_seed 0 = .ok (.iload_n 1, 1) := by decide +kernel
theorem dX10_seed_1 : decode cX10_seed 1 = .ok (.ifCond .ge 5, 3) := by decide +kernel
theorem dX10_seed_4 : decode cX10_seed 4 = .ok (.iconst (-1), 1) := by decide +kernel
theorem dX10_seed_5 : decode cX10_seed 5 = .ok (.ireturn, 1) := by decide +kernel
theorem dX10_seed_6 : decode cX10_seed 6 = .ok (.aload_n 0, 1) := by decide +kernel
theorem dX10_seed_7 : decode cX10_seed 7 = .ok (.iload_n 1, 1) := by decide +kernel
theorem dX10_seed_8 : decode cX10_seed 8 = .ok (.putfield 56, 3) := by decide +kernel
theorem dX10_seed_11 : decode cX10_seed 11 = .ok (.iconst 0, 1) := by decide +kernel
theorem dX10_seed_12 : decode cX10_seed 12 = .ok (.ireturn, 1) := by decide +kernel
theorem dX10_draw_0 : decode cX10_draw 0 = .ok (.iload_n 1, 1) := by decide +kernel
theorem dX10_draw_1 : decode cX10_draw 1 = .ok (.invokestatic 103, 3) := by decide +kernel
theorem dX10_draw_4 : decode cX10_draw 4 = .ok (.ifCond .ne 5, 3) := by decide +kernel
theorem dX10_draw_7 : decode cX10_draw 7 = .ok (.iconst (-1), 1) := by decide +kernel
theorem dX10_draw_8 : decode cX10_draw 8 = .ok (.ireturn, 1) := by decide +kernel
theorem dX10_draw_9 : decode cX10_draw 9 = .ok (.aload_n 0, 1) := by decide +kernel
theorem dX10_draw_10 : decode cX10_draw 10 = .ok (.getfield 17, 3) := by decide +kernel
theorem dX10_draw_13 : decode cX10_draw 13 = .ok (.iload_n 1, 1) := by decide +kernel
theorem dX10_draw_14 : decode cX10_draw 14 = .ok (.aaload, 1) := by decide +kernel
theorem dX10_draw_15 : decode cX10_draw 15 = .ok (.invokevirtual 117, 3) := by decide +kernel
theorem dX10_draw_18 : decode cX10_draw 18 = .ok (.ifCond .eq 6, 3) := by decide +kernel
theorem dX10_draw_21 : decode cX10_draw 21 = .ok (.bipush (-2), 2) := by decide +kernel
theorem dX10_draw_23 : decode cX10_draw 23 = .ok (.ireturn, 1) := by decide +kernel
theorem dX10_draw_24 : decode cX10_draw 24 = .ok (.aload_n 0, 1) := by decide +kernel
theorem dX10_draw_25 : decode cX10_draw 25 = .ok (.aload_n 0, 1) := by decide +kernel
theorem dX10_draw_26 : decode cX10_draw 26 = .ok (.getfield 17, 3) := by decide +kernel
theorem dX10_draw_29 : decode cX10_draw 29 = .ok (.iload_n 1, 1) := by decide +kernel
theorem dX10_draw_30 : decode cX10_draw 30 = .ok (.aaload, 1) := by decide +kernel
theorem dX10_draw_31 : decode cX10_draw 31 = .ok (.invokevirtual 124, 3) := by decide +kernel
theorem dX10_draw_34 : decode cX10_draw 34 = .ok (.ireturn, 1) := by decide +kernel
theorem dX10_deal_0 : decode cX10_deal 0 = .ok (.iload_n 1, 1) := by decide +kernel
theorem dX10_deal_1 : decode cX10_deal 1 = .ok (.ifCond .ge 5, 3) := by decide +kernel
theorem dX10_deal_4 : decode cX10_deal 4 = .ok (.iconst (-1), 1) := by decide +kernel
theorem dX10_deal_5 : decode cX10_deal 5 = .ok (.ireturn, 1) := by decide +kernel
theorem dX10_deal_6 : decode cX10_deal 6 = .ok (.aload_n 0, 1) := by decide +kernel
theorem dX10_deal_7 : decode cX10_deal 7 = .ok (.iload_n 1, 1) := by decide +kernel
theorem dX10_deal_8 : decode cX10_deal 8 = .ok (.putfield 56, 3) := by decide +kernel
theorem dX10_deal_11 : decode cX10_deal 11 = .ok (.iconst 0, 1) := by decide +kernel
theorem dX10_deal_12 : decode cX10_deal 12 = .ok (.istore_n 2, 1) := by decide +kernel
theorem dX10_deal_13 : decode cX10_deal 13 = .ok (.iload_n 2, 1) := by decide +kernel
theorem dX10_deal_14 : decode cX10_deal 14 = .ok (.iconst 4, 1) := by decide +kernel
theorem dX10_deal_15 : decode cX10_deal 15 = .ok (.if_icmp .ge 23, 3) := by decide +kernel
theorem dX10_deal_18 : decode cX10_deal 18 = .ok (.aload_n 0, 1) := by decide +kernel
theorem dX10_deal_19 : decode cX10_deal 19 = .ok (.getfield 17, 3) := by decide +kernel
theorem dX10_deal_22 : decode cX10_deal 22 = .ok (.iload_n 2, 1) := by decide +kernel
theorem dX10_deal_23 : decode cX10_deal 23 = .ok (.aaload, 1) := by decide +kernel
theorem dX10_deal_24 : decode cX10_deal 24 = .ok (.aload_n 0, 1) := by decide +kernel
theorem dX10_deal_25 : decode cX10_deal 25 = .ok (.getfield 23, 3) := by decide +kernel
theorem dX10_deal_28 : decode cX10_deal 28 = .ok (.invokevirtual 128, 3) := by decide +kernel
theorem dX10_deal_31 : decode cX10_deal 31 = .ok (.pop, 1) := by decide +kernel
theorem dX10_deal_32 : decode cX10_deal 32 = .ok (.iinc 2 1, 3) := by decide +kernel
theorem dX10_deal_35 : decode cX10_deal 35 = .ok (.goto (-22), 3) := by decide +kernel
theorem dX10_deal_38 : decode cX10_deal 38 = .ok (.aload_n 0, 1) := by decide +kernel
theorem dX10_deal_39 : decode cX10_deal 39 = .ok (.getfield 23, 3) := by decide +kernel
theorem dX10_deal_42 : decode cX10_deal 42 = .ok (.iconst 4, 1) := by decide +kernel
theorem dX10_deal_43 : decode cX10_deal 43 = .ok (.invokestatic 62, 3) := by decide +kernel
theorem dX10_deal_46 : decode cX10_deal 46 = .ok (.aload_n 0, 1) := by decide +kernel
theorem dX10_deal_47 : decode cX10_deal 47 = .ok (.getfield 27, 3) := by decide +kernel
theorem dX10_deal_50 : decode cX10_deal 50 = .ok (.iconst 0, 1) := by decide +kernel
theorem dX10_deal_51 : decode cX10_deal 51 = .ok (.invokestatic 62, 3) := by decide +kernel
theorem dX10_deal_54 : decode cX10_deal 54 = .ok (.iconst 0, 1) := by decide +kernel
theorem dX10_deal_55 : decode cX10_deal 55 = .ok (.istore_n 2, 1) := by decide +kernel
theorem dX10_deal_56 : decode cX10_deal 56 = .ok (.iload_n 2, 1) := by decide +kernel
theorem dX10_deal_57 : decode cX10_deal 57 = .ok (.iconst 4, 1) := by decide +kernel
theorem dX10_deal_58 : decode cX10_deal 58 = .ok (.if_icmp .ge 34, 3) := by decide +kernel
theorem dX10_deal_61 : decode cX10_deal 61 = .ok (.iconst 0, 1) := by decide +kernel
theorem dX10_deal_62 : decode cX10_deal 62 = .ok (.istore_n 3, 1) := by decide +kernel
theorem dX10_deal_63 : decode cX10_deal 63 = .ok (.iload_n 3, 1) := by decide +kernel
theorem dX10_deal_64 : decode cX10_deal 64 = .ok (.bipush 13, 2) := by decide +kernel
theorem dX10_deal_66 : decode cX10_deal 66 = .ok (.if_icmp .ge 20, 3) := by decide +kernel
theorem dX10_deal_69 : decode cX10_deal 69 = .ok (.aload_n 0, 1) := by decide +kernel
theorem dX10_deal_70 : decode cX10_deal 70 = .ok (.aload_n 0, 1) := by decide +kernel
theorem dX10_deal_71 : decode cX10_deal 71 = .ok (.getfield 17, 3) := by decide +kernel
theorem dX10_deal_74 : decode cX10_deal 74 = .ok (.iload_n 2, 1) := by decide +kernel
theorem dX10_deal_75 : decode cX10_deal 75 = .ok (.aaload, 1) := by decide +kernel
theorem dX10_deal_76 : decode cX10_deal 76 = .ok (.invokevirtual 124, 3) := by decide +kernel
theorem dX10_deal_79 : decode cX10_deal 79 = .ok (.pop, 1) := by decide +kernel
theorem dX10_deal_80 : decode cX10_deal 80 = .ok (.iinc 3 1, 3) := by decide +kernel
theorem dX10_deal_83 : decode cX10_deal 83 = .ok (.goto (-20), 3) := by decide +kernel
theorem dX10_deal_86 : decode cX10_deal 86 = .ok (.iinc 2 1, 3) := by decide +kernel
theorem dX10_deal_89 : decode cX10_deal 89 = .ok (.goto (-33), 3) := by decide +kernel
theorem dX10_deal_92 : decode cX10_deal 92 = .ok (.iconst 0, 1) := by decide +kernel
theorem dX10_deal_93 : decode cX10_deal 93 = .ok (.ireturn, 1) := by decide +kernel
theorem dX10_discard_0 : decode cX10_discard 0 = .ok (.iload_n 1, 1) := by decide +kernel
theorem dX10_discard_1 : decode cX10_discard 1 = .ok (.invokestatic 103, 3) := by decide +kernel
theorem dX10_discard_4 : decode cX10_discard 4 = .ok (.ifCond .eq 10, 3) := by decide +kernel
theorem dX10_discard_7 : decode cX10_discard 7 = .ok (.iload_n 2, 1) := by decide +kernel
theorem dX10_discard_8 : decode cX10_discard 8 = .ok (.invokestatic 114, 3) := by decide +kernel
theorem dX10_discard_11 : decode cX10_discard 11 = .ok (.ifCond .ne 5, 3) := by decide +kernel
theorem dX10_discard_14 : decode cX10_discard 14 = .ok (.iconst (-1), 1) := by decide +kernel
theorem dX10_discard_15 : decode cX10_discard 15 = .ok (.ireturn, 1) := by decide +kernel
theorem dX10_discard_16 : decode cX10_discard 16 = .ok (.aload_n 0, 1) := by decide +kernel
theorem dX10_discard_17 : decode cX10_discard 17 = .ok (.getfield 17, 3) := by decide +kernel
theorem dX10_discard_20 : decode cX10_discard 20 = .ok (.iload_n 1, 1) := by decide +kernel
theorem dX10_discard_21 : decode cX10_discard 21 = .ok (.aaload, 1) := by decide +kernel
theorem dX10_discard_22 : decode cX10_discard 22 = .ok (.getfield 132, 3) := by decide +kernel
theorem dX10_discard_25 : decode cX10_discard 25 = .ok (.iload_n 2, 1) := by decide +kernel
theorem dX10_discard_26 : decode cX10_discard 26 = .ok (.iaload, 1) := by decide +kernel
theorem dX10_discard_27 : decode cX10_discard 27 = .ok (.ifCond .ne 6, 3) := by decide +kernel
theorem dX10_discard_30 : decode cX10_discard 30 = .ok (.bipush (-2), 2) := by decide +kernel
theorem dX10_discard_32 : decode cX10_discard 32 = .ok (.ireturn, 1) := by decide +kernel
theorem dX10_discard_33 : decode cX10_discard 33 = .ok (.aload_n 0, 1) := by decide +kernel
theorem dX10_discard_34 : decode cX10_discard 34 = .ok (.getfield 17, 3) := by decide +kernel
theorem dX10_discard_37 : decode cX10_discard 37 = .ok (.iload_n 1, 1) := by decide +kernel
theorem dX10_discard_38 : decode cX10_discard 38 = .ok (.aaload, 1) := by decide +kernel
theorem dX10_discard_39 : decode cX10_discard 39 = .ok (.iload_n 2, 1) := by decide +kernel
theorem dX10_discard_40 : decode cX10_discard 40 = .ok (.invokevirtual 135, 3) := by decide +kernel
theorem dX10_discard_43 : decode cX10_discard 43 = .ok (.aload_n 0, 1) := by decide +kernel
theorem dX10_discard_44 : decode cX10_discard 44 = .ok (.getfield 27, 3) := by decide +kernel
theorem dX10_discard_47 : decode cX10_discard 47 = .ok (.iload_n 2, 1) := by decide +kernel
theorem dX10_discard_48 : decode cX10_discard 48 = .ok (.dup2, 1) := by decide +kernel
theorem dX10_discard_49 : decode cX10_discard 49 = .ok (.iaload, 1) := by decide +kernel
theorem dX10_discard_50 : decode cX10_discard 50 = .ok (.iconst 1, 1) := by decide +kernel
theorem dX10_discard_51 : decode cX10_discard 51 = .ok (.iadd, 1) := by decide +kernel
theorem dX10_discard_52 : decode cX10_discard 52 = .ok (.iastore, 1) := by decide +kernel
theorem dX10_discard_53 : decode cX10_discard 53 = .ok (.aload_n 0, 1) := by decide +kernel
theorem dX10_discard_54 : decode cX10_discard 54 = .ok (.getfield 17, 3) := by decide +kernel
theorem dX10_discard_57 : decode cX10_discard 57 = .ok (.iload_n 1, 1) := by decide +kernel
theorem dX10_discard_58 : decode cX10_discard 58 = .ok (.aaload, 1) := by decide +kernel
theorem dX10_discard_59 : decode cX10_discard 59 = .ok (.invokevirtual 106, 3) := by decide +kernel
theorem dX10_discard_62 : decode cX10_discard 62 = .ok (.ireturn, 1) := by decide +kernel
theorem dX10_open_0 : decode cX10_open 0 = .ok (.iload_n 1, 1) := by decide +kernel
theorem dX10_open_1 : decode cX10_open 1 = .ok (.invokestatic 103, 3) := by decide +kernel
theorem dX10_open_4 : decode cX10_open 4 = .ok (.ifCond .eq 20, 3) := by decide +kernel
theorem dX10_open_7 : decode cX10_open 7 = .ok (.iload_n 3, 1) := by decide +kernel
theorem dX10_open_8 : decode cX10_open 8 = .ok (.invokestatic 114, 3) := by decide +kernel
theorem dX10_open_11 : decode cX10_open 11 = .ok (.ifCond .eq 13, 3) := by decide +kernel
theorem dX10_open_14 : decode cX10_open 14 = .ok (.iload_n 2, 1) := by decide +kernel
theorem dX10_open_15 : decode cX10_open 15 = .ok (.iconst 1, 1) := by decide +kernel
theorem dX10_open_16 : decode cX10_open 16 = .ok (.if_icmp .lt 8, 3) := by decide +kernel
theorem dX10_open_19 : decode cX10_open 19 = .ok (.iload_n 2, 1) := by decide +kernel
theorem dX10_open_20 : decode cX10_open 20 = .ok (.iconst 3, 1) := by decide +kernel
theorem dX10_open_21 : decode cX10_open 21 = .ok (.if_icmp .le 5, 3) := by decide +kernel
theorem dX10_open_24 : decode cX10_open 24 = .ok (.iconst (-1), 1) := by decide +kernel
theorem dX10_open_25 : decode cX10_open 25 = .ok (.ireturn, 1) := by decide +kernel
theorem dX10_open_26 : decode cX10_open 26 = .ok (.iload_n 2, 1) := by decide +kernel
theorem dX10_open_27 : decode cX10_open 27 = .ok (.iconst 1, 1) := by decide +kernel
theorem dX10_open_28 : decode cX10_open 28 = .ok (.if_icmp .ne 12, 3) := by decide +kernel
theorem dX10_open_31 : decode cX10_open 31 = .ok (.iload_n 3, 1) := by decide +kernel
theorem dX10_open_32 : decode cX10_open 32 = .ok (.invokestatic 140, 3) := by decide +kernel
theorem dX10_open_35 : decode cX10_open 35 = .ok (.ifCond .ne 5, 3) := by decide +kernel
theorem dX10_open_38 : decode cX10_open 38 = .ok (.iconst (-1), 1) := by decide +kernel
theorem dX10_open_39 : decode cX10_open 39 = .ok (.ireturn, 1) := by decide +kernel
theorem dX10_open_40 : decode cX10_open 40 = .ok (.aload_n 0, 1) := by decide +kernel
theorem dX10_open_41 : decode cX10_open 41 = .ok (.getfield 17, 3) := by decide +kernel
theorem dX10_open_44 : decode cX10_open 44 = .ok (.iload_n 1, 1) := by decide +kernel
theorem dX10_open_45 : decode cX10_open 45 = .ok (.aaload, 1) := by decide +kernel
theorem dX10_open_46 : decode cX10_open 46 = .ok (.iload_n 2, 1) := by decide +kernel
theorem dX10_open_47 : decode cX10_open 47 = .ok (.iload_n 3, 1) := by decide +kernel
theorem dX10_open_48 : decode cX10_open 48 = .ok (.invokevirtual 143, 3) := by decide +kernel
theorem dX10_open_51 : decode cX10_open 51 = .ok (.ifCond .ne 6, 3) := by decide +kernel
theorem dX10_open_54 : decode cX10_open 54 = .ok (.bipush (-2), 2) := by decide +kernel
theorem dX10_open_56 : decode cX10_open 56 = .ok (.ireturn, 1) := by decide +kernel
theorem dX10_open_57 : decode cX10_open 57 = .ok (.aload_n 0, 1) := by decide +kernel
theorem dX10_open_58 : decode cX10_open 58 = .ok (.getfield 17, 3) := by decide +kernel
theorem dX10_open_61 : decode cX10_open 61 = .ok (.iload_n 1, 1) := by decide +kernel
theorem dX10_open_62 : decode cX10_open 62 = .ok (.aaload, 1) := by decide +kernel
theorem dX10_open_63 : decode cX10_open 63 = .ok (.iload_n 2, 1) := by decide +kernel
theorem dX10_open_64 : decode cX10_open 64 = .ok (.iload_n 3, 1) := by decide +kernel
theorem dX10_open_65 : decode cX10_open 65 = .ok (.invokevirtual 146, 3) := by decide +kernel
theorem dX10_open_68 : decode cX10_open 68 = .ok (.aload_n 0, 1) := by decide +kernel
theorem dX10_open_69 : decode cX10_open 69 = .ok (.getfield 17, 3) := by decide +kernel
theorem dX10_open_72 : decode cX10_open 72 = .ok (.iload_n 1, 1) := by decide +kernel
theorem dX10_open_73 : decode cX10_open 73 = .ok (.aaload, 1) := by decide +kernel
theorem dX10_open_74 : decode cX10_open 74 = .ok (.getfield 149, 3) := by decide +kernel
theorem dX10_open_77 : decode cX10_open 77 = .ok (.ireturn, 1) := by decide +kernel
theorem dX10_clear_0 : decode cX10_clear 0 = .ok (.iload_n 1, 1) := by decide +kernel
theorem dX10_clear_1 : decode cX10_clear 1 = .ok (.invokestatic 103, 3) := by decide +kernel
theorem dX10_clear_4 : decode cX10_clear 4 = .ok (.ifCond .eq 19, 3) := by decide +kernel
theorem dX10_clear_7 : decode cX10_clear 7 = .ok (.aload_n 0, 1) := by decide +kernel
theorem dX10_clear_8 : decode cX10_clear 8 = .ok (.getfield 17, 3) := by decide +kernel
theorem dX10_clear_11 : decode cX10_clear 11 = .ok (.iload_n 1, 1) := by decide +kernel
theorem dX10_clear_12 : decode cX10_clear 12 = .ok (.aaload, 1) := by decide +kernel
theorem dX10_clear_13 : decode cX10_clear 13 = .ok (.aload_n 0, 1) := by decide +kernel
theorem dX10_clear_14 : decode cX10_clear 14 = .ok (.getfield 23, 3) := by decide +kernel
theorem dX10_clear_17 : decode cX10_clear 17 = .ok (.invokevirtual 128, 3) := by decide +kernel
theorem dX10_clear_20 : decode cX10_clear 20 = .ok (.goto 4, 3) := by decide +kernel
theorem dX10_clear_23 : decode cX10_clear 23 = .ok (.iconst (-1), 1) := by decide +kernel
theorem dX10_clear_24 : decode cX10_clear 24 = .ok (.ireturn, 1) := by decide +kernel
theorem dX10_tiles_0 : decode cX10_tiles 0 = .ok (.iload_n 1, 1) := by decide +kernel
theorem dX10_tiles_1 : decode cX10_tiles 1 = .ok (.invokestatic 114, 3) := by decide +kernel
theorem dX10_tiles_4 : decode cX10_tiles 4 = .ok (.ifCond .eq 13, 3) := by decide +kernel
theorem dX10_tiles_7 : decode cX10_tiles 7 = .ok (.iload_n 2, 1) := by decide +kernel
theorem dX10_tiles_8 : decode cX10_tiles 8 = .ok (.ifCond .lt 9, 3) := by decide +kernel
theorem dX10_tiles_11 : decode cX10_tiles 11 = .ok (.iload_n 2, 1) := by decide +kernel
theorem dX10_tiles_12 : decode cX10_tiles 12 = .ok (.bipush 10, 2) := by decide +kernel
theorem dX10_tiles_14 : decode cX10_tiles 14 = .ok (.if_icmp .lt 5, 3) := by decide +kernel
theorem dX10_tiles_17 : decode cX10_tiles 17 = .ok (.iconst (-1), 1) := by decide +kernel
theorem dX10_tiles_18 : decode cX10_tiles 18 = .ok (.ireturn, 1) := by decide +kernel
theorem dX10_tiles_19 : decode cX10_tiles 19 = .ok (.iload_n 2, 1) := by decide +kernel
theorem dX10_tiles_20 : decode cX10_tiles 20 = .ok (.ifCond .ne 10, 3) := by decide +kernel
theorem dX10_tiles_23 : decode cX10_tiles 23 = .ok (.aload_n 0, 1) := by decide +kernel
theorem dX10_tiles_24 : decode cX10_tiles 24 = .ok (.getfield 23, 3) := by decide +kernel
theorem dX10_tiles_27 : decode cX10_tiles 27 = .ok (.iload_n 1, 1) := by decide +kernel
theorem dX10_tiles_28 : decode cX10_tiles 28 = .ok (.iaload, 1) := by decide +kernel
theorem dX10_tiles_29 : decode cX10_tiles 29 = .ok (.ireturn, 1) := by decide +kernel
theorem dX10_tiles_30 : decode cX10_tiles 30 = .ok (.iload_n 2, 1) := by decide +kernel
theorem dX10_tiles_31 : decode cX10_tiles 31 = .ok (.iconst 1, 1) := by decide +kernel
theorem dX10_tiles_32 : decode cX10_tiles 32 = .ok (.if_icmp .ne 10, 3) := by decide +kernel
theorem dX10_tiles_35 : decode cX10_tiles 35 = .ok (.aload_n 0, 1) := by decide +kernel
theorem dX10_tiles_36 : decode cX10_tiles 36 = .ok (.getfield 27, 3) := by decide +kernel
theorem dX10_tiles_39 : decode cX10_tiles 39 = .ok (.iload_n 1, 1) := by decide +kernel
theorem dX10_tiles_40 : decode cX10_tiles 40 = .ok (.iaload, 1) := by decide +kernel
theorem dX10_tiles_41 : decode cX10_tiles 41 = .ok (.ireturn, 1) := by decide +kernel
theorem dX10_tiles_42 : decode cX10_tiles 42 = .ok (.iload_n 2, 1) := by decide +kernel
theorem dX10_tiles_43 : decode cX10_tiles 43 = .ok (.bipush 6, 2) := by decide +kernel
theorem dX10_tiles_45 : decode cX10_tiles 45 = .ok (.if_icmp .ge 19, 3) := by decide +kernel
theorem dX10_tiles_48 : decode cX10_tiles 48 = .ok (.aload_n 0, 1) := by decide +kernel
theorem dX10_tiles_49 : decode cX10_tiles 49 = .ok (.getfield 17, 3) := by decide +kernel
theorem dX10_tiles_52 : decode cX10_tiles 52 = .ok (.iload_n 2, 1) := by decide +kernel
theorem dX10_tiles_53 : decode cX10_tiles 53 = .ok (.iconst 2, 1) := by decide +kernel
theorem dX10_tiles_54 : decode cX10_tiles 54 = .ok (.isub, 1) := by decide +kernel
theorem dX10_tiles_55 : decode cX10_tiles 55 = .ok (.aaload, 1) := by decide +kernel
theorem dX10_tiles_56 : decode cX10_tiles 56 = .ok (.getfield 132, 3) := by decide +kernel
theorem dX10_tiles_59 : decode cX10_tiles 59 = .ok (.iload_n 1, 1) := by decide +kernel
theorem dX10_tiles_60 : decode cX10_tiles 60 = .ok (.iaload, 1) := by decide +kernel
theorem dX10_tiles_61 : decode cX10_tiles 61 = .ok (.goto 17, 3) := by decide +kernel
theorem dX10_tiles_64 : decode cX10_tiles 64 = .ok (.aload_n 0, 1) := by decide +kernel
theorem dX10_tiles_65 : decode cX10_tiles 65 = .ok (.getfield 17, 3) := by decide +kernel
theorem dX10_tiles_68 : decode cX10_tiles 68 = .ok (.iload_n 2, 1) := by decide +kernel
theorem dX10_tiles_69 : decode cX10_tiles 69 = .ok (.bipush 6, 2) := by decide +kernel
theorem dX10_tiles_71 : decode cX10_tiles 71 = .ok (.isub, 1) := by decide +kernel
theorem dX10_tiles_72 : decode cX10_tiles 72 = .ok (.aaload, 1) := by decide +kernel
theorem dX10_tiles_73 : decode cX10_tiles 73 = .ok (.getfield 152, 3) := by decide +kernel
theorem dX10_tiles_76 : decode cX10_tiles 76 = .ok (.iload_n 1, 1) := by decide +kernel
theorem dX10_tiles_77 : decode cX10_tiles 77 = .ok (.iaload, 1) := by decide +kernel
theorem dX10_tiles_78 : decode cX10_tiles 78 = .ok (.ireturn, 1) := by decide +kernel
theorem dX10_about_0 : decode cX10_about 0 = .ok (.iload_n 1, 1) := by decide +kernel
theorem dX10_about_1 : decode cX10_about 1 = .ok (.invokestatic 103, 3) := by decide +kernel
theorem dX10_about_4 : decode cX10_about 4 = .ok (.ifCond .eq 13, 3) := by decide +kernel
theorem dX10_about_7 : decode cX10_about 7 = .ok (.iload_n 2, 1) := by decide +kernel
theorem dX10_about_8 : decode cX10_about 8 = .ok (.ifCond .lt 9, 3) := by decide +kernel
theorem dX10_about_11 : decode cX10_about 11 = .ok (.iload_n 2, 1) := by decide +kernel
theorem dX10_about_12 : decode cX10_about 12 = .ok (.bipush 7, 2) := by decide +kernel
theorem dX10_about_14 : decode cX10_about 14 = .ok (.if_icmp .lt 5, 3) := by decide +kernel
theorem dX10_about_17 : decode cX10_about 17 = .ok (.iconst (-1), 1) := by decide +kernel
theorem dX10_about_18 : decode cX10_about 18 = .ok (.ireturn, 1) := by decide +kernel
theorem dX10_about_19 : decode cX10_about 19 = .ok (.aload_n 0, 1) := by decide +kernel
theorem dX10_about_20 : decode cX10_about 20 = .ok (.getfield 17, 3) := by decide +kernel
theorem dX10_about_23 : decode cX10_about 23 = .ok (.iload_n 1, 1) := by decide +kernel
theorem dX10_about_24 : decode cX10_about 24 = .ok (.aaload, 1) := by decide +kernel
theorem dX10_about_25 : decode cX10_about 25 = .ok (.astore_n 3, 1) := by decide +kernel
theorem dX10_about_26 : decode cX10_about 26 = .ok (.iload_n 2, 1) := by decide +kernel
theorem dX10_about_27 : decode cX10_about 27 = .ok (.ifCond .ne 8, 3) := by decide +kernel
theorem dX10_about_30 : decode cX10_about 30 = .ok (.aload_n 3, 1) := by decide +kernel
theorem dX10_about_31 : decode cX10_about 31 = .ok (.invokevirtual 106, 3) := by decide +kernel
theorem dX10_about_34 : decode cX10_about 34 = .ok (.ireturn, 1) := by decide +kernel
theorem dX10_about_35 : decode cX10_about 35 = .ok (.iload_n 2, 1) := by decide +kernel
theorem dX10_about_36 : decode cX10_about 36 = .ok (.iconst 1, 1) := by decide +kernel
theorem dX10_about_37 : decode cX10_about 37 = .ok (.if_icmp .ne 8, 3) := by decide +kernel
theorem dX10_about_40 : decode cX10_about 40 = .ok (.aload_n 3, 1) := by decide +kernel
theorem dX10_about_41 : decode cX10_about 41 = .ok (.getfield 155, 3) := by decide +kernel
theorem dX10_about_44 : decode cX10_about 44 = .ok (.ireturn, 1) := by decide +kernel
theorem dX10_about_45 : decode cX10_about 45 = .ok (.iload_n 2, 1) := by decide +kernel
theorem dX10_about_46 : decode cX10_about 46 = .ok (.iconst 2, 1) := by decide +kernel
theorem dX10_about_47 : decode cX10_about 47 = .ok (.if_icmp .ne 8, 3) := by decide +kernel
theorem dX10_about_50 : decode cX10_about 50 = .ok (.aload_n 3, 1) := by decide +kernel
theorem dX10_about_51 : decode cX10_about 51 = .ok (.getfield 149, 3) := by decide +kernel
theorem dX10_about_54 : decode cX10_about 54 = .ok (.ireturn, 1) := by decide +kernel
theorem dX10_about_55 : decode cX10_about 55 = .ok (.iload_n 2, 1) := by decide +kernel
theorem dX10_about_56 : decode cX10_about 56 = .ok (.iconst 3, 1) := by decide +kernel
theorem dX10_about_57 : decode cX10_about 57 = .ok (.isub, 1) := by decide +kernel
theorem dX10_about_58 : decode cX10_about 58 = .ok (.istore 4, 2) := by decide +kernel
theorem dX10_about_60 : decode cX10_about 60 = .ok (.iload 4, 2) := by decide +kernel
theorem dX10_about_62 : decode cX10_about 62 = .ok (.aload_n 3, 1) := by decide +kernel
theorem dX10_about_63 : decode cX10_about 63 = .ok (.getfield 149, 3) := by decide +kernel
theorem dX10_about_66 : decode cX10_about 66 = .ok (.if_icmp .ge 13, 3) := by decide +kernel
theorem dX10_about_69 : decode cX10_about 69 = .ok (.aload_n 3, 1) := by decide +kernel
theorem dX10_about_70 : decode cX10_about 70 = .ok (.getfield 158, 3) := by decide +kernel
theorem dX10_about_73 : decode cX10_about 73 = .ok (.iload 4, 2) := by decide +kernel
theorem dX10_about_75 : decode cX10_about 75 = .ok (.iaload, 1) := by decide +kernel
theorem dX10_about_76 : decode cX10_about 76 = .ok (.goto 5, 3) := by decide +kernel
theorem dX10_about_79 : decode cX10_about 79 = .ok (.bipush (-3), 2) := by decide +kernel
theorem dX10_about_81 : decode cX10_about 81 = .ok (.ireturn, 1) := by decide +kernel
theorem dX10_done_0 : decode cX10_done 0 = .ok (.iload_n 1, 1) := by decide +kernel
theorem dX10_done_1 : decode cX10_done 1 = .ok (.invokestatic 103, 3) := by decide +kernel
theorem dX10_done_4 : decode cX10_done 4 = .ok (.ifCond .eq 19, 3) := by decide +kernel
theorem dX10_done_7 : decode cX10_done 7 = .ok (.aload_n 0, 1) := by decide +kernel
theorem dX10_done_8 : decode cX10_done 8 = .ok (.getfield 52, 3) := by decide +kernel
theorem dX10_done_11 : decode cX10_done 11 = .ok (.aload_n 0, 1) := by decide +kernel
theorem dX10_done_12 : decode cX10_done 12 = .ok (.getfield 17, 3) := by decide +kernel
theorem dX10_done_15 : decode cX10_done 15 = .ok (.iload_n 1, 1) := by decide +kernel
theorem dX10_done_16 : decode cX10_done 16 = .ok (.aaload, 1) := by decide +kernel
theorem dX10_done_17 : decode cX10_done 17 = .ok (.invokevirtual 168, 3) := by decide +kernel
theorem dX10_done_20 : decode cX10_done 20 = .ok (.goto 4, 3) := by decide +kernel
theorem dX10_done_23 : decode cX10_done 23 = .ok (.iconst (-1), 1) := by decide +kernel
theorem dX10_done_24 : decode cX10_done 24 = .ok (.ireturn, 1) := by decide +kernel
theorem dX10_distance_0 : decode cX10_distance 0 = .ok (.iload_n 1, 1) := by decide +kernel
theorem dX10_distance_1 : decode cX10_distance 1 = .ok (.invokestatic 103, 3) := by decide +kernel
theorem dX10_distance_4 : decode cX10_distance 4 = .ok (.ifCond .ne 5, 3) := by decide +kernel
theorem dX10_distance_7 : decode cX10_distance 7 = .ok (.iconst (-1), 1) := by decide +kernel
theorem dX10_distance_8 : decode cX10_distance 8 = .ok (.ireturn, 1) := by decide +kernel
theorem dX10_distance_9 : decode cX10_distance 9 = .ok (.aload_n 0, 1) := by decide +kernel
theorem dX10_distance_10 : decode cX10_distance 10 = .ok (.getfield 17, 3) := by decide +kernel
theorem dX10_distance_13 : decode cX10_distance 13 = .ok (.iload_n 1, 1) := by decide +kernel
theorem dX10_distance_14 : decode cX10_distance 14 = .ok (.aaload, 1) := by decide +kernel
theorem dX10_distance_15 : decode cX10_distance 15 = .ok (.invokevirtual 117, 3) := by decide +kernel
theorem dX10_distance_18 : decode cX10_distance 18 = .ok (.ifCond .ne 18, 3) := by decide +kernel
theorem dX10_distance_21 : decode cX10_distance 21 = .ok (.aload_n 0, 1) := by decide +kernel
theorem dX10_distance_22 : decode cX10_distance 22 = .ok (.getfield 17, 3) := by decide +kernel
theorem dX10_distance_25 : decode cX10_distance 25 = .ok (.iload_n 1, 1) := by decide +kernel
theorem dX10_distance_26 : decode cX10_distance 26 = .ok (.aaload, 1) := by decide +kernel
theorem dX10_distance_27 : decode cX10_distance 27 = .ok (.invokevirtual 186, 3) := by decide +kernel
theorem dX10_distance_30 : decode cX10_distance 30 = .ok (.ifCond .ne 6, 3) := by decide +kernel
theorem dX10_distance_33 : decode cX10_distance 33 = .ok (.bipush (-2), 2) := by decide +kernel
theorem dX10_distance_35 : decode cX10_distance 35 = .ok (.ireturn, 1) := by decide +kernel
theorem dX10_distance_36 : decode cX10_distance 36 = .ok (.aload_n 0, 1) := by decide +kernel
theorem dX10_distance_37 : decode cX10_distance 37 = .ok (.getfield 45, 3) := by decide +kernel
theorem dX10_distance_40 : decode cX10_distance 40 = .ok (.aload_n 0, 1) := by decide +kernel
theorem dX10_distance_41 : decode cX10_distance 41 = .ok (.getfield 17, 3) := by decide +kernel
theorem dX10_distance_44 : decode cX10_distance 44 = .ok (.iload_n 1, 1) := by decide +kernel
theorem dX10_distance_45 : decode cX10_distance 45 = .ok (.aaload, 1) := by decide +kernel
theorem dX10_distance_46 : decode cX10_distance 46 = .ok (.bipush 14, 2) := by decide +kernel
theorem dX10_distance_48 : decode cX10_distance 48 = .ok (.invokevirtual 189, 3) := by decide +kernel
theorem dX10_distance_51 : decode cX10_distance 51 = .ok (.aload_n 0, 1) := by decide +kernel
theorem dX10_distance_52 : decode cX10_distance 52 = .ok (.getfield 45, 3) := by decide +kernel
theorem dX10_distance_55 : decode cX10_distance 55 = .ok (.getfield 193, 3) := by decide +kernel
theorem dX10_distance_58 : decode cX10_distance 58 = .ok (.iconst 1, 1) := by decide +kernel
theorem dX10_distance_59 : decode cX10_distance 59 = .ok (.invokestatic 196, 3) := by decide +kernel
theorem dX10_distance_62 : decode cX10_distance 62 = .ok (.iconst 1, 1) := by decide +kernel
theorem dX10_distance_63 : decode cX10_distance 63 = .ok (.isub, 1) := by decide +kernel
theorem dX10_distance_64 : decode cX10_distance 64 = .ok (.ireturn, 1) := by decide +kernel
theorem dX10_waits_0 : decode cX10_waits 0 = .ok (.iload_n 1, 1) := by decide +kernel
theorem dX10_waits_1 : decode cX10_waits 1 = .ok (.invokestatic 103, 3) := by decide +kernel
theorem dX10_waits_4 : decode cX10_waits 4 = .ok (.ifCond .eq 7, 3) := by decide +kernel
theorem dX10_waits_7 : decode cX10_waits 7 = .ok (.iload_n 2, 1) := by decide +kernel
theorem dX10_waits_8 : decode cX10_waits 8 = .ok (.ifCond .ge 5, 3) := by decide +kernel
theorem dX10_waits_11 : decode cX10_waits 11 = .ok (.iconst (-1), 1) := by decide +kernel
theorem dX10_waits_12 : decode cX10_waits 12 = .ok (.ireturn, 1) := by decide +kernel
theorem dX10_waits_13 : decode cX10_waits 13 = .ok (.aload_n 0, 1) := by decide +kernel
theorem dX10_waits_14 : decode cX10_waits 14 = .ok (.getfield 17, 3) := by decide +kernel
theorem dX10_waits_17 : decode cX10_waits 17 = .ok (.iload_n 1, 1) := by decide +kernel
theorem dX10_waits_18 : decode cX10_waits 18 = .ok (.aaload, 1) := by decide +kernel
theorem dX10_waits_19 : decode cX10_waits 19 = .ok (.invokevirtual 186, 3) := by decide +kernel
theorem dX10_waits_22 : decode cX10_waits 22 = .ok (.ifCond .ne 6, 3) := by decide +kernel
theorem dX10_waits_25 : decode cX10_waits 25 = .ok (.bipush (-2), 2) := by decide +kernel
theorem dX10_waits_27 : decode cX10_waits 27 = .ok (.ireturn, 1) := by decide +kernel
theorem dX10_waits_28 : decode cX10_waits 28 = .ok (.aload_n 0, 1) := by decide +kernel
theorem dX10_waits_29 : decode cX10_waits 29 = .ok (.getfield 45, 3) := by decide +kernel
theorem dX10_waits_32 : decode cX10_waits 32 = .ok (.aload_n 0, 1) := by decide +kernel
theorem dX10_waits_33 : decode cX10_waits 33 = .ok (.getfield 17, 3) := by decide +kernel
theorem dX10_waits_36 : decode cX10_waits 36 = .ok (.iload_n 1, 1) := by decide +kernel
theorem dX10_waits_37 : decode cX10_waits 37 = .ok (.aaload, 1) := by decide +kernel
theorem dX10_waits_38 : decode cX10_waits 38 = .ok (.iconst 1, 1) := by decide +kernel
theorem dX10_waits_39 : decode cX10_waits 39 = .ok (.invokevirtual 189, 3) := by decide +kernel
theorem dX10_waits_42 : decode cX10_waits 42 = .ok (.aload_n 0, 1) := by decide +kernel
theorem dX10_waits_43 : decode cX10_waits 43 = .ok (.getfield 45, 3) := by decide +kernel
theorem dX10_waits_46 : decode cX10_waits 46 = .ok (.getfield 193, 3) := by decide +kernel
theorem dX10_waits_49 : decode cX10_waits 49 = .ok (.iconst 1, 1) := by decide +kernel
theorem dX10_waits_50 : decode cX10_waits 50 = .ok (.if_icmp .ne 14, 3) := by decide +kernel
theorem dX10_waits_53 : decode cX10_waits 53 = .ok (.aload_n 0, 1) := by decide +kernel
theorem dX10_waits_54 : decode cX10_waits 54 = .ok (.getfield 45, 3) := by decide +kernel
theorem dX10_waits_57 : decode cX10_waits 57 = .ok (.iload_n 2, 1) := by decide +kernel
theorem dX10_waits_58 : decode cX10_waits 58 = .ok (.invokevirtual 201, 3) := by decide +kernel
theorem dX10_waits_61 : decode cX10_waits 61 = .ok (.goto 5, 3) := by decide +kernel
theorem dX10_waits_64 : decode cX10_waits 64 = .ok (.bipush (-3), 2) := by decide +kernel
theorem dX10_waits_66 : decode cX10_waits 66 = .ok (.ireturn, 1) := by decide +kernel
theorem dX10_best_0 : decode cX10_best 0 = .ok (.iload_n 1, 1) := by decide +kernel
theorem dX10_best_1 : decode cX10_best 1 = .ok (.invokestatic 103, 3) := by decide +kernel
theorem dX10_best_4 : decode cX10_best 4 = .ok (.ifCond .ne 5, 3) := by decide +kernel
theorem dX10_best_7 : decode cX10_best 7 = .ok (.iconst (-1), 1) := by decide +kernel
theorem dX10_best_8 : decode cX10_best 8 = .ok (.ireturn, 1) := by decide +kernel
theorem dX10_best_9 : decode cX10_best 9 = .ok (.aload_n 0, 1) := by decide +kernel
theorem dX10_best_10 : decode cX10_best 10 = .ok (.getfield 17, 3) := by decide +kernel
theorem dX10_best_13 : decode cX10_best 13 = .ok (.iload_n 1, 1) := by decide +kernel
theorem dX10_best_14 : decode cX10_best 14 = .ok (.aaload, 1) := by decide +kernel
theorem dX10_best_15 : decode cX10_best 15 = .ok (.invokevirtual 117, 3) := by decide +kernel
theorem dX10_best_18 : decode cX10_best 18 = .ok (.ifCond .ne 6, 3) := by decide +kernel
theorem dX10_best_21 : decode cX10_best 21 = .ok (.bipush (-2), 2) := by decide +kernel
theorem dX10_best_23 : decode cX10_best 23 = .ok (.ireturn, 1) := by decide +kernel
theorem dX10_best_24 : decode cX10_best 24 = .ok (.aload_n 0, 1) := by decide +kernel
theorem dX10_best_25 : decode cX10_best 25 = .ok (.aload_n 0, 1) := by decide +kernel
theorem dX10_best_26 : decode cX10_best 26 = .ok (.getfield 17, 3) := by decide +kernel
theorem dX10_best_29 : decode cX10_best 29 = .ok (.iload_n 1, 1) := by decide +kernel
theorem dX10_best_30 : decode cX10_best 30 = .ok (.aaload, 1) := by decide +kernel
theorem dX10_best_31 : decode cX10_best 31 = .ok (.invokevirtual 217, 3) := by decide +kernel
theorem dX10_best_34 : decode cX10_best 34 = .ok (.ireturn, 1) := by decide +kernel
theorem dX10_unseen_0 : decode cX10_unseen 0 = .ok (.iload_n 1, 1) := by decide +kernel
theorem dX10_unseen_1 : decode cX10_unseen 1 = .ok (.invokestatic 103, 3) := by decide +kernel
theorem dX10_unseen_4 : decode cX10_unseen 4 = .ok (.ifCond .eq 16, 3) := by decide +kernel
theorem dX10_unseen_7 : decode cX10_unseen 7 = .ok (.aload_n 0, 1) := by decide +kernel
theorem dX10_unseen_8 : decode cX10_unseen 8 = .ok (.aload_n 0, 1) := by decide +kernel
theorem dX10_unseen_9 : decode cX10_unseen 9 = .ok (.getfield 17, 3) := by decide +kernel
theorem dX10_unseen_12 : decode cX10_unseen 12 = .ok (.iload_n 1, 1) := by decide +kernel
theorem dX10_unseen_13 : decode cX10_unseen 13 = .ok (.aaload, 1) := by decide +kernel
theorem dX10_unseen_14 : decode cX10_unseen 14 = .ok (.invokevirtual 211, 3) := by decide +kernel
theorem dX10_unseen_17 : decode cX10_unseen 17 = .ok (.goto 4, 3) := by decide +kernel
theorem dX10_unseen_20 : decode cX10_unseen 20 = .ok (.iconst (-1), 1) := by decide +kernel
theorem dX10_unseen_21 : decode cX10_unseen 21 = .ok (.ireturn, 1) := by decide +kernel
theorem dX10_alike_0 : decode cX10_alike 0 = .ok (.iload_n 1, 1) := by decide +kernel
theorem dX10_alike_1 : decode cX10_alike 1 = .ok (.invokestatic 103, 3) := by decide +kernel
theorem dX10_alike_4 : decode cX10_alike 4 = .ok (.ifCond .eq 10, 3) := by decide +kernel
theorem dX10_alike_7 : decode cX10_alike 7 = .ok (.iload_n 2, 1) := by decide +kernel
theorem dX10_alike_8 : decode cX10_alike 8 = .ok (.invokestatic 103, 3) := by decide +kernel
theorem dX10_alike_11 : decode cX10_alike 11 = .ok (.ifCond .ne 5, 3) := by decide +kernel
theorem dX10_alike_14 : decode cX10_alike 14 = .ok (.iconst (-1), 1) := by decide +kernel
theorem dX10_alike_15 : decode cX10_alike 15 = .ok (.ireturn, 1) := by decide +kernel
theorem dX10_alike_16 : decode cX10_alike 16 = .ok (.aload_n 0, 1) := by decide +kernel
theorem dX10_alike_17 : decode cX10_alike 17 = .ok (.getfield 17, 3) := by decide +kernel
theorem dX10_alike_20 : decode cX10_alike 20 = .ok (.iload_n 1, 1) := by decide +kernel
theorem dX10_alike_21 : decode cX10_alike 21 = .ok (.aaload, 1) := by decide +kernel
theorem dX10_alike_22 : decode cX10_alike 22 = .ok (.getfield 132, 3) := by decide +kernel
theorem dX10_alike_25 : decode cX10_alike 25 = .ok (.aload_n 0, 1) := by decide +kernel
theorem dX10_alike_26 : decode cX10_alike 26 = .ok (.getfield 17, 3) := by decide +kernel
theorem dX10_alike_29 : decode cX10_alike 29 = .ok (.iload_n 2, 1) := by decide +kernel
theorem dX10_alike_30 : decode cX10_alike 30 = .ok (.aaload, 1) := by decide +kernel
theorem dX10_alike_31 : decode cX10_alike 31 = .ok (.getfield 132, 3) := by decide +kernel
theorem dX10_alike_34 : decode cX10_alike 34 = .ok (.invokestatic 233, 3) := by decide +kernel
theorem dX10_alike_37 : decode cX10_alike 37 = .ok (.ifCond .eq 7, 3) := by decide +kernel
theorem dX10_alike_40 : decode cX10_alike 40 = .ok (.iconst 1, 1) := by decide +kernel
theorem dX10_alike_41 : decode cX10_alike 41 = .ok (.goto 4, 3) := by decide +kernel
theorem dX10_alike_44 : decode cX10_alike 44 = .ok (.iconst 0, 1) := by decide +kernel
theorem dX10_alike_45 : decode cX10_alike 45 = .ok (.ireturn, 1) := by decide +kernel
theorem dX10_isHand_0 : decode cX10_isHand 0 = .ok (.iload_n 0, 1) := by decide +kernel
theorem dX10_isHand_1 : decode cX10_isHand 1 = .ok (.ifCond .lt 12, 3) := by decide +kernel
theorem dX10_isHand_4 : decode cX10_isHand 4 = .ok (.iload_n 0, 1) := by decide +kernel
theorem dX10_isHand_5 : decode cX10_isHand 5 = .ok (.iconst 4, 1) := by decide +kernel
theorem dX10_isHand_6 : decode cX10_isHand 6 = .ok (.if_icmp .ge 7, 3) := by decide +kernel
theorem dX10_isHand_9 : decode cX10_isHand 9 = .ok (.iconst 1, 1) := by decide +kernel
theorem dX10_isHand_10 : decode cX10_isHand 10 = .ok (.goto 4, 3) := by decide +kernel
theorem dX10_isHand_13 : decode cX10_isHand 13 = .ok (.iconst 0, 1) := by decide +kernel
theorem dX10_isHand_14 : decode cX10_isHand 14 = .ok (.ireturn, 1) := by decide +kernel
theorem dX10_drawNext_0 : decode cX10_drawNext 0 = .ok (.aload_n 0, 1) := by decide +kernel
theorem dX10_drawNext_1 : decode cX10_drawNext 1 = .ok (.getfield 23, 3) := by decide +kernel
theorem dX10_drawNext_4 : decode cX10_drawNext 4 = .ok (.invokestatic 279, 3) := by decide +kernel
theorem dX10_drawNext_7 : decode cX10_drawNext 7 = .ok (.istore_n 2, 1) := by decide +kernel
theorem dX10_drawNext_8 : decode cX10_drawNext 8 = .ok (.iload_n 2, 1) := by decide +kernel
theorem dX10_drawNext_9 : decode cX10_drawNext 9 = .ok (.ifCond .ne 6, 3) := by decide +kernel
theorem dX10_drawNext_12 : decode cX10_drawNext 12 = .ok (.bipush (-3), 2) := by decide +kernel
theorem dX10_drawNext_14 : decode cX10_drawNext 14 = .ok (.ireturn, 1) := by decide +kernel
theorem dX10_drawNext_15 : decode cX10_drawNext 15 = .ok (.aload_n 0, 1) := by decide +kernel
theorem dX10_drawNext_16 : decode cX10_drawNext 16 = .ok (.aload_n 0, 1) := by decide +kernel
theorem dX10_drawNext_17 : decode cX10_drawNext 17 = .ok (.getfield 56, 3) := by decide +kernel
theorem dX10_drawNext_20 : decode cX10_drawNext 20 = .ok (.i2l, 1) := by decide +kernel
theorem dX10_drawNext_21 : decode cX10_drawNext 21 = .ok (.ldc2_w 281, 3) := by decide +kernel
theorem dX10_drawNext_24 : decode cX10_drawNext 24 = .ok (.lmul, 1) := by decide +kernel
theorem dX10_drawNext_25 : decode cX10_drawNext 25 = .ok (.ldc2_w 283, 3) := by decide +kernel
theorem dX10_drawNext_28 : decode cX10_drawNext 28 = .ok (.ladd, 1) := by decide +kernel
theorem dX10_drawNext_29 : decode cX10_drawNext 29 = .ok (.ldc2_w 285, 3) := by decide +kernel
theorem dX10_drawNext_32 : decode cX10_drawNext 32 = .ok (.land, 1) := by decide +kernel
theorem dX10_drawNext_33 : decode cX10_drawNext 33 = .ok (.l2i, 1) := by decide +kernel
theorem dX10_drawNext_34 : decode cX10_drawNext 34 = .ok (.putfield 56, 3) := by decide +kernel
theorem dX10_drawNext_37 : decode cX10_drawNext 37 = .ok (.aload_n 0, 1) := by decide +kernel
theorem dX10_drawNext_38 : decode cX10_drawNext 38 = .ok (.getfield 56, 3) := by decide +kernel
theorem dX10_drawNext_41 : decode cX10_drawNext 41 = .ok (.bipush 64, 2) := by decide +kernel
theorem dX10_drawNext_43 : decode cX10_drawNext 43 = .ok (.idiv, 1) := by decide +kernel
theorem dX10_drawNext_44 : decode cX10_drawNext 44 = .ok (.iload_n 2, 1) := by decide +kernel
theorem dX10_drawNext_45 : decode cX10_drawNext 45 = .ok (.irem, 1) := by decide +kernel
theorem dX10_drawNext_46 : decode cX10_drawNext 46 = .ok (.istore_n 3, 1) := by decide +kernel
theorem dX10_drawNext_47 : decode cX10_drawNext 47 = .ok (.iconst 0, 1) := by decide +kernel
theorem dX10_drawNext_48 : decode cX10_drawNext 48 = .ok (.istore 4, 2) := by decide +kernel
theorem dX10_drawNext_50 : decode cX10_drawNext 50 = .ok (.iload 4, 2) := by decide +kernel
theorem dX10_drawNext_52 : decode cX10_drawNext 52 = .ok (.bipush 34, 2) := by decide +kernel
theorem dX10_drawNext_54 : decode cX10_drawNext 54 = .ok (.if_icmp .ge 50, 3) := by decide +kernel
theorem dX10_drawNext_57 : decode cX10_drawNext 57 = .ok (.iload_n 3, 1) := by decide +kernel
theorem dX10_drawNext_58 : decode cX10_drawNext 58 = .ok (.aload_n 0, 1) := by decide +kernel
theorem dX10_drawNext_59 : decode cX10_drawNext 59 = .ok (.getfield 23, 3) := by decide +kernel
theorem dX10_drawNext_62 : decode cX10_drawNext 62 = .ok (.iload 4, 2) := by decide +kernel
theorem dX10_drawNext_64 : decode cX10_drawNext 64 = .ok (.iaload, 1) := by decide +kernel
theorem dX10_drawNext_65 : decode cX10_drawNext 65 = .ok (.if_icmp .ge 23, 3) := by decide +kernel
theorem dX10_drawNext_68 : decode cX10_drawNext 68 = .ok (.aload_n 0, 1) := by decide +kernel
theorem dX10_drawNext_69 : decode cX10_drawNext 69 = .ok (.getfield 23, 3) := by decide +kernel
theorem dX10_drawNext_72 : decode cX10_drawNext 72 = .ok (.iload 4, 2) := by decide +kernel
theorem dX10_drawNext_74 : decode cX10_drawNext 74 = .ok (.dup2, 1) := by decide +kernel
theorem dX10_drawNext_75 : decode cX10_drawNext 75 = .ok (.iaload, 1) := by decide +kernel
theorem dX10_drawNext_76 : decode cX10_drawNext 76 = .ok (.iconst 1, 1) := by decide +kernel
theorem dX10_drawNext_77 : decode cX10_drawNext 77 = .ok (.isub, 1) := by decide +kernel
theorem dX10_drawNext_78 : decode cX10_drawNext 78 = .ok (.iastore, 1) := by decide +kernel
theorem dX10_drawNext_79 : decode cX10_drawNext 79 = .ok (.aload_n 1, 1) := by decide +kernel
theorem dX10_drawNext_80 : decode cX10_drawNext 80 = .ok (.iload 4, 2) := by decide +kernel
theorem dX10_drawNext_82 : decode cX10_drawNext 82 = .ok (.invokevirtual 120, 3) := by decide +kernel
theorem dX10_drawNext_85 : decode cX10_drawNext 85 = .ok (.iload 4, 2) := by decide +kernel
theorem dX10_drawNext_87 : decode cX10_drawNext 87 = .ok (.ireturn, 1) := by decide +kernel
theorem dX10_drawNext_88 : decode cX10_drawNext 88 = .ok (.iload_n 3, 1) := by decide +kernel
theorem dX10_drawNext_89 : decode cX10_drawNext 89 = .ok (.aload_n 0, 1) := by decide +kernel
theorem dX10_drawNext_90 : decode cX10_drawNext 90 = .ok (.getfield 23, 3) := by decide +kernel
theorem dX10_drawNext_93 : decode cX10_drawNext 93 = .ok (.iload 4, 2) := by decide +kernel
theorem dX10_drawNext_95 : decode cX10_drawNext 95 = .ok (.iaload, 1) := by decide +kernel
theorem dX10_drawNext_96 : decode cX10_drawNext 96 = .ok (.isub, 1) := by decide +kernel
theorem dX10_drawNext_97 : decode cX10_drawNext 97 = .ok (.istore_n 3, 1) := by decide +kernel
theorem dX10_drawNext_98 : decode cX10_drawNext 98 = .ok (.iinc 4 1, 3) := by decide +kernel
theorem dX10_drawNext_101 : decode cX10_drawNext 101 = .ok (.goto (-51), 3) := by decide +kernel
theorem dX10_drawNext_104 : decode cX10_drawNext 104 = .ok (.bipush (-3), 2) := by decide +kernel
theorem dX10_drawNext_106 : decode cX10_drawNext 106 = .ok (.ireturn, 1) := by decide +kernel
theorem dX10_countHidden_0 : decode cX10_countHidden 0 = .ok (.iconst 0, 1) := by decide +kernel
theorem dX10_countHidden_1 : decode cX10_countHidden 1 = .ok (.istore_n 2, 1) := by decide +kernel
theorem dX10_countHidden_2 : decode cX10_countHidden 2 = .ok (.iload_n 2, 1) := by decide +kernel
theorem dX10_countHidden_3 : decode cX10_countHidden 3 = .ok (.bipush 34, 2) := by decide +kernel
theorem dX10_countHidden_5 : decode cX10_countHidden 5 = .ok (.if_icmp .ge 62, 3) := by decide +kernel
theorem dX10_countHidden_8 : decode cX10_countHidden 8 = .ok (.aload_n 1, 1) := by decide +kernel
theorem dX10_countHidden_9 : decode cX10_countHidden 9 = .ok (.getfield 132, 3) := by decide +kernel
theorem dX10_countHidden_12 : decode cX10_countHidden 12 = .ok (.iload_n 2, 1) := by decide +kernel
theorem dX10_countHidden_13 : decode cX10_countHidden 13 = .ok (.iaload, 1) := by decide +kernel
theorem dX10_countHidden_14 : decode cX10_countHidden 14 = .ok (.aload_n 0, 1) := by decide +kernel
theorem dX10_countHidden_15 : decode cX10_countHidden 15 = .ok (.getfield 27, 3) := by decide +kernel
theorem dX10_countHidden_18 : decode cX10_countHidden 18 = .ok (.iload_n 2, 1) := by decide +kernel
theorem dX10_countHidden_19 : decode cX10_countHidden 19 = .ok (.iaload, 1) := by decide +kernel
theorem dX10_countHidden_20 : decode cX10_countHidden 20 = .ok (.iadd, 1) := by decide +kernel
theorem dX10_countHidden_21 : decode cX10_countHidden 21 = .ok (.istore_n 3, 1) := by decide +kernel
theorem dX10_countHidden_22 : decode cX10_countHidden 22 = .ok (.iconst 0, 1) := by decide +kernel
theorem dX10_countHidden_23 : decode cX10_countHidden 23 = .ok (.istore 4, 2) := by decide +kernel
theorem dX10_countHidden_25 : decode cX10_countHidden 25 = .ok (.iload 4, 2) := by decide +kernel
theorem dX10_countHidden_27 : decode cX10_countHidden 27 = .ok (.iconst 4, 1) := by decide +kernel
theorem dX10_countHidden_28 : decode cX10_countHidden 28 = .ok (.if_icmp .ge 24, 3) := by decide +kernel
theorem dX10_countHidden_31 : decode cX10_countHidden 31 = .ok (.iload_n 3, 1) := by decide +kernel
theorem dX10_countHidden_32 : decode cX10_countHidden 32 = .ok (.aload_n 0, 1) := by decide +kernel
theorem dX10_countHidden_33 : decode cX10_countHidden 33 = .ok (.getfield 17, 3) := by decide +kernel
theorem dX10_countHidden_36 : decode cX10_countHidden 36 = .ok (.iload 4, 2) := by decide +kernel
theorem dX10_countHidden_38 : decode cX10_countHidden 38 = .ok (.aaload, 1) := by decide +kernel
theorem dX10_countHidden_39 : decode cX10_countHidden 39 = .ok (.getfield 152, 3) := by decide +kernel
theorem dX10_countHidden_42 : decode cX10_countHidden 42 = .ok (.iload_n 2, 1) := by decide +kernel
theorem dX10_countHidden_43 : decode cX10_countHidden 43 = .ok (.iaload, 1) := by decide +kernel
theorem dX10_countHidden_44 : decode cX10_countHidden 44 = .ok (.iadd, 1) := by decide +kernel
theorem dX10_countHidden_45 : decode cX10_countHidden 45 = .ok (.istore_n 3, 1) := by decide +kernel
theorem dX10_countHidden_46 : decode cX10_countHidden 46 = .ok (.iinc 4 1, 3) := by decide +kernel
theorem dX10_countHidden_49 : decode cX10_countHidden 49 = .ok (.goto (-24), 3) := by decide +kernel
theorem dX10_countHidden_52 : decode cX10_countHidden 52 = .ok (.aload_n 0, 1) := by decide +kernel
theorem dX10_countHidden_53 : decode cX10_countHidden 53 = .ok (.getfield 30, 3) := by decide +kernel
theorem dX10_countHidden_56 : decode cX10_countHidden 56 = .ok (.iload_n 2, 1) := by decide +kernel
theorem dX10_countHidden_57 : decode cX10_countHidden 57 = .ok (.iconst 4, 1) := by decide +kernel
theorem dX10_countHidden_58 : decode cX10_countHidden 58 = .ok (.iload_n 3, 1) := by decide +kernel
theorem dX10_countHidden_59 : decode cX10_countHidden 59 = .ok (.isub, 1) := by decide +kernel
theorem dX10_countHidden_60 : decode cX10_countHidden 60 = .ok (.iastore, 1) := by decide +kernel
theorem dX10_countHidden_61 : decode cX10_countHidden 61 = .ok (.iinc 2 1, 3) := by decide +kernel
theorem dX10_countHidden_64 : decode cX10_countHidden 64 = .ok (.goto (-62), 3) := by decide +kernel
theorem dX10_countHidden_67 : decode cX10_countHidden 67 = .ok (.aload_n 0, 1) := by decide +kernel
theorem dX10_countHidden_68 : decode cX10_countHidden 68 = .ok (.getfield 30, 3) := by decide +kernel
theorem dX10_countHidden_71 : decode cX10_countHidden 71 = .ok (.invokestatic 279, 3) := by decide +kernel
theorem dX10_countHidden_74 : decode cX10_countHidden 74 = .ok (.ireturn, 1) := by decide +kernel
theorem dX10_bestThrow_0 : decode cX10_bestThrow 0 = .ok (.aload_n 0, 1) := by decide +kernel
theorem dX10_bestThrow_1 : decode cX10_bestThrow 1 = .ok (.getfield 45, 3) := by decide +kernel
theorem dX10_bestThrow_4 : decode cX10_bestThrow 4 = .ok (.aload_n 1, 1) := by decide +kernel
theorem dX10_bestThrow_5 : decode cX10_bestThrow 5 = .ok (.bipush 14, 2) := by decide +kernel
theorem dX10_bestThrow_7 : decode cX10_bestThrow 7 = .ok (.invokevirtual 189, 3) := by decide +kernel
theorem dX10_bestThrow_10 : decode cX10_bestThrow 10 = .ok (.aload_n 0, 1) := by decide +kernel
theorem dX10_bestThrow_11 : decode cX10_bestThrow 11 = .ok (.getfield 45, 3) := by decide +kernel
theorem dX10_bestThrow_14 : decode cX10_bestThrow 14 = .ok (.getfield 193, 3) := by decide +kernel
theorem dX10_bestThrow_17 : decode cX10_bestThrow 17 = .ok (.iconst 1, 1) := by decide +kernel
theorem dX10_bestThrow_18 : decode cX10_bestThrow 18 = .ok (.invokestatic 196, 3) := by decide +kernel
theorem dX10_bestThrow_21 : decode cX10_bestThrow 21 = .ok (.istore_n 2, 1) := by decide +kernel
theorem dX10_bestThrow_22 : decode cX10_bestThrow 22 = .ok (.aload_n 0, 1) := by decide +kernel
theorem dX10_bestThrow_23 : decode cX10_bestThrow 23 = .ok (.aload_n 1, 1) := by decide +kernel
theorem dX10_bestThrow_24 : decode cX10_bestThrow 24 = .ok (.invokevirtual 211, 3) := by decide +kernel
theorem dX10_bestThrow_27 : decode cX10_bestThrow 27 = .ok (.pop, 1) := by decide +kernel
theorem dX10_bestThrow_28 : decode cX10_bestThrow 28 = .ok (.aload_n 0, 1) := by decide +kernel
theorem dX10_bestThrow_29 : decode cX10_bestThrow 29 = .ok (.getfield 45, 3) := by decide +kernel
theorem dX10_bestThrow_32 : decode cX10_bestThrow 32 = .ok (.aload_n 1, 1) := by decide +kernel
theorem dX10_bestThrow_33 : decode cX10_bestThrow 33 = .ok (.iload_n 2, 1) := by decide +kernel
theorem dX10_bestThrow_34 : decode cX10_bestThrow 34 = .ok (.invokevirtual 189, 3) := by decide +kernel
theorem dX10_bestThrow_37 : decode cX10_bestThrow 37 = .ok (.bipush (-3), 2) := by decide +kernel
theorem dX10_bestThrow_39 : decode cX10_bestThrow 39 = .ok (.istore_n 3, 1) := by decide +kernel
theorem dX10_bestThrow_40 : decode cX10_bestThrow 40 = .ok (.iconst (-1), 1) := by decide +kernel
theorem dX10_bestThrow_41 : decode cX10_bestThrow 41 = .ok (.istore 4, 2) := by decide +kernel
theorem dX10_bestThrow_43 : decode cX10_bestThrow 43 = .ok (.iconst 0, 1) := by decide +kernel
theorem dX10_bestThrow_44 : decode cX10_bestThrow 44 = .ok (.istore 5, 2) := by decide +kernel
theorem dX10_bestThrow_46 : decode cX10_bestThrow 46 = .ok (.iload 5, 2) := by decide +kernel
theorem dX10_bestThrow_48 : decode cX10_bestThrow 48 = .ok (.bipush 34, 2) := by decide +kernel
theorem dX10_bestThrow_50 : decode cX10_bestThrow 50 = .ok (.if_icmp .ge 88, 3) := by decide +kernel
theorem dX10_bestThrow_53 : decode cX10_bestThrow 53 = .ok (.aload_n 1, 1) := by decide +kernel
theorem dX10_bestThrow_54 : decode cX10_bestThrow 54 = .ok (.getfield 132, 3) := by decide +kernel
theorem dX10_bestThrow_57 : decode cX10_bestThrow 57 = .ok (.iload 5, 2) := by decide +kernel
theorem dX10_bestThrow_59 : decode cX10_bestThrow 59 = .ok (.iaload, 1) := by decide +kernel
theorem dX10_bestThrow_60 : decode cX10_bestThrow 60 = .ok (.ifCond .le 72, 3) := by decide +kernel
theorem dX10_bestThrow_63 : decode cX10_bestThrow 63 = .ok (.aload_n 0, 1) := by decide +kernel
theorem dX10_bestThrow_64 : decode cX10_bestThrow 64 = .ok (.getfield 45, 3) := by decide +kernel
theorem dX10_bestThrow_67 : decode cX10_bestThrow 67 = .ok (.iload 5, 2) := by decide +kernel
theorem dX10_bestThrow_69 : decode cX10_bestThrow 69 = .ok (.iconst (-1), 1) := by decide +kernel
theorem dX10_bestThrow_70 : decode cX10_bestThrow 70 = .ok (.invokevirtual 224, 3) := by decide +kernel
theorem dX10_bestThrow_73 : decode cX10_bestThrow 73 = .ok (.aload_n 0, 1) := by decide +kernel
theorem dX10_bestThrow_74 : decode cX10_bestThrow 74 = .ok (.getfield 45, 3) := by decide +kernel
theorem dX10_bestThrow_77 : decode cX10_bestThrow 77 = .ok (.invokevirtual 227, 3) := by decide +kernel
theorem dX10_bestThrow_80 : decode cX10_bestThrow 80 = .ok (.aload_n 0, 1) := by decide +kernel
theorem dX10_bestThrow_81 : decode cX10_bestThrow 81 = .ok (.getfield 45, 3) := by decide +kernel
theorem dX10_bestThrow_84 : decode cX10_bestThrow 84 = .ok (.getfield 193, 3) := by decide +kernel
theorem dX10_bestThrow_87 : decode cX10_bestThrow 87 = .ok (.iload_n 2, 1) := by decide +kernel
theorem dX10_bestThrow_88 : decode cX10_bestThrow 88 = .ok (.if_icmp .ne 17, 3) := by decide +kernel
theorem dX10_bestThrow_91 : decode cX10_bestThrow 91 = .ok (.aload_n 0, 1) := by decide +kernel
theorem dX10_bestThrow_92 : decode cX10_bestThrow 92 = .ok (.getfield 45, 3) := by decide +kernel
theorem dX10_bestThrow_95 : decode cX10_bestThrow 95 = .ok (.aload_n 0, 1) := by decide +kernel
theorem dX10_bestThrow_96 : decode cX10_bestThrow 96 = .ok (.getfield 30, 3) := by decide +kernel
theorem dX10_bestThrow_99 : decode cX10_bestThrow 99 = .ok (.invokevirtual 214, 3) := by decide +kernel
theorem dX10_bestThrow_102 : decode cX10_bestThrow 102 = .ok (.goto 4, 3) := by decide +kernel
theorem dX10_bestThrow_105 : decode cX10_bestThrow 105 = .ok (.iconst (-1), 1) := by decide +kernel
theorem dX10_bestThrow_106 : decode cX10_bestThrow 106 = .ok (.istore 6, 2) := by decide +kernel
theorem dX10_bestThrow_108 : decode cX10_bestThrow 108 = .ok (.iload 6, 2) := by decide +kernel
theorem dX10_bestThrow_110 : decode cX10_bestThrow 110 = .ok (.iload 4, 2) := by decide +kernel
theorem dX10_bestThrow_112 : decode cX10_bestThrow 112 = .ok (.if_icmp .le 10, 3) := by decide +kernel
theorem dX10_bestThrow_115 : decode cX10_bestThrow 115 = .ok (.iload 6, 2) := by decide +kernel
theorem dX10_bestThrow_117 : decode cX10_bestThrow 117 = .ok (.istore 4, 2) := by decide +kernel
theorem dX10_bestThrow_119 : decode cX10_bestThrow 119 = .ok (.iload 5, 2) := by decide +kernel
theorem dX10_bestThrow_121 : decode cX10_bestThrow 121 = .ok (.istore_n 3, 1) := by decide +kernel
theorem dX10_bestThrow_122 : decode cX10_bestThrow 122 = .ok (.aload_n 0, 1) := by decide +kernel
theorem dX10_bestThrow_123 : decode cX10_bestThrow 123 = .ok (.getfield 45, 3) := by decide +kernel
theorem dX10_bestThrow_126 : decode cX10_bestThrow 126 = .ok (.iload 5, 2) := by decide +kernel
theorem dX10_bestThrow_128 : decode cX10_bestThrow 128 = .ok (.iconst 1, 1) := by decide +kernel
theorem dX10_bestThrow_129 : decode cX10_bestThrow 129 = .ok (.invokevirtual 224, 3) := by decide +kernel
theorem dX10_bestThrow_132 : decode cX10_bestThrow 132 = .ok (.iinc 5 1, 3) := by decide +kernel
theorem dX10_bestThrow_135 : decode cX10_bestThrow 135 = .ok (.goto (-89), 3) := by decide +kernel
theorem dX10_bestThrow_138 : decode cX10_bestThrow 138 = .ok (.iload_n 3, 1) := by decide +kernel
theorem dX10_bestThrow_139 : decode cX10_bestThrow 139 = .ok (.ireturn, 1) := by decide +kernel
theorem dJ9_max_7cf53_0 : decode cJ9_max_7cf53 0 = .ok (.iload_n 0, 1) := by decide +kernel
theorem dJ9_max_7cf53_1 : decode cJ9_max_7cf53 1 = .ok (.iload_n 1, 1) := by decide +kernel
theorem dJ9_max_7cf53_2 : decode cJ9_max_7cf53 2 = .ok (.if_icmp .lt 7, 3) := by decide +kernel
theorem dJ9_max_7cf53_5 : decode cJ9_max_7cf53 5 = .ok (.iload_n 0, 1) := by decide +kernel
theorem dJ9_max_7cf53_6 : decode cJ9_max_7cf53 6 = .ok (.goto 4, 3) := by decide +kernel
theorem dJ9_max_7cf53_9 : decode cJ9_max_7cf53 9 = .ok (.iload_n 1, 1) := by decide +kernel
theorem dJ9_max_7cf53_10 : decode cJ9_max_7cf53 10 = .ok (.ireturn, 1) := by decide +kernel
theorem dJ9_min_7cf53_0 : decode cJ9_min_7cf53 0 = .ok (.iload_n 0, 1) := by decide +kernel
theorem dJ9_min_7cf53_1 : decode cJ9_min_7cf53 1 = .ok (.iload_n 1, 1) := by decide +kernel
theorem dJ9_min_7cf53_2 : decode cJ9_min_7cf53 2 = .ok (.if_icmp .gt 7, 3) := by decide +kernel
theorem dJ9_min_7cf53_5 : decode cJ9_min_7cf53 5 = .ok (.iload_n 0, 1) := by decide +kernel
theorem dJ9_min_7cf53_6 : decode cJ9_min_7cf53 6 = .ok (.goto 4, 3) := by decide +kernel
theorem dJ9_min_7cf53_9 : decode cJ9_min_7cf53 9 = .ok (.iload_n 1, 1) := by decide +kernel
theorem dJ9_min_7cf53_10 : decode cJ9_min_7cf53 10 = .ok (.ireturn, 1) := by decide +kernel
theorem dJ7_fill_d0a16_0 : decode cJ7_fill_d0a16 0 = .ok (.iconst 0, 1) := by decide +kernel
theorem dJ7_fill_d0a16_1 : decode cJ7_fill_d0a16 1 = .ok (.istore_n 3, 1) := by decide +kernel
theorem dJ7_fill_d0a16_2 : decode cJ7_fill_d0a16 2 = .ok (.aload_n 0, 1) := by decide +kernel
theorem dJ7_fill_d0a16_3 : decode cJ7_fill_d0a16 3 = .ok (.arraylength, 1) := by decide +kernel
theorem dJ7_fill_d0a16_4 : decode cJ7_fill_d0a16 4 = .ok (.istore 4, 2) := by decide +kernel
theorem dJ7_fill_d0a16_6 : decode cJ7_fill_d0a16 6 = .ok (.iload_n 3, 1) := by decide +kernel
theorem dJ7_fill_d0a16_7 : decode cJ7_fill_d0a16 7 = .ok (.iload 4, 2) := by decide +kernel
theorem dJ7_fill_d0a16_9 : decode cJ7_fill_d0a16 9 = .ok (.if_icmp .ge 13, 3) := by decide +kernel
theorem dJ7_fill_d0a16_12 : decode cJ7_fill_d0a16 12 = .ok (.aload_n 0, 1) := by decide +kernel
theorem dJ7_fill_d0a16_13 : decode cJ7_fill_d0a16 13 = .ok (.iload_n 3, 1) := by decide +kernel
theorem dJ7_fill_d0a16_14 : decode cJ7_fill_d0a16 14 = .ok (.lload_n 1, 1) := by decide +kernel
theorem dJ7_fill_d0a16_15 : decode cJ7_fill_d0a16 15 = .ok (.lastore, 1) := by decide +kernel
theorem dJ7_fill_d0a16_16 : decode cJ7_fill_d0a16 16 = .ok (.iinc 3 1, 3) := by decide +kernel
theorem dJ7_fill_d0a16_19 : decode cJ7_fill_d0a16 19 = .ok (.goto (-13), 3) := by decide +kernel
theorem dJ7_fill_d0a16_22 : decode cJ7_fill_d0a16 22 = .ok (.return_, 1) := by decide +kernel
theorem dJ7_fill_53178_0 : decode cJ7_fill_53178 0 = .ok (.iconst 0, 1) := by decide +kernel
theorem dJ7_fill_53178_1 : decode cJ7_fill_53178 1 = .ok (.istore_n 2, 1) := by decide +kernel
theorem dJ7_fill_53178_2 : decode cJ7_fill_53178 2 = .ok (.aload_n 0, 1) := by decide +kernel
theorem dJ7_fill_53178_3 : decode cJ7_fill_53178 3 = .ok (.arraylength, 1) := by decide +kernel
theorem dJ7_fill_53178_4 : decode cJ7_fill_53178 4 = .ok (.istore_n 3, 1) := by decide +kernel
theorem dJ7_fill_53178_5 : decode cJ7_fill_53178 5 = .ok (.iload_n 2, 1) := by decide +kernel
theorem dJ7_fill_53178_6 : decode cJ7_fill_53178 6 = .ok (.iload_n 3, 1) := by decide +kernel
theorem dJ7_fill_53178_7 : decode cJ7_fill_53178 7 = .ok (.if_icmp .ge 13, 3) := by decide +kernel
theorem dJ7_fill_53178_10 : decode cJ7_fill_53178 10 = .ok (.aload_n 0, 1) := by decide +kernel
theorem dJ7_fill_53178_11 : decode cJ7_fill_53178 11 = .ok (.iload_n 2, 1) := by decide +kernel
theorem dJ7_fill_53178_12 : decode cJ7_fill_53178 12 = .ok (.iload_n 1, 1) := by decide +kernel
theorem dJ7_fill_53178_13 : decode cJ7_fill_53178 13 = .ok (.iastore, 1) := by decide +kernel
theorem dJ7_fill_53178_14 : decode cJ7_fill_53178 14 = .ok (.iinc 2 1, 3) := by decide +kernel
theorem dJ7_fill_53178_17 : decode cJ7_fill_53178 17 = .ok (.goto (-12), 3) := by decide +kernel
theorem dJ7_fill_53178_20 : decode cJ7_fill_53178 20 = .ok (.return_, 1) := by decide +kernel
