theorem dX0_init_0 : decode cX0_init 0 = .ok (.aload_n 0, 1) := by decide +kernel
theorem dX0_init_1 : decode cX0_init 1 = .ok (.invokespecial 1, 3) := by decide +kernel
theorem dX0_init_4 : decode cX0_init 4 = .ok (.aload_n 0, 1) := by decide +kernel
theorem dX0_init_5 : decode cX0_init 5 = .ok (.iload_n 1, 1) := by decide +kernel
theorem dX0_init_6 : decode cX0_init 6 = .ok (.putfield 7, 3) := by decide +kernel
theorem dX0_init_9 : decode cX0_init 9 = .ok (.return_, 1) := by decide +kernel
theorem dX1_init_0 : decode cX1_init 0 = .ok (.aload_n 0, 1) := by decide +kernel
theorem dX1_init_1 : decode cX1_init 1 = .ok (.invokespecial 3, 3) := by decide +kernel
theorem dX1_init_4 : decode cX1_init 4 = .ok (.aload_n 0, 1) := by decide +kernel
theorem dX1_init_5 : decode cX1_init 5 = .ok (.bipush 60, 2) := by decide +kernel
theorem dX1_init_7 : decode cX1_init 7 = .ok (.newarray .int, 2) := by decide +kernel
theorem dX1_init_9 : decode cX1_init 9 = .ok (.putfield 9, 3) := by decide +kernel
theorem dX1_init_12 : decode cX1_init 12 = .ok (.aload_n 0, 1) := by decide +kernel
theorem dX1_init_13 : decode cX1_init 13 = .ok (.iconst 0, 1) := by decide +kernel
theorem dX1_init_14 : decode cX1_init 14 = .ok (.putfield 15, 3) := by decide +kernel
theorem dX1_init_17 : decode cX1_init 17 = .ok (.aload_n 0, 1) := by decide +kernel
theorem dX1_init_18 : decode cX1_init 18 = .ok (.iconst 0, 1) := by decide +kernel
theorem dX1_init_19 : decode cX1_init 19 = .ok (.putfield 19, 3) := by decide +kernel
theorem dX1_init_22 : decode cX1_init 22 = .ok (.aload_n 0, 1) := by decide +kernel
theorem dX1_init_23 : decode cX1_init 23 = .ok (.iconst 0, 1) := by decide +kernel
theorem dX1_init_24 : decode cX1_init 24 = .ok (.putfield 23, 3) := by decide +kernel
theorem dX1_init_27 : decode cX1_init 27 = .ok (.aload_n 0, 1) := by decide +kernel
theorem dX1_init_28 : decode cX1_init 28 = .ok (.iconst 0, 1) := by decide +kernel
theorem dX1_init_29 : decode cX1_init 29 = .ok (.putfield 26, 3) := by decide +kernel
theorem dX1_init_32 : decode cX1_init 32 = .ok (.aload_n 0, 1) := by decide +kernel
theorem dX1_init_33 : decode cX1_init 33 = .ok (.iconst 0, 1) := by decide +kernel
theorem dX1_init_34 : decode cX1_init 34 = .ok (.putfield 29, 3) := by decide +kernel
theorem dX1_init_37 : decode cX1_init 37 = .ok (.aload_n 0, 1) := by decide +kernel
theorem dX1_init_38 : decode cX1_init 38 = .ok (.iconst 0, 1) := by decide +kernel
theorem dX1_init_39 : decode cX1_init 39 = .ok (.putfield 32, 3) := by decide +kernel
theorem dX1_init_42 : decode cX1_init 42 = .ok (.return_, 1) := by decide +kernel
theorem dX1_beginBallot_0 : decode cX1_beginBallot 0 = .ok (.aload_n 0, 1) := by decide +kernel
theorem dX1_beginBallot_1 : decode cX1_beginBallot 1 = .ok (.iconst 1, 1) := by decide +kernel
theorem dX1_beginBallot_2 : decode cX1_beginBallot 2 = .ok (.putfield 15, 3) := by decide +kernel
theorem dX1_beginBallot_5 : decode cX1_beginBallot 5 = .ok (.aload_n 0, 1) := by decide +kernel
theorem dX1_beginBallot_6 : decode cX1_beginBallot 6 = .ok (.iconst 0, 1) := by decide +kernel
theorem dX1_beginBallot_7 : decode cX1_beginBallot 7 = .ok (.putfield 19, 3) := by decide +kernel
theorem dX1_beginBallot_10 : decode cX1_beginBallot 10 = .ok (.aload_n 0, 1) := by decide +kernel
theorem dX1_beginBallot_11 : decode cX1_beginBallot 11 = .ok (.iconst 0, 1) := by decide +kernel
theorem dX1_beginBallot_12 : decode cX1_beginBallot 12 = .ok (.putfield 23, 3) := by decide +kernel
theorem dX1_beginBallot_15 : decode cX1_beginBallot 15 = .ok (.return_, 1) := by decide +kernel
set_option maxRecDepth 20000 in
theorem ggX1_hasVoteOf_X2_bit : GoodIn wsX1_hasVoteOf wsX2_bit := goodIn_r _ [5, 6, 14, 15, 16, 17, 18, 19, 20, 21, 22, 23] (by decide +kernel) (by decide +kernel)
set_option maxRecDepth 20000 in
theorem gX1_hasVoteOf_X2_bit_n35 : GoodIn wsX1_hasVoteOf (wsX2_bit) := ggX1_hasVoteOf_X2_bit
theorem dX1_hasVoteOf_0 : decode cX1_hasVoteOf 0 = .ok (.aload_n 0, 1) := by decide +kernel
theorem dX1_hasVoteOf_1 : decode cX1_hasVoteOf 1 = .ok (.getfield 19, 3) := by decide +kernel
theorem dX1_hasVoteOf_4 : decode cX1_hasVoteOf 4 = .ok (.aload_n 1, 1) := by decide +kernel
theorem dX1_hasVoteOf_5 : decode cX1_hasVoteOf 5 = .ok (.invokevirtual 35, 3) := by decide +kernel
theorem dX1_hasVoteOf_8 : decode cX1_hasVoteOf 8 = .ok (.iand, 1) := by decide +kernel
theorem dX1_hasVoteOf_9 : decode cX1_hasVoteOf 9 = .ok (.ifCond .eq 7, 3) := by decide +kernel
theorem dX1_hasVoteOf_12 : decode cX1_hasVoteOf 12 = .ok (.iconst 1, 1) := by decide +kernel
theorem dX1_hasVoteOf_13 : decode cX1_hasVoteOf 13 = .ok (.goto 4, 3) := by decide +kernel
theorem dX1_hasVoteOf_16 : decode cX1_hasVoteOf 16 = .ok (.iconst 0, 1) := by decide +kernel
theorem dX1_hasVoteOf_17 : decode cX1_hasVoteOf 17 = .ok (.ireturn, 1) := by decide +kernel
set_option maxRecDepth 20000 in
theorem ggX1_takeVote_X2_bit : GoodIn wsX1_takeVote wsX2_bit := goodIn_r _ [6, 7, 15, 16, 17, 18, 19, 20, 21, 22, 23, 24] (by decide +kernel) (by decide +kernel)
set_option maxRecDepth 20000 in
theorem gX1_takeVote_X2_bit_n35 : GoodIn wsX1_takeVote (wsX2_bit) := ggX1_takeVote_X2_bit
theorem dX1_takeVote_0 : decode cX1_takeVote 0 = .ok (.aload_n 0, 1) := by decide +kernel
theorem dX1_takeVote_1 : decode cX1_takeVote 1 = .ok (.dup, 1) := by decide +kernel
theorem dX1_takeVote_2 : decode cX1_takeVote 2 = .ok (.getfield 19, 3) := by decide +kernel
theorem dX1_takeVote_5 : decode cX1_takeVote 5 = .ok (.aload_n 1, 1) := by decide +kernel
theorem dX1_takeVote_6 : decode cX1_takeVote 6 = .ok (.invokevirtual 35, 3) := by decide +kernel
theorem dX1_takeVote_9 : decode cX1_takeVote 9 = .ok (.ior, 1) := by decide +kernel
theorem dX1_takeVote_10 : decode cX1_takeVote 10 = .ok (.putfield 19, 3) := by decide +kernel
theorem dX1_takeVote_13 : decode cX1_takeVote 13 = .ok (.iload_n 2, 1) := by decide +kernel
theorem dX1_takeVote_14 : decode cX1_takeVote 14 = .ok (.ifCond .eq 16, 3) := by decide +kernel
theorem dX1_takeVote_17 : decode cX1_takeVote 17 = .ok (.aload_n 0, 1) := by decide +kernel
theorem dX1_takeVote_18 : decode cX1_takeVote 18 = .ok (.dup, 1) := by decide +kernel
theorem dX1_takeVote_19 : decode cX1_takeVote 19 = .ok (.getfield 23, 3) := by decide +kernel
theorem dX1_takeVote_22 : decode cX1_takeVote 22 = .ok (.aload_n 1, 1) := by decide +kernel
theorem dX1_takeVote_23 : decode cX1_takeVote 23 = .ok (.invokevirtual 35, 3) := by decide +kernel
theorem dX1_takeVote_26 : decode cX1_takeVote 26 = .ok (.ior, 1) := by decide +kernel
theorem dX1_takeVote_27 : decode cX1_takeVote 27 = .ok (.putfield 23, 3) := by decide +kernel
theorem dX1_takeVote_30 : decode cX1_takeVote 30 = .ok (.return_, 1) := by decide +kernel
set_option maxRecDepth 20000 in
theorem ggX1_countVotes_J6_bitCount_0f7a4 : GoodIn wsX1_countVotes wsJ6_bitCount_0f7a4 := goodIn_r _ [5, 6, 7, 8] (by decide +kernel) (by decide +kernel)
set_option maxRecDepth 20000 in
theorem gX1_countVotes_J6_bitCount_0f7a4 : GoodIn wsX1_countVotes (va_wsS RX1 41 yJ6_bitCount_0f7a4 wsJ6_bitCount_0f7a4) := goodIn_app (goodIn_of _ (by decide +kernel)) ggX1_countVotes_J6_bitCount_0f7a4
theorem dX1_countVotes_0 : decode cX1_countVotes 0 = .ok (.aload_n 0, 1) := by decide +kernel
theorem dX1_countVotes_1 : decode cX1_countVotes 1 = .ok (.getfield 19, 3) := by decide +kernel
theorem dX1_countVotes_4 : decode cX1_countVotes 4 = .ok (.invokestatic 41, 3) := by decide +kernel
theorem dX1_countVotes_7 : decode cX1_countVotes 7 = .ok (.ireturn, 1) := by decide +kernel
set_option maxRecDepth 20000 in
theorem ggX1_endBallot_X1_countVotes : GoodIn wsX1_endBallot wsX1_countVotes := goodIn_r _ [8, 9, 10, 11, 12, 13, 14, 15, 16, 17, 18, 19, 20, 21, 22, 23] (by decide +kernel) (by decide +kernel)
set_option maxRecDepth 20000 in
theorem gX1_endBallot_X1_countVotes : GoodIn wsX1_endBallot (wsV RX1 47 RX1 yX1_countVotes wsX1_countVotes) := goodIn_app (goodIn_of _ (by decide +kernel)) ggX1_endBallot_X1_countVotes
set_option maxRecDepth 20000 in
theorem ggX1_endBallot_J6_bitCount_0f7a4 : GoodIn wsX1_endBallot wsJ6_bitCount_0f7a4 := goodIn_r _ [13, 14, 15, 16] (by decide +kernel) (by decide +kernel)
set_option maxRecDepth 20000 in
theorem gX1_endBallot_J6_bitCount_0f7a4 : GoodIn wsX1_endBallot (va_wsS RX1 41 yJ6_bitCount_0f7a4 wsJ6_bitCount_0f7a4) := goodIn_app (goodIn_of _ (by decide +kernel)) ggX1_endBallot_J6_bitCount_0f7a4
theorem dX1_endBallot_0 : decode cX1_endBallot 0 = .ok (.aload_n 0, 1) := by decide +kernel
theorem dX1_endBallot_1 : decode cX1_endBallot 1 = .ok (.invokevirtual 47, 3) := by decide +kernel
theorem dX1_endBallot_4 : decode cX1_endBallot 4 = .ok (.istore_n 2, 1) := by decide +kernel
theorem dX1_endBallot_5 : decode cX1_endBallot 5 = .ok (.aload_n 0, 1) := by decide +kernel
theorem dX1_endBallot_6 : decode cX1_endBallot 6 = .ok (.getfield 23, 3) := by decide +kernel
theorem dX1_endBallot_9 : decode cX1_endBallot 9 = .ok (.invokestatic 41, 3) := by decide +kernel
theorem dX1_endBallot_12 : decode cX1_endBallot 12 = .ok (.istore_n 3, 1) := by decide +kernel
theorem dX1_endBallot_13 : decode cX1_endBallot 13 = .ok (.aload_n 0, 1) := by decide +kernel
theorem dX1_endBallot_14 : decode cX1_endBallot 14 = .ok (.iconst 0, 1) := by decide +kernel
theorem dX1_endBallot_15 : decode cX1_endBallot 15 = .ok (.putfield 15, 3) := by decide +kernel
theorem dX1_endBallot_18 : decode cX1_endBallot 18 = .ok (.aload_n 0, 1) := by decide +kernel
theorem dX1_endBallot_19 : decode cX1_endBallot 19 = .ok (.iload_n 3, 1) := by decide +kernel
theorem dX1_endBallot_20 : decode cX1_endBallot 20 = .ok (.iload_n 2, 1) := by decide +kernel
theorem dX1_endBallot_21 : decode cX1_endBallot 21 = .ok (.iload_n 3, 1) := by decide +kernel
theorem dX1_endBallot_22 : decode cX1_endBallot 22 = .ok (.isub, 1) := by decide +kernel
theorem dX1_endBallot_23 : decode cX1_endBallot 23 = .ok (.if_icmp .le 14, 3) := by decide +kernel
theorem dX1_endBallot_26 : decode cX1_endBallot 26 = .ok (.iconst 2, 1) := by decide +kernel
theorem dX1_endBallot_27 : decode cX1_endBallot 27 = .ok (.iload_n 2, 1) := by decide +kernel
theorem dX1_endBallot_28 : decode cX1_endBallot 28 = .ok (.imul, 1) := by decide +kernel
theorem dX1_endBallot_29 : decode cX1_endBallot 29 = .ok (.iload_n 1, 1) := by decide +kernel
theorem dX1_endBallot_30 : decode cX1_endBallot 30 = .ok (.if_icmp .lt 7, 3) := by decide +kernel
theorem dX1_endBallot_33 : decode cX1_endBallot 33 = .ok (.iconst 1, 1) := by decide +kernel
theorem dX1_endBallot_34 : decode cX1_endBallot 34 = .ok (.goto 4, 3) := by decide +kernel
theorem dX1_endBallot_37 : decode cX1_endBallot 37 = .ok (.iconst 0, 1) := by decide +kernel
theorem dX1_endBallot_38 : decode cX1_endBallot 38 = .ok (.putfield 26, 3) := by decide +kernel
theorem dX1_endBallot_41 : decode cX1_endBallot 41 = .ok (.return_, 1) := by decide +kernel
theorem dX1_canBeCalledOut_0 : decode cX1_canBeCalledOut 0 = .ok (.aload_n 0, 1) := by decide +kernel
theorem dX1_canBeCalledOut_1 : decode cX1_canBeCalledOut 1 = .ok (.getfield 26, 3) := by decide +kernel
theorem dX1_canBeCalledOut_4 : decode cX1_canBeCalledOut 4 = .ok (.ifCond .eq 21, 3) := by decide +kernel
theorem dX1_canBeCalledOut_7 : decode cX1_canBeCalledOut 7 = .ok (.aload_n 0, 1) := by decide +kernel
theorem dX1_canBeCalledOut_8 : decode cX1_canBeCalledOut 8 = .ok (.getfield 29, 3) := by decide +kernel
theorem dX1_canBeCalledOut_11 : decode cX1_canBeCalledOut 11 = .ok (.ifCond .ne 14, 3) := by decide +kernel
theorem dX1_canBeCalledOut_14 : decode cX1_canBeCalledOut 14 = .ok (.aload_n 0, 1) := by decide +kernel
theorem dX1_canBeCalledOut_15 : decode cX1_canBeCalledOut 15 = .ok (.getfield 15, 3) := by decide +kernel
theorem dX1_canBeCalledOut_18 : decode cX1_canBeCalledOut 18 = .ok (.ifCond .ne 7, 3) := by decide +kernel
theorem dX1_canBeCalledOut_21 : decode cX1_canBeCalledOut 21 = .ok (.iconst 1, 1) := by decide +kernel
theorem dX1_canBeCalledOut_22 : decode cX1_canBeCalledOut 22 = .ok (.goto 4, 3) := by decide +kernel
theorem dX1_canBeCalledOut_25 : decode cX1_canBeCalledOut 25 = .ok (.iconst 0, 1) := by decide +kernel
theorem dX1_canBeCalledOut_26 : decode cX1_canBeCalledOut 26 = .ok (.ireturn, 1) := by decide +kernel
theorem dX2_init_0 : decode cX2_init 0 = .ok (.aload_n 0, 1) := by decide +kernel
theorem dX2_init_1 : decode cX2_init 1 = .ok (.invokespecial 3, 3) := by decide +kernel
theorem dX2_init_4 : decode cX2_init 4 = .ok (.aload_n 0, 1) := by decide +kernel
theorem dX2_init_5 : decode cX2_init 5 = .ok (.bipush 60, 2) := by decide +kernel
theorem dX2_init_7 : decode cX2_init 7 = .ok (.newarray .int, 2) := by decide +kernel
theorem dX2_init_9 : decode cX2_init 9 = .ok (.putfield 9, 3) := by decide +kernel
theorem dX2_init_12 : decode cX2_init 12 = .ok (.aload_n 0, 1) := by decide +kernel
theorem dX2_init_13 : decode cX2_init 13 = .ok (.bipush 60, 2) := by decide +kernel
theorem dX2_init_15 : decode cX2_init 15 = .ok (.newarray .int, 2) := by decide +kernel
theorem dX2_init_17 : decode cX2_init 17 = .ok (.putfield 15, 3) := by decide +kernel
theorem dX2_init_20 : decode cX2_init 20 = .ok (.aload_n 0, 1) := by decide +kernel
theorem dX2_init_21 : decode cX2_init 21 = .ok (.iconst 0, 1) := by decide +kernel
theorem dX2_init_22 : decode cX2_init 22 = .ok (.putfield 18, 3) := by decide +kernel
theorem dX2_init_25 : decode cX2_init 25 = .ok (.aload_n 0, 1) := by decide +kernel
theorem dX2_init_26 : decode cX2_init 26 = .ok (.iconst 0, 1) := by decide +kernel
theorem dX2_init_27 : decode cX2_init 27 = .ok (.putfield 22, 3) := by decide +kernel
theorem dX2_init_30 : decode cX2_init 30 = .ok (.aload_n 0, 1) := by decide +kernel
theorem dX2_init_31 : decode cX2_init 31 = .ok (.iconst 0, 1) := by decide +kernel
theorem dX2_init_32 : decode cX2_init 32 = .ok (.putfield 25, 3) := by decide +kernel
theorem dX2_init_35 : decode cX2_init 35 = .ok (.aload_n 0, 1) := by decide +kernel
theorem dX2_init_36 : decode cX2_init 36 = .ok (.iconst 0, 1) := by decide +kernel
theorem dX2_init_37 : decode cX2_init 37 = .ok (.putfield 29, 3) := by decide +kernel
theorem dX2_init_40 : decode cX2_init 40 = .ok (.aload_n 0, 1) := by decide +kernel
theorem dX2_init_41 : decode cX2_init 41 = .ok (.bipush 60, 2) := by decide +kernel
theorem dX2_init_43 : decode cX2_init 43 = .ok (.putfield 32, 3) := by decide +kernel
theorem dX2_init_46 : decode cX2_init 46 = .ok (.aload_n 0, 1) := by decide +kernel
theorem dX2_init_47 : decode cX2_init 47 = .ok (.iload_n 1, 1) := by decide +kernel
theorem dX2_init_48 : decode cX2_init 48 = .ok (.putfield 35, 3) := by decide +kernel
theorem dX2_init_51 : decode cX2_init 51 = .ok (.aload_n 0, 1) := by decide +kernel
theorem dX2_init_52 : decode cX2_init 52 = .ok (.aload_n 2, 1) := by decide +kernel
theorem dX2_init_53 : decode cX2_init 53 = .ok (.putfield 38, 3) := by decide +kernel
theorem dX2_init_56 : decode cX2_init 56 = .ok (.aload_n 0, 1) := by decide +kernel
theorem dX2_init_57 : decode cX2_init 57 = .ok (.aload_n 3, 1) := by decide +kernel
theorem dX2_init_58 : decode cX2_init 58 = .ok (.putfield 42, 3) := by decide +kernel
theorem dX2_init_61 : decode cX2_init 61 = .ok (.return_, 1) := by decide +kernel
theorem dX2_bit_0 : decode cX2_bit 0 = .ok (.iconst 1, 1) := by decide +kernel
theorem dX2_bit_1 : decode cX2_bit 1 = .ok (.aload_n 0, 1) := by decide +kernel
theorem dX2_bit_2 : decode cX2_bit 2 = .ok (.getfield 35, 3) := by decide +kernel
theorem dX2_bit_5 : decode cX2_bit 5 = .ok (.ishl, 1) := by decide +kernel
theorem dX2_bit_6 : decode cX2_bit 6 = .ok (.ireturn, 1) := by decide +kernel
theorem dX2_standsOn_0 : decode cX2_standsOn 0 = .ok (.aload_n 0, 1) := by decide +kernel
theorem dX2_standsOn_1 : decode cX2_standsOn 1 = .ok (.getfield 32, 3) := by decide +kernel
theorem dX2_standsOn_4 : decode cX2_standsOn 4 = .ok (.bipush 60, 2) := by decide +kernel
theorem dX2_standsOn_6 : decode cX2_standsOn 6 = .ok (.if_icmp .ge 23, 3) := by decide +kernel
theorem dX2_standsOn_9 : decode cX2_standsOn 9 = .ok (.iload_n 1, 1) := by decide +kernel
theorem dX2_standsOn_10 : decode cX2_standsOn 10 = .ok (.bipush 30, 2) := by decide +kernel
theorem dX2_standsOn_12 : decode cX2_standsOn 12 = .ok (.aload_n 0, 1) := by decide +kernel
theorem dX2_standsOn_13 : decode cX2_standsOn 13 = .ok (.getfield 32, 3) := by decide +kernel
theorem dX2_standsOn_16 : decode cX2_standsOn 16 = .ok (.iconst 1, 1) := by decide +kernel
theorem dX2_standsOn_17 : decode cX2_standsOn 17 = .ok (.iadd, 1) := by decide +kernel
theorem dX2_standsOn_18 : decode cX2_standsOn 18 = .ok (.imul, 1) := by decide +kernel
theorem dX2_standsOn_19 : decode cX2_standsOn 19 = .ok (.bipush 60, 2) := by decide +kernel
theorem dX2_standsOn_21 : decode cX2_standsOn 21 = .ok (.iadd, 1) := by decide +kernel
theorem dX2_standsOn_22 : decode cX2_standsOn 22 = .ok (.if_icmp .lt 7, 3) := by decide +kernel
theorem dX2_standsOn_25 : decode cX2_standsOn 25 = .ok (.iconst 1, 1) := by decide +kernel
theorem dX2_standsOn_26 : decode cX2_standsOn 26 = .ok (.goto 4, 3) := by decide +kernel
theorem dX2_standsOn_29 : decode cX2_standsOn 29 = .ok (.iconst 0, 1) := by decide +kernel
theorem dX2_standsOn_30 : decode cX2_standsOn 30 = .ok (.istore_n 2, 1) := by decide +kernel
theorem dX2_standsOn_31 : decode cX2_standsOn 31 = .ok (.aload_n 0, 1) := by decide +kernel
theorem dX2_standsOn_32 : decode cX2_standsOn 32 = .ok (.getfield 22, 3) := by decide +kernel
theorem dX2_standsOn_35 : decode cX2_standsOn 35 = .ok (.ifCond .ne 11, 3) := by decide +kernel
theorem dX2_standsOn_38 : decode cX2_standsOn 38 = .ok (.iload_n 2, 1) := by decide +kernel
theorem dX2_standsOn_39 : decode cX2_standsOn 39 = .ok (.ifCond .ne 7, 3) := by decide +kernel
theorem dX2_standsOn_42 : decode cX2_standsOn 42 = .ok (.iconst 1, 1) := by decide +kernel
theorem dX2_standsOn_43 : decode cX2_standsOn 43 = .ok (.goto 4, 3) := by decide +kernel
theorem dX2_standsOn_46 : decode cX2_standsOn 46 = .ok (.iconst 0, 1) := by decide +kernel
theorem dX2_standsOn_47 : decode cX2_standsOn 47 = .ok (.ireturn, 1) := by decide +kernel
theorem dX2_sumOwed_0 : decode cX2_sumOwed 0 = .ok (.iconst 0, 1) := by decide +kernel
theorem dX2_sumOwed_1 : decode cX2_sumOwed 1 = .ok (.istore_n 1, 1) := by decide +kernel
theorem dX2_sumOwed_2 : decode cX2_sumOwed 2 = .ok (.aload_n 0, 1) := by decide +kernel
theorem dX2_sumOwed_3 : decode cX2_sumOwed 3 = .ok (.getfield 32, 3) := by decide +kernel
theorem dX2_sumOwed_6 : decode cX2_sumOwed 6 = .ok (.istore_n 2, 1) := by decide +kernel
theorem dX2_sumOwed_7 : decode cX2_sumOwed 7 = .ok (.iload_n 2, 1) := by decide +kernel
theorem dX2_sumOwed_8 : decode cX2_sumOwed 8 = .ok (.bipush 60, 2) := by decide +kernel
theorem dX2_sumOwed_10 : decode cX2_sumOwed 10 = .ok (.if_icmp .ge 18, 3) := by decide +kernel
theorem dX2_sumOwed_13 : decode cX2_sumOwed 13 = .ok (.iload_n 1, 1) := by decide +kernel
theorem dX2_sumOwed_14 : decode cX2_sumOwed 14 = .ok (.aload_n 0, 1) := by decide +kernel
theorem dX2_sumOwed_15 : decode cX2_sumOwed 15 = .ok (.getfield 9, 3) := by decide +kernel
theorem dX2_sumOwed_18 : decode cX2_sumOwed 18 = .ok (.iload_n 2, 1) := by decide +kernel
theorem dX2_sumOwed_19 : decode cX2_sumOwed 19 = .ok (.iaload, 1) := by decide +kernel
theorem dX2_sumOwed_20 : decode cX2_sumOwed 20 = .ok (.iadd, 1) := by decide +kernel
theorem dX2_sumOwed_21 : decode cX2_sumOwed 21 = .ok (.istore_n 1, 1) := by decide +kernel
theorem dX2_sumOwed_22 : decode cX2_sumOwed 22 = .ok (.iinc 2 1, 3) := by decide +kernel
theorem dX2_sumOwed_25 : decode cX2_sumOwed 25 = .ok (.goto (-18), 3) := by decide +kernel
theorem dX2_sumOwed_28 : decode cX2_sumOwed 28 = .ok (.iload_n 1, 1) := by decide +kernel
theorem dX2_sumOwed_29 : decode cX2_sumOwed 29 = .ok (.ireturn, 1) := by decide +kernel
set_option maxRecDepth 20000 in
theorem ggX2_charge_X2_layLeftOver : GoodIn wsX2_charge wsX2_layLeftOver := goodIn_r _ [12, 3, 13, 2, 4, 5, 6, 7, 14, 15, 16, 17, 18, 11, 19, 20, 21, 22, 23, 24, 25, 26, 27, 28, 29, 31, 32, 33, 34, 35, 36, 37] (by decide +kernel) (by decide +kernel)
set_option maxRecDepth 20000 in
theorem gX2_charge_X2_layLeftOver : GoodIn wsX2_charge (wsV RX2 57 RX2 yX2_layLeftOver wsX2_layLeftOver) := goodIn_app (goodIn_of _ (by decide +kernel)) ggX2_charge_X2_layLeftOver
theorem dX2_charge_0 : decode cX2_charge 0 = .ok (.iload_n 1, 1) := by decide +kernel
theorem dX2_charge_1 : decode cX2_charge 1 = .ok (.ifCond .lt 19, 3) := by decide +kernel
theorem dX2_charge_4 : decode cX2_charge 4 = .ok (.iload_n 1, 1) := by decide +kernel
theorem dX2_charge_5 : decode cX2_charge 5 = .ok (.bipush 60, 2) := by decide +kernel
theorem dX2_charge_7 : decode cX2_charge 7 = .ok (.if_icmp .ge 13, 3) := by decide +kernel
theorem dX2_charge_10 : decode cX2_charge 10 = .ok (.aload_n 0, 1) := by decide +kernel
theorem dX2_charge_11 : decode cX2_charge 11 = .ok (.getfield 42, 3) := by decide +kernel
theorem dX2_charge_14 : decode cX2_charge 14 = .ok (.getfield 46, 3) := by decide +kernel
theorem dX2_charge_17 : decode cX2_charge 17 = .ok (.ifCond .ne 5, 3) := by decide +kernel
theorem dX2_charge_20 : decode cX2_charge 20 = .ok (.iconst 0, 1) := by decide +kernel
theorem dX2_charge_21 : decode cX2_charge 21 = .ok (.ireturn, 1) := by decide +kernel
theorem dX2_charge_22 : decode cX2_charge 22 = .ok (.aload_n 0, 1) := by decide +kernel
theorem dX2_charge_23 : decode cX2_charge 23 = .ok (.getfield 9, 3) := by decide +kernel
theorem dX2_charge_26 : decode cX2_charge 26 = .ok (.iload_n 1, 1) := by decide +kernel
theorem dX2_charge_27 : decode cX2_charge 27 = .ok (.aload_n 0, 1) := by decide +kernel
theorem dX2_charge_28 : decode cX2_charge 28 = .ok (.getfield 42, 3) := by decide +kernel
theorem dX2_charge_31 : decode cX2_charge 31 = .ok (.getfield 46, 3) := by decide +kernel
theorem dX2_charge_34 : decode cX2_charge 34 = .ok (.iastore, 1) := by decide +kernel
theorem dX2_charge_35 : decode cX2_charge 35 = .ok (.aload_n 0, 1) := by decide +kernel
theorem dX2_charge_36 : decode cX2_charge 36 = .ok (.aload_n 0, 1) := by decide +kernel
theorem dX2_charge_37 : decode cX2_charge 37 = .ok (.getfield 32, 3) := by decide +kernel
theorem dX2_charge_40 : decode cX2_charge 40 = .ok (.iload_n 1, 1) := by decide +kernel
theorem dX2_charge_41 : decode cX2_charge 41 = .ok (.invokestatic 51, 3) := by decide +kernel
theorem dX2_charge_44 : decode cX2_charge 44 = .ok (.putfield 32, 3) := by decide +kernel
theorem dX2_charge_47 : decode cX2_charge 47 = .ok (.aload_n 0, 1) := by decide +kernel
theorem dX2_charge_48 : decode cX2_charge 48 = .ok (.invokevirtual 57, 3) := by decide +kernel
theorem dX2_charge_51 : decode cX2_charge 51 = .ok (.ireturn, 1) := by decide +kernel
set_option maxRecDepth 20000 in
theorem ggX2_takeIn_X2_layLeftOver : GoodIn wsX2_takeIn wsX2_layLeftOver := goodIn_r _ [6, 7, 1, 8, 9, 10, 11, 12, 13, 14, 15, 16, 17, 5, 18, 19, 20, 21, 22, 23, 24, 25, 26, 27, 28, 29, 30, 31, 32, 33, 34, 35] (by decide +kernel) (by decide +kernel)
set_option maxRecDepth 20000 in
theorem gX2_takeIn_X2_layLeftOver : GoodIn wsX2_takeIn (wsV RX2 57 RX2 yX2_layLeftOver wsX2_layLeftOver) := goodIn_app (goodIn_of _ (by decide +kernel)) ggX2_takeIn_X2_layLeftOver
theorem dX2_takeIn_0 : decode cX2_takeIn 0 = .ok (.aload_n 0, 1) := by decide +kernel
theorem dX2_takeIn_1 : decode cX2_takeIn 1 = .ok (.dup, 1) := by decide +kernel
theorem dX2_takeIn_2 : decode cX2_takeIn 2 = .ok (.getfield 25, 3) := by decide +kernel
theorem dX2_takeIn_5 : decode cX2_takeIn 5 = .ok (.iload_n 1, 1) := by decide +kernel
theorem dX2_takeIn_6 : decode cX2_takeIn 6 = .ok (.iadd, 1) := by decide +kernel
theorem dX2_takeIn_7 : decode cX2_takeIn 7 = .ok (.putfield 25, 3) := by decide +kernel
theorem dX2_takeIn_10 : decode cX2_takeIn 10 = .ok (.aload_n 0, 1) := by decide +kernel
theorem dX2_takeIn_11 : decode cX2_takeIn 11 = .ok (.invokevirtual 57, 3) := by decide +kernel
theorem dX2_takeIn_14 : decode cX2_takeIn 14 = .ok (.ireturn, 1) := by decide +kernel
set_option maxRecDepth 20000 in
theorem ggX2_layLeftOver_X2_skipSettled : GoodIn wsX2_layLeftOver wsX2_skipSettled := goodIn_r _ [14, 1, 3, 15, 16, 17, 18, 19, 20, 21, 22, 23, 24] (by decide +kernel) (by decide +kernel)
set_option maxRecDepth 20000 in
theorem gX2_layLeftOver_X2_skipSettled : GoodIn wsX2_layLeftOver (wsV RX2 64 RX2 yX2_skipSettled wsX2_skipSettled) := goodIn_app (goodIn_of _ (by decide +kernel)) ggX2_layLeftOver_X2_skipSettled
theorem dX2_layLeftOver_0 : decode cX2_layLeftOver 0 = .ok (.iconst 0, 1) := by decide +kernel
theorem dX2_layLeftOver_1 : decode cX2_layLeftOver 1 = .ok (.istore_n 1, 1) := by decide +kernel
theorem dX2_layLeftOver_2 : decode cX2_layLeftOver 2 = .ok (.aload_n 0, 1) := by decide +kernel
theorem dX2_layLeftOver_3 : decode cX2_layLeftOver 3 = .ok (.getfield 32, 3) := by decide +kernel
theorem dX2_layLeftOver_6 : decode cX2_layLeftOver 6 = .ok (.istore_n 2, 1) := by decide +kernel
theorem dX2_layLeftOver_7 : decode cX2_layLeftOver 7 = .ok (.iload_n 2, 1) := by decide +kernel
theorem dX2_layLeftOver_8 : decode cX2_layLeftOver 8 = .ok (.bipush 60, 2) := by decide +kernel
theorem dX2_layLeftOver_10 : decode cX2_layLeftOver 10 = .ok (.if_icmp .ge 79, 3) := by decide +kernel
theorem dX2_layLeftOver_13 : decode cX2_layLeftOver 13 = .ok (.aload_n 0, 1) := by decide +kernel
theorem dX2_layLeftOver_14 : decode cX2_layLeftOver 14 = .ok (.getfield 25, 3) := by decide +kernel
theorem dX2_layLeftOver_17 : decode cX2_layLeftOver 17 = .ok (.ifCond .le 72, 3) := by decide +kernel
theorem dX2_layLeftOver_20 : decode cX2_layLeftOver 20 = .ok (.aload_n 0, 1) := by decide +kernel
theorem dX2_layLeftOver_21 : decode cX2_layLeftOver 21 = .ok (.getfield 25, 3) := by decide +kernel
theorem dX2_layLeftOver_24 : decode cX2_layLeftOver 24 = .ok (.aload_n 0, 1) := by decide +kernel
theorem dX2_layLeftOver_25 : decode cX2_layLeftOver 25 = .ok (.getfield 9, 3) := by decide +kernel
theorem dX2_layLeftOver_28 : decode cX2_layLeftOver 28 = .ok (.iload_n 2, 1) := by decide +kernel
theorem dX2_layLeftOver_29 : decode cX2_layLeftOver 29 = .ok (.iaload, 1) := by decide +kernel
theorem dX2_layLeftOver_30 : decode cX2_layLeftOver 30 = .ok (.invokestatic 51, 3) := by decide +kernel
theorem dX2_layLeftOver_33 : decode cX2_layLeftOver 33 = .ok (.istore_n 3, 1) := by decide +kernel
theorem dX2_layLeftOver_34 : decode cX2_layLeftOver 34 = .ok (.aload_n 0, 1) := by decide +kernel
theorem dX2_layLeftOver_35 : decode cX2_layLeftOver 35 = .ok (.dup, 1) := by decide +kernel
theorem dX2_layLeftOver_36 : decode cX2_layLeftOver 36 = .ok (.getfield 25, 3) := by decide +kernel
theorem dX2_layLeftOver_39 : decode cX2_layLeftOver 39 = .ok (.iload_n 3, 1) := by decide +kernel
theorem dX2_layLeftOver_40 : decode cX2_layLeftOver 40 = .ok (.isub, 1) := by decide +kernel
theorem dX2_layLeftOver_41 : decode cX2_layLeftOver 41 = .ok (.putfield 25, 3) := by decide +kernel
theorem dX2_layLeftOver_44 : decode cX2_layLeftOver 44 = .ok (.aload_n 0, 1) := by decide +kernel
theorem dX2_layLeftOver_45 : decode cX2_layLeftOver 45 = .ok (.getfield 9, 3) := by decide +kernel
theorem dX2_layLeftOver_48 : decode cX2_layLeftOver 48 = .ok (.iload_n 2, 1) := by decide +kernel
theorem dX2_layLeftOver_49 : decode cX2_layLeftOver 49 = .ok (.dup2, 1) := by decide +kernel
theorem dX2_layLeftOver_50 : decode cX2_layLeftOver 50 = .ok (.iaload, 1) := by decide +kernel
theorem dX2_layLeftOver_51 : decode cX2_layLeftOver 51 = .ok (.iload_n 3, 1) := by decide +kernel
theorem dX2_layLeftOver_52 : decode cX2_layLeftOver 52 = .ok (.isub, 1) := by decide +kernel
theorem dX2_layLeftOver_53 : decode cX2_layLeftOver 53 = .ok (.iastore, 1) := by decide +kernel
theorem dX2_layLeftOver_54 : decode cX2_layLeftOver 54 = .ok (.aload_n 0, 1) := by decide +kernel
theorem dX2_layLeftOver_55 : decode cX2_layLeftOver 55 = .ok (.getfield 15, 3) := by decide +kernel
theorem dX2_layLeftOver_58 : decode cX2_layLeftOver 58 = .ok (.iload_n 2, 1) := by decide +kernel
theorem dX2_layLeftOver_59 : decode cX2_layLeftOver 59 = .ok (.dup2, 1) := by decide +kernel
theorem dX2_layLeftOver_60 : decode cX2_layLeftOver 60 = .ok (.iaload, 1) := by decide +kernel
theorem dX2_layLeftOver_61 : decode cX2_layLeftOver 61 = .ok (.iload_n 3, 1) := by decide +kernel
theorem dX2_layLeftOver_62 : decode cX2_layLeftOver 62 = .ok (.iadd, 1) := by decide +kernel
theorem dX2_layLeftOver_63 : decode cX2_layLeftOver 63 = .ok (.iastore, 1) := by decide +kernel
theorem dX2_layLeftOver_64 : decode cX2_layLeftOver 64 = .ok (.aload_n 0, 1) := by decide +kernel
theorem dX2_layLeftOver_65 : decode cX2_layLeftOver 65 = .ok (.getfield 38, 3) := by decide +kernel
theorem dX2_layLeftOver_68 : decode cX2_layLeftOver 68 = .ok (.getfield 61, 3) := by decide +kernel
theorem dX2_layLeftOver_71 : decode cX2_layLeftOver 71 = .ok (.iload_n 2, 1) := by decide +kernel
theorem dX2_layLeftOver_72 : decode cX2_layLeftOver 72 = .ok (.dup2, 1) := by decide +kernel
theorem dX2_layLeftOver_73 : decode cX2_layLeftOver 73 = .ok (.iaload, 1) := by decide +kernel
theorem dX2_layLeftOver_74 : decode cX2_layLeftOver 74 = .ok (.iload_n 3, 1) := by decide +kernel
theorem dX2_layLeftOver_75 : decode cX2_layLeftOver 75 = .ok (.iadd, 1) := by decide +kernel
theorem dX2_layLeftOver_76 : decode cX2_layLeftOver 76 = .ok (.iastore, 1) := by decide +kernel
theorem dX2_layLeftOver_77 : decode cX2_layLeftOver 77 = .ok (.iload_n 1, 1) := by decide +kernel
theorem dX2_layLeftOver_78 : decode cX2_layLeftOver 78 = .ok (.iload_n 3, 1) := by decide +kernel
theorem dX2_layLeftOver_79 : decode cX2_layLeftOver 79 = .ok (.iconst 5, 1) := by decide +kernel
theorem dX2_layLeftOver_80 : decode cX2_layLeftOver 80 = .ok (.idiv, 1) := by decide +kernel
theorem dX2_layLeftOver_81 : decode cX2_layLeftOver 81 = .ok (.iadd, 1) := by decide +kernel
theorem dX2_layLeftOver_82 : decode cX2_layLeftOver 82 = .ok (.istore_n 1, 1) := by decide +kernel
theorem dX2_layLeftOver_83 : decode cX2_layLeftOver 83 = .ok (.iinc 2 1, 3) := by decide +kernel
theorem dX2_layLeftOver_86 : decode cX2_layLeftOver 86 = .ok (.goto (-79), 3) := by decide +kernel
theorem dX2_layLeftOver_89 : decode cX2_layLeftOver 89 = .ok (.aload_n 0, 1) := by decide +kernel
theorem dX2_layLeftOver_90 : decode cX2_layLeftOver 90 = .ok (.invokevirtual 64, 3) := by decide +kernel
theorem dX2_layLeftOver_93 : decode cX2_layLeftOver 93 = .ok (.iload_n 1, 1) := by decide +kernel
theorem dX2_layLeftOver_94 : decode cX2_layLeftOver 94 = .ok (.ireturn, 1) := by decide +kernel
theorem dX2_skipSettled_0 : decode cX2_skipSettled 0 = .ok (.aload_n 0, 1) := by decide +kernel
theorem dX2_skipSettled_1 : decode cX2_skipSettled 1 = .ok (.getfield 32, 3) := by decide +kernel
theorem dX2_skipSettled_4 : decode cX2_skipSettled 4 = .ok (.bipush 60, 2) := by decide +kernel
theorem dX2_skipSettled_6 : decode cX2_skipSettled 6 = .ok (.if_icmp .ge 28, 3) := by decide +kernel
theorem dX2_skipSettled_9 : decode cX2_skipSettled 9 = .ok (.aload_n 0, 1) := by decide +kernel
theorem dX2_skipSettled_10 : decode cX2_skipSettled 10 = .ok (.getfield 9, 3) := by decide +kernel
theorem dX2_skipSettled_13 : decode cX2_skipSettled 13 = .ok (.aload_n 0, 1) := by decide +kernel
theorem dX2_skipSettled_14 : decode cX2_skipSettled 14 = .ok (.getfield 32, 3) := by decide +kernel
theorem dX2_skipSettled_17 : decode cX2_skipSettled 17 = .ok (.iaload, 1) := by decide +kernel
theorem dX2_skipSettled_18 : decode cX2_skipSettled 18 = .ok (.ifCond .ne 16, 3) := by decide +kernel
theorem dX2_skipSettled_21 : decode cX2_skipSettled 21 = .ok (.aload_n 0, 1) := by decide +kernel
theorem dX2_skipSettled_22 : decode cX2_skipSettled 22 = .ok (.dup, 1) := by decide +kernel
theorem dX2_skipSettled_23 : decode cX2_skipSettled 23 = .ok (.getfield 32, 3) := by decide +kernel
theorem dX2_skipSettled_26 : decode cX2_skipSettled 26 = .ok (.iconst 1, 1) := by decide +kernel
theorem dX2_skipSettled_27 : decode cX2_skipSettled 27 = .ok (.iadd, 1) := by decide +kernel
theorem dX2_skipSettled_28 : decode cX2_skipSettled 28 = .ok (.putfield 32, 3) := by decide +kernel
theorem dX2_skipSettled_31 : decode cX2_skipSettled 31 = .ok (.goto (-31), 3) := by decide +kernel
theorem dX2_skipSettled_34 : decode cX2_skipSettled 34 = .ok (.return_, 1) := by decide +kernel
set_option maxRecDepth 20000 in
theorem ggX3_init_X0_init : GoodIn wsX3_init wsX0_init := goodIn_r _ [20, 21, 2, 3, 22, 34] (by decide +kernel) (by decide +kernel)
set_option maxRecDepth 20000 in
theorem gX3_init_X0_init_n11 : GoodIn wsX3_init (wsX0_init) := ggX3_init_X0_init
set_option maxRecDepth 20000 in
theorem ggX3_init_X1_init : GoodIn wsX3_init wsX1_init := goodIn_r _ [24, 25, 2, 3, 26, 27, 28, 29, 30, 31, 32, 33, 43, 44, 45, 46, 47, 48, 49] (by decide +kernel) (by decide +kernel)
set_option maxRecDepth 20000 in
theorem gX3_init_X1_init_n20 : GoodIn wsX3_init (wsX1_init) := ggX3_init_X1_init
theorem dX3_init_0 : decode cX3_init 0 = .ok (.aload_n 0, 1) := by decide +kernel
theorem dX3_init_1 : decode cX3_init 1 = .ok (.invokespecial 3, 3) := by decide +kernel
theorem dX3_init_4 : decode cX3_init 4 = .ok (.aload_n 0, 1) := by decide +kernel
theorem dX3_init_5 : decode cX3_init 5 = .ok (.iconst 3, 1) := by decide +kernel
theorem dX3_init_6 : decode cX3_init 6 = .ok (.anewarray 9, 3) := by decide +kernel
theorem dX3_init_9 : decode cX3_init 9 = .ok (.dup, 1) := by decide +kernel
theorem dX3_init_10 : decode cX3_init 10 = .ok (.iconst 0, 1) := by decide +kernel
theorem dX3_init_11 : decode cX3_init 11 = .ok (.new 9, 3) := by decide +kernel
theorem dX3_init_14 : decode cX3_init 14 = .ok (.dup, 1) := by decide +kernel
theorem dX3_init_15 : decode cX3_init 15 = .ok (.sipush 1000, 3) := by decide +kernel
theorem dX3_init_18 : decode cX3_init 18 = .ok (.invokespecial 11, 3) := by decide +kernel
theorem dX3_init_21 : decode cX3_init 21 = .ok (.aastore, 1) := by decide +kernel
theorem dX3_init_22 : decode cX3_init 22 = .ok (.dup, 1) := by decide +kernel
theorem dX3_init_23 : decode cX3_init 23 = .ok (.iconst 1, 1) := by decide +kernel
theorem dX3_init_24 : decode cX3_init 24 = .ok (.new 9, 3) := by decide +kernel
theorem dX3_init_27 : decode cX3_init 27 = .ok (.dup, 1) := by decide +kernel
theorem dX3_init_28 : decode cX3_init 28 = .ok (.sipush 2000, 3) := by decide +kernel
theorem dX3_init_31 : decode cX3_init 31 = .ok (.invokespecial 11, 3) := by decide +kernel
theorem dX3_init_34 : decode cX3_init 34 = .ok (.aastore, 1) := by decide +kernel
theorem dX3_init_35 : decode cX3_init 35 = .ok (.dup, 1) := by decide +kernel
theorem dX3_init_36 : decode cX3_init 36 = .ok (.iconst 2, 1) := by decide +kernel
theorem dX3_init_37 : decode cX3_init 37 = .ok (.new 9, 3) := by decide +kernel
theorem dX3_init_40 : decode cX3_init 40 = .ok (.dup, 1) := by decide +kernel
theorem dX3_init_41 : decode cX3_init 41 = .ok (.sipush 3000, 3) := by decide +kernel
theorem dX3_init_44 : decode cX3_init 44 = .ok (.invokespecial 11, 3) := by decide +kernel
theorem dX3_init_47 : decode cX3_init 47 = .ok (.aastore, 1) := by decide +kernel
theorem dX3_init_48 : decode cX3_init 48 = .ok (.putfield 14, 3) := by decide +kernel
theorem dX3_init_51 : decode cX3_init 51 = .ok (.aload_n 0, 1) := by decide +kernel
theorem dX3_init_52 : decode cX3_init 52 = .ok (.iconst 4, 1) := by decide +kernel
theorem dX3_init_53 : decode cX3_init 53 = .ok (.anewarray 18, 3) := by decide +kernel
theorem dX3_init_56 : decode cX3_init 56 = .ok (.dup, 1) := by decide +kernel
theorem dX3_init_57 : decode cX3_init 57 = .ok (.iconst 0, 1) := by decide +kernel
theorem dX3_init_58 : decode cX3_init 58 = .ok (.new 18, 3) := by decide +kernel
theorem dX3_init_61 : decode cX3_init 61 = .ok (.dup, 1) := by decide +kernel
theorem dX3_init_62 : decode cX3_init 62 = .ok (.invokespecial 20, 3) := by decide +kernel
theorem dX3_init_65 : decode cX3_init 65 = .ok (.aastore, 1) := by decide +kernel
theorem dX3_init_66 : decode cX3_init 66 = .ok (.dup, 1) := by decide +kernel
theorem dX3_init_67 : decode cX3_init 67 = .ok (.iconst 1, 1) := by decide +kernel
theorem dX3_init_68 : decode cX3_init 68 = .ok (.new 18, 3) := by decide +kernel
theorem dX3_init_71 : decode cX3_init 71 = .ok (.dup, 1) := by decide +kernel
theorem dX3_init_72 : decode cX3_init 72 = .ok (.invokespecial 20, 3) := by decide +kernel
theorem dX3_init_75 : decode cX3_init 75 = .ok (.aastore, 1) := by decide +kernel
theorem dX3_init_76 : decode cX3_init 76 = .ok (.dup, 1) := by decide +kernel
theorem dX3_init_77 : decode cX3_init 77 = .ok (.iconst 2, 1) := by decide +kernel
theorem dX3_init_78 : decode cX3_init 78 = .ok (.new 18, 3) := by decide +kernel
theorem dX3_init_81 : decode cX3_init 81 = .ok (.dup, 1) := by decide +kernel
theorem dX3_init_82 : decode cX3_init 82 = .ok (.invokespecial 20, 3) := by decide +kernel
theorem dX3_init_85 : decode cX3_init 85 = .ok (.aastore, 1) := by decide +kernel
theorem dX3_init_86 : decode cX3_init 86 = .ok (.dup, 1) := by decide +kernel
theorem dX3_init_87 : decode cX3_init 87 = .ok (.iconst 3, 1) := by decide +kernel
theorem dX3_init_88 : decode cX3_init 88 = .ok (.new 18, 3) := by decide +kernel
theorem dX3_init_91 : decode cX3_init 91 = .ok (.dup, 1) := by decide +kernel
theorem dX3_init_92 : decode cX3_init 92 = .ok (.invokespecial 20, 3) := by decide +kernel
theorem dX3_init_95 : decode cX3_init 95 = .ok (.aastore, 1) := by decide +kernel
theorem dX3_init_96 : decode cX3_init 96 = .ok (.putfield 21, 3) := by decide +kernel
theorem dX3_init_99 : decode cX3_init 99 = .ok (.aload_n 0, 1) := by decide +kernel
theorem dX3_init_100 : decode cX3_init 100 = .ok (.bipush 16, 2) := by decide +kernel
theorem dX3_init_102 : decode cX3_init 102 = .ok (.anewarray 25, 3) := by decide +kernel
theorem dX3_init_105 : decode cX3_init 105 = .ok (.putfield 27, 3) := by decide +kernel
theorem dX3_init_108 : decode cX3_init 108 = .ok (.aload_n 0, 1) := by decide +kernel
theorem dX3_init_109 : decode cX3_init 109 = .ok (.iconst 0, 1) := by decide +kernel
theorem dX3_init_110 : decode cX3_init 110 = .ok (.putfield 31, 3) := by decide +kernel
theorem dX3_init_113 : decode cX3_init 113 = .ok (.aload_n 0, 1) := by decide +kernel
theorem dX3_init_114 : decode cX3_init 114 = .ok (.sipush 500, 3) := by decide +kernel
theorem dX3_init_117 : decode cX3_init 117 = .ok (.putfield 35, 3) := by decide +kernel
theorem dX3_init_120 : decode cX3_init 120 = .ok (.aload_n 0, 1) := by decide +kernel
theorem dX3_init_121 : decode cX3_init 121 = .ok (.iconst 0, 1) := by decide +kernel
theorem dX3_init_122 : decode cX3_init 122 = .ok (.putfield 38, 3) := by decide +kernel
theorem dX3_init_125 : decode cX3_init 125 = .ok (.aload_n 0, 1) := by decide +kernel
theorem dX3_init_126 : decode cX3_init 126 = .ok (.iconst 0, 1) := by decide +kernel
theorem dX3_init_127 : decode cX3_init 127 = .ok (.putfield 41, 3) := by decide +kernel
theorem dX3_init_130 : decode cX3_init 130 = .ok (.aload_n 0, 1) := by decide +kernel
theorem dX3_init_131 : decode cX3_init 131 = .ok (.iconst 0, 1) := by decide +kernel
theorem dX3_init_132 : decode cX3_init 132 = .ok (.putfield 44, 3) := by decide +kernel
theorem dX3_init_135 : decode cX3_init 135 = .ok (.return_, 1) := by decide +kernel
set_option maxRecDepth 20000 in
theorem ggX3_setDues_X3_bandAt : GoodIn wsX3_setDues wsX3_bandAt := goodIn_ca (goodIn_r _ [6, 7, 8, 9, 17, 18, 19, 20, 21, 22, 23, 24] (by decide +kernel) (by decide +kernel)) (goodIn_sub (fun _ h => List.mem_cons_of_mem _ (List.mem_append_left _ (List.mem_append_right _ h))) (by decide +kernel))
set_option maxRecDepth 20000 in
theorem gX3_setDues_X3_bandAt : GoodIn wsX3_setDues (wsV RX3 47 RX3 yX3_bandAt wsX3_bandAt) := goodIn_app (goodIn_of _ (by decide +kernel)) ggX3_setDues_X3_bandAt
set_option maxRecDepth 20000 in
theorem ggX3_setDues_X3_checkRange : GoodIn wsX3_setDues wsX3_checkRange := goodIn_ca (goodIn_r _ [13, 14, 15] (by decide +kernel) (by decide +kernel)) (goodIn_sub (fun _ h => List.mem_cons_of_mem _ (List.mem_append_right _ h)) (by decide +kernel))
set_option maxRecDepth 20000 in
theorem gX3_setDues_X3_checkRange : GoodIn wsX3_setDues (wsV RX3 52 RX3 yX3_checkRange wsX3_checkRange) := goodIn_app (goodIn_of _ (by decide +kernel)) ggX3_setDues_X3_checkRange
theorem dX3_setDues_0 : decode cX3_setDues 0 = .ok (.aload_n 0, 1) := by decide +kernel
theorem dX3_setDues_1 : decode cX3_setDues 1 = .ok (.iload_n 1, 1) := by decide +kernel
theorem dX3_setDues_2 : decode cX3_setDues 2 = .ok (.invokevirtual 47, 3) := by decide +kernel
theorem dX3_setDues_5 : decode cX3_setDues 5 = .ok (.astore_n 3, 1) := by decide +kernel
theorem dX3_setDues_6 : decode cX3_setDues 6 = .ok (.aload_n 0, 1) := by decide +kernel
theorem dX3_setDues_7 : decode cX3_setDues 7 = .ok (.iload_n 2, 1) := by decide +kernel
theorem dX3_setDues_8 : decode cX3_setDues 8 = .ok (.iconst 0, 1) := by decide +kernel
theorem dX3_setDues_9 : decode cX3_setDues 9 = .ok (.ldc 51, 2) := by decide +kernel
theorem dX3_setDues_11 : decode cX3_setDues 11 = .ok (.invokevirtual 52, 3) := by decide +kernel
theorem dX3_setDues_14 : decode cX3_setDues 14 = .ok (.aload_n 3, 1) := by decide +kernel
theorem dX3_setDues_15 : decode cX3_setDues 15 = .ok (.getfield 56, 3) := by decide +kernel
theorem dX3_setDues_18 : decode cX3_setDues 18 = .ok (.istore 4, 2) := by decide +kernel
theorem dX3_setDues_20 : decode cX3_setDues 20 = .ok (.aload_n 3, 1) := by decide +kernel
theorem dX3_setDues_21 : decode cX3_setDues 21 = .ok (.iload_n 2, 1) := by decide +kernel
theorem dX3_setDues_22 : decode cX3_setDues 22 = .ok (.putfield 56, 3) := by decide +kernel
theorem dX3_setDues_25 : decode cX3_setDues 25 = .ok (.iload 4, 2) := by decide +kernel
theorem dX3_setDues_27 : decode cX3_setDues 27 = .ok (.ireturn, 1) := by decide +kernel
set_option maxRecDepth 20000 in
theorem ggX3_setStrikePay_X3_checkRange : GoodIn wsX3_setStrikePay wsX3_checkRange := goodIn_ca (goodIn_r _ [7, 8, 9] (by decide +kernel) (by decide +kernel)) (goodIn_sub (fun _ h => List.mem_cons_of_mem _ (List.mem_append_right _ h)) (by decide +kernel))
set_option maxRecDepth 20000 in
theorem gX3_setStrikePay_X3_checkRange : GoodIn wsX3_setStrikePay (wsV RX3 52 RX3 yX3_checkRange wsX3_checkRange) := goodIn_app (goodIn_of _ (by decide +kernel)) ggX3_setStrikePay_X3_checkRange
theorem dX3_setStrikePay_0 : decode cX3_setStrikePay 0 = .ok (.aload_n 0, 1) := by decide +kernel
theorem dX3_setStrikePay_1 : decode cX3_setStrikePay 1 = .ok (.iload_n 1, 1) := by decide +kernel
theorem dX3_setStrikePay_2 : decode cX3_setStrikePay 2 = .ok (.iconst 0, 1) := by decide +kernel
theorem dX3_setStrikePay_3 : decode cX3_setStrikePay 3 = .ok (.ldc 51, 2) := by decide +kernel
theorem dX3_setStrikePay_5 : decode cX3_setStrikePay 5 = .ok (.invokevirtual 52, 3) := by decide +kernel
theorem dX3_setStrikePay_8 : decode cX3_setStrikePay 8 = .ok (.aload_n 0, 1) := by decide +kernel
theorem dX3_setStrikePay_9 : decode cX3_setStrikePay 9 = .ok (.getfield 35, 3) := by decide +kernel
theorem dX3_setStrikePay_12 : decode cX3_setStrikePay 12 = .ok (.istore_n 2, 1) := by decide +kernel
theorem dX3_setStrikePay_13 : decode cX3_setStrikePay 13 = .ok (.aload_n 0, 1) := by decide +kernel
theorem dX3_setStrikePay_14 : decode cX3_setStrikePay 14 = .ok (.iload_n 1, 1) := by decide +kernel
theorem dX3_setStrikePay_15 : decode cX3_setStrikePay 15 = .ok (.putfield 35, 3) := by decide +kernel
theorem dX3_setStrikePay_18 : decode cX3_setStrikePay 18 = .ok (.iload_n 2, 1) := by decide +kernel
theorem dX3_setStrikePay_19 : decode cX3_setStrikePay 19 = .ok (.ireturn, 1) := by decide +kernel
set_option maxRecDepth 20000 in
theorem ggX3_join_X3_branchAt : GoodIn wsX3_join wsX3_branchAt := goodIn_ca (goodIn_r _ [12, 13, 14, 15, 37, 38, 39, 40, 41, 42, 43, 44] (by decide +kernel) (by decide +kernel)) (goodIn_sub (fun _ h => List.mem_cons_of_mem _ (List.mem_append_right _ h)) (by decide +kernel))
set_option maxRecDepth 20000 in
theorem gX3_join_X3_branchAt : GoodIn wsX3_join (wsV RX3 59 RX3 yX3_branchAt wsX3_branchAt) := goodIn_app (goodIn_of _ (by decide +kernel)) ggX3_join_X3_branchAt
set_option maxRecDepth 20000 in
theorem ggX3_join_X3_bandAt : GoodIn wsX3_join wsX3_bandAt := goodIn_ca (goodIn_r _ [19, 13, 14, 20, 37, 38, 39, 40, 41, 42, 43, 44] (by decide +kernel) (by decide +kernel)) (goodIn_sub (fun _ h => List.mem_cons_of_mem _ (List.mem_append_right _ h)) (by decide +kernel))
set_option maxRecDepth 20000 in
theorem gX3_join_X3_bandAt : GoodIn wsX3_join (wsV RX3 47 RX3 yX3_bandAt wsX3_bandAt) := goodIn_app (goodIn_of _ (by decide +kernel)) ggX3_join_X3_bandAt
set_option maxRecDepth 20000 in
theorem ggX3_join_X2_init : GoodIn wsX3_join wsX2_init := goodIn_r _ [22, 23, 24, 25, 26, 27, 28, 29, 30, 31, 32, 33, 34, 35, 36, 45, 46, 47, 48, 49, 50, 51, 52, 53, 54] (by decide +kernel) (by decide +kernel)
set_option maxRecDepth 20000 in
theorem gX3_join_X2_init_n70 : GoodIn wsX3_join (wsX2_init) := ggX3_join_X2_init
theorem dX3_join_0 : decode cX3_join 0 = .ok (.aload_n 0, 1) := by decide +kernel
theorem dX3_join_1 : decode cX3_join 1 = .ok (.iload_n 1, 1) := by decide +kernel
theorem dX3_join_2 : decode cX3_join 2 = .ok (.invokevirtual 59, 3) := by decide +kernel
theorem dX3_join_5 : decode cX3_join 5 = .ok (.astore_n 3, 1) := by decide +kernel
theorem dX3_join_6 : decode cX3_join 6 = .ok (.aload_n 0, 1) := by decide +kernel
theorem dX3_join_7 : decode cX3_join 7 = .ok (.iload_n 2, 1) := by decide +kernel
theorem dX3_join_8 : decode cX3_join 8 = .ok (.invokevirtual 47, 3) := by decide +kernel
theorem dX3_join_11 : decode cX3_join 11 = .ok (.astore 4, 2) := by decide +kernel
theorem dX3_join_13 : decode cX3_join 13 = .ok (.aload_n 0, 1) := by decide +kernel
theorem dX3_join_14 : decode cX3_join 14 = .ok (.getfield 31, 3) := by decide +kernel
theorem dX3_join_17 : decode cX3_join 17 = .ok (.aload_n 0, 1) := by decide +kernel
theorem dX3_join_18 : decode cX3_join 18 = .ok (.getfield 27, 3) := by decide +kernel
theorem dX3_join_21 : decode cX3_join 21 = .ok (.arraylength, 1) := by decide +kernel
theorem dX3_join_22 : decode cX3_join 22 = .ok (.if_icmp .lt 13, 3) := by decide +kernel
theorem dX3_join_25 : decode cX3_join 25 = .ok (.new 63, 3) := by decide +kernel
theorem dX3_join_28 : decode cX3_join 28 = .ok (.dup, 1) := by decide +kernel
theorem dX3_join_29 : decode cX3_join 29 = .ok (.ldc 65, 2) := by decide +kernel
theorem dX3_join_31 : decode cX3_join 31 = .ok (.invokespecial 67, 3) := by decide +kernel
theorem dX3_join_34 : decode cX3_join 34 = .ok (.athrow, 1) := by decide +kernel
theorem dX3_join_35 : decode cX3_join 35 = .ok (.aload_n 0, 1) := by decide +kernel
theorem dX3_join_36 : decode cX3_join 36 = .ok (.getfield 31, 3) := by decide +kernel
theorem dX3_join_39 : decode cX3_join 39 = .ok (.istore 5, 2) := by decide +kernel
theorem dX3_join_41 : decode cX3_join 41 = .ok (.aload_n 0, 1) := by decide +kernel
theorem dX3_join_42 : decode cX3_join 42 = .ok (.getfield 27, 3) := by decide +kernel
theorem dX3_join_45 : decode cX3_join 45 = .ok (.iload 5, 2) := by decide +kernel
theorem dX3_join_47 : decode cX3_join 47 = .ok (.new 25, 3) := by decide +kernel
theorem dX3_join_50 : decode cX3_join 50 = .ok (.dup, 1) := by decide +kernel
theorem dX3_join_51 : decode cX3_join 51 = .ok (.iload 5, 2) := by decide +kernel
theorem dX3_join_53 : decode cX3_join 53 = .ok (.aload_n 3, 1) := by decide +kernel
theorem dX3_join_54 : decode cX3_join 54 = .ok (.aload 4, 2) := by decide +kernel
theorem dX3_join_56 : decode cX3_join 56 = .ok (.invokespecial 70, 3) := by decide +kernel
theorem dX3_join_59 : decode cX3_join 59 = .ok (.aastore, 1) := by decide +kernel
theorem dX3_join_60 : decode cX3_join 60 = .ok (.aload_n 0, 1) := by decide +kernel
theorem dX3_join_61 : decode cX3_join 61 = .ok (.dup, 1) := by decide +kernel
theorem dX3_join_62 : decode cX3_join 62 = .ok (.getfield 31, 3) := by decide +kernel
theorem dX3_join_65 : decode cX3_join 65 = .ok (.iconst 1, 1) := by decide +kernel
theorem dX3_join_66 : decode cX3_join 66 = .ok (.iadd, 1) := by decide +kernel
theorem dX3_join_67 : decode cX3_join 67 = .ok (.putfield 31, 3) := by decide +kernel
theorem dX3_join_70 : decode cX3_join 70 = .ok (.iload 5, 2) := by decide +kernel
theorem dX3_join_72 : decode cX3_join 72 = .ok (.ireturn, 1) := by decide +kernel
set_option maxRecDepth 20000 in
theorem ggX3_move_X3_memberAt : GoodIn wsX3_move wsX3_memberAt := goodIn_ca (goodIn_r _ [5, 6, 7, 8, 35, 36, 37, 38, 39, 40, 41, 42] (by decide +kernel) (by decide +kernel)) (goodIn_sub (fun _ h => List.mem_cons_of_mem _ (List.mem_append_left _ (List.mem_append_right _ h))) (by decide +kernel))
set_option maxRecDepth 20000 in
theorem gX3_move_X3_memberAt : GoodIn wsX3_move (wsV RX3 73 RX3 yX3_memberAt wsX3_memberAt) := goodIn_app (goodIn_of _ (by decide +kernel)) ggX3_move_X3_memberAt
set_option maxRecDepth 20000 in
theorem ggX3_move_X3_branchAt : GoodIn wsX3_move wsX3_branchAt := goodIn_ca (goodIn_r _ [12, 6, 7, 13, 35, 36, 37, 38, 39, 40, 41, 42] (by decide +kernel) (by decide +kernel)) (goodIn_sub (fun _ h => List.mem_cons_of_mem _ (List.mem_append_left _ (List.mem_append_right _ h))) (by decide +kernel))
set_option maxRecDepth 20000 in
theorem gX3_move_X3_branchAt : GoodIn wsX3_move (wsV RX3 59 RX3 yX3_branchAt wsX3_branchAt) := goodIn_app (goodIn_of _ (by decide +kernel)) ggX3_move_X3_branchAt
set_option maxRecDepth 20000 in
theorem ggX3_move_X3_bandAt : GoodIn wsX3_move wsX3_bandAt := goodIn_ca (goodIn_r _ [17, 6, 7, 18, 35, 36, 37, 38, 39, 40, 41, 42] (by decide +kernel) (by decide +kernel)) (goodIn_sub (fun _ h => List.mem_cons_of_mem _ (List.mem_append_left _ (List.mem_append_right _ h))) (by decide +kernel))
set_option maxRecDepth 20000 in
theorem gX3_move_X3_bandAt : GoodIn wsX3_move (wsV RX3 47 RX3 yX3_bandAt wsX3_bandAt) := goodIn_app (goodIn_of _ (by decide +kernel)) ggX3_move_X3_bandAt
set_option maxRecDepth 20000 in
theorem ggX3_move_X3_checkNotLeft : GoodIn wsX3_move wsX3_checkNotLeft := goodIn_ca (goodIn_r _ [22, 23, 24, 25, 26, 27, 28, 29, 30, 31, 32, 33, 34] (by decide +kernel) (by decide +kernel)) (goodIn_sub (fun _ h => List.mem_cons_of_mem _ (List.mem_append_right _ h)) (by decide +kernel))
set_option maxRecDepth 20000 in
theorem gX3_move_X3_checkNotLeft : GoodIn wsX3_move (wsV RX3 77 RX3 yX3_checkNotLeft wsX3_checkNotLeft) := goodIn_app (goodIn_of _ (by decide +kernel)) ggX3_move_X3_checkNotLeft
theorem dX3_move_0 : decode cX3_move 0 = .ok (.aload_n 0, 1) := by decide +kernel
theorem dX3_move_1 : decode cX3_move 1 = .ok (.iload_n 1, 1) := by decide +kernel
theorem dX3_move_2 : decode cX3_move 2 = .ok (.invokevirtual 73, 3) := by decide +kernel
theorem dX3_move_5 : decode cX3_move 5 = .ok (.astore 4, 2) := by decide +kernel
theorem dX3_move_7 : decode cX3_move 7 = .ok (.aload_n 0, 1) := by decide +kernel
theorem dX3_move_8 : decode cX3_move 8 = .ok (.iload_n 2, 1) := by decide +kernel
theorem dX3_move_9 : decode cX3_move 9 = .ok (.invokevirtual 59, 3) := by decide +kernel
theorem dX3_move_12 : decode cX3_move 12 = .ok (.astore 5, 2) := by decide +kernel
theorem dX3_move_14 : decode cX3_move 14 = .ok (.aload_n 0, 1) := by decide +kernel
theorem dX3_move_15 : decode cX3_move 15 = .ok (.iload_n 3, 1) := by decide +kernel
theorem dX3_move_16 : decode cX3_move 16 = .ok (.invokevirtual 47, 3) := by decide +kernel
theorem dX3_move_19 : decode cX3_move 19 = .ok (.astore 6, 2) := by decide +kernel
theorem dX3_move_21 : decode cX3_move 21 = .ok (.aload_n 0, 1) := by decide +kernel
theorem dX3_move_22 : decode cX3_move 22 = .ok (.aload 4, 2) := by decide +kernel
theorem dX3_move_24 : decode cX3_move 24 = .ok (.invokevirtual 77, 3) := by decide +kernel
theorem dX3_move_27 : decode cX3_move 27 = .ok (.aload 4, 2) := by decide +kernel
theorem dX3_move_29 : decode cX3_move 29 = .ok (.aload 5, 2) := by decide +kernel
theorem dX3_move_31 : decode cX3_move 31 = .ok (.putfield 81, 3) := by decide +kernel
theorem dX3_move_34 : decode cX3_move 34 = .ok (.aload 4, 2) := by decide +kernel
theorem dX3_move_36 : decode cX3_move 36 = .ok (.aload 6, 2) := by decide +kernel
theorem dX3_move_38 : decode cX3_move 38 = .ok (.putfield 85, 3) := by decide +kernel
theorem dX3_move_41 : decode cX3_move 41 = .ok (.return_, 1) := by decide +kernel
set_option maxRecDepth 20000 in
theorem ggX3_leave_X3_memberAt : GoodIn wsX3_leave wsX3_memberAt := goodIn_ca (goodIn_r _ [5, 6, 7, 8, 25, 26, 27, 28, 29, 30, 31, 32] (by decide +kernel) (by decide +kernel)) (goodIn_sub (fun _ h => List.mem_cons_of_mem _ (List.mem_append_left _ (List.mem_append_right _ h))) (by decide +kernel))
set_option maxRecDepth 20000 in
theorem gX3_leave_X3_memberAt : GoodIn wsX3_leave (wsV RX3 73 RX3 yX3_memberAt wsX3_memberAt) := goodIn_app (goodIn_of _ (by decide +kernel)) ggX3_leave_X3_memberAt
set_option maxRecDepth 20000 in
theorem ggX3_leave_X3_checkNotLeft : GoodIn wsX3_leave wsX3_checkNotLeft := goodIn_ca (goodIn_r _ [12, 13, 14, 15, 16, 17, 18, 19, 20, 21, 22, 23, 24] (by decide +kernel) (by decide +kernel)) (goodIn_sub (fun _ h => List.mem_cons_of_mem _ (List.mem_append_right _ h)) (by decide +kernel))
set_option maxRecDepth 20000 in
theorem gX3_leave_X3_checkNotLeft : GoodIn wsX3_leave (wsV RX3 77 RX3 yX3_checkNotLeft wsX3_checkNotLeft) := goodIn_app (goodIn_of _ (by decide +kernel)) ggX3_leave_X3_checkNotLeft
theorem dX3_leave_0 : decode cX3_leave 0 = .ok (.aload_n 0, 1) := by decide +kernel
theorem dX3_leave_1 : decode cX3_leave 1 = .ok (.iload_n 1, 1) := by decide +kernel
theorem dX3_leave_2 : decode cX3_leave 2 = .ok (.invokevirtual 73, 3) := by decide +kernel
theorem dX3_leave_5 : decode cX3_leave 5 = .ok (.astore_n 3, 1) := by decide +kernel
theorem dX3_leave_6 : decode cX3_leave 6 = .ok (.aload_n 0, 1) := by decide +kernel
theorem dX3_leave_7 : decode cX3_leave 7 = .ok (.aload_n 3, 1) := by decide +kernel
theorem dX3_leave_8 : decode cX3_leave 8 = .ok (.invokevirtual 77, 3) := by decide +kernel
theorem dX3_leave_11 : decode cX3_leave 11 = .ok (.aload_n 3, 1) := by decide +kernel
theorem dX3_leave_12 : decode cX3_leave 12 = .ok (.getfield 89, 3) := by decide +kernel
theorem dX3_leave_15 : decode cX3_leave 15 = .ok (.istore 4, 2) := by decide +kernel
theorem dX3_leave_17 : decode cX3_leave 17 = .ok (.aload_n 3, 1) := by decide +kernel
theorem dX3_leave_18 : decode cX3_leave 18 = .ok (.iload_n 2, 1) := by decide +kernel
theorem dX3_leave_19 : decode cX3_leave 19 = .ok (.putfield 89, 3) := by decide +kernel
theorem dX3_leave_22 : decode cX3_leave 22 = .ok (.iload 4, 2) := by decide +kernel
theorem dX3_leave_24 : decode cX3_leave 24 = .ok (.ireturn, 1) := by decide +kernel
set_option maxRecDepth 20000 in
theorem ggX3_quit_X3_memberAt : GoodIn wsX3_quit wsX3_memberAt := goodIn_ca (goodIn_r _ [5, 6, 7, 8, 31, 32, 33, 34, 35, 36, 37, 38] (by decide +kernel) (by decide +kernel)) (goodIn_sub (fun _ h => List.mem_cons_of_mem _ (List.mem_append_left _ (List.mem_append_right _ h))) (by decide +kernel))
set_option maxRecDepth 20000 in
theorem gX3_quit_X3_memberAt : GoodIn wsX3_quit (wsV RX3 73 RX3 yX3_memberAt wsX3_memberAt) := goodIn_app (goodIn_of _ (by decide +kernel)) ggX3_quit_X3_memberAt
set_option maxRecDepth 20000 in
theorem ggX3_quit_X3_checkNotLeft : GoodIn wsX3_quit wsX3_checkNotLeft := goodIn_ca (goodIn_r _ [12, 13, 14, 21, 22, 23, 24, 25, 26, 27, 28, 29, 30] (by decide +kernel) (by decide +kernel)) (goodIn_sub (fun _ h => List.mem_cons_of_mem _ (List.mem_append_right _ h)) (by decide +kernel))
set_option maxRecDepth 20000 in
theorem gX3_quit_X3_checkNotLeft : GoodIn wsX3_quit (wsV RX3 77 RX3 yX3_checkNotLeft wsX3_checkNotLeft) := goodIn_app (goodIn_of _ (by decide +kernel)) ggX3_quit_X3_checkNotLeft
set_option maxRecDepth 20000 in
theorem ggX3_quit_X2_sumOwed : GoodIn wsX3_quit wsX2_sumOwed := goodIn_r _ [18, 19, 20, 21, 22, 23, 24, 25, 26, 27, 28, 29, 30] (by decide +kernel) (by decide +kernel)
set_option maxRecDepth 20000 in
theorem gX3_quit_X2_sumOwed_n96 : GoodIn wsX3_quit (wsX2_sumOwed) := ggX3_quit_X2_sumOwed
theorem dX3_quit_0 : decode cX3_quit 0 = .ok (.aload_n 0, 1) := by decide +kernel
theorem dX3_quit_1 : decode cX3_quit 1 = .ok (.iload_n 1, 1) := by decide +kernel
theorem dX3_quit_2 : decode cX3_quit 2 = .ok (.invokevirtual 73, 3) := by decide +kernel
theorem dX3_quit_5 : decode cX3_quit 5 = .ok (.astore_n 2, 1) := by decide +kernel
theorem dX3_quit_6 : decode cX3_quit 6 = .ok (.aload_n 0, 1) := by decide +kernel
theorem dX3_quit_7 : decode cX3_quit 7 = .ok (.aload_n 2, 1) := by decide +kernel
theorem dX3_quit_8 : decode cX3_quit 8 = .ok (.invokevirtual 77, 3) := by decide +kernel
theorem dX3_quit_11 : decode cX3_quit 11 = .ok (.aload_n 2, 1) := by decide +kernel
theorem dX3_quit_12 : decode cX3_quit 12 = .ok (.iconst 1, 1) := by decide +kernel
theorem dX3_quit_13 : decode cX3_quit 13 = .ok (.putfield 93, 3) := by decide +kernel
theorem dX3_quit_16 : decode cX3_quit 16 = .ok (.aload_n 2, 1) := by decide +kernel
theorem dX3_quit_17 : decode cX3_quit 17 = .ok (.invokevirtual 96, 3) := by decide +kernel
theorem dX3_quit_20 : decode cX3_quit 20 = .ok (.ireturn, 1) := by decide +kernel
set_option maxRecDepth 20000 in
theorem ggX3_pay_X3_memberAt : GoodIn wsX3_pay wsX3_memberAt := goodIn_ca (goodIn_r _ [7, 8, 9, 10, 41, 42, 43, 44, 45, 46, 47, 48] (by decide +kernel) (by decide +kernel)) (goodIn_sub (fun _ h => List.mem_cons_of_mem _ (List.mem_append_left _ (List.mem_append_right _ h))) (by decide +kernel))
set_option maxRecDepth 20000 in
theorem gX3_pay_X3_memberAt : GoodIn wsX3_pay (wsV RX3 73 RX3 yX3_memberAt wsX3_memberAt) := goodIn_app (goodIn_of _ (by decide +kernel)) ggX3_pay_X3_memberAt
set_option maxRecDepth 20000 in
theorem ggX3_pay_X3_checkRange : GoodIn wsX3_pay wsX3_checkRange := goodIn_ca (goodIn_r _ [14, 15, 16] (by decide +kernel) (by decide +kernel)) (goodIn_sub (fun _ h => List.mem_cons_of_mem _ (List.mem_append_right _ h)) (by decide +kernel))
set_option maxRecDepth 20000 in
theorem gX3_pay_X3_checkRange : GoodIn wsX3_pay (wsV RX3 52 RX3 yX3_checkRange wsX3_checkRange) := goodIn_app (goodIn_of _ (by decide +kernel)) ggX3_pay_X3_checkRange
set_option maxRecDepth 20000 in
theorem ggX3_pay_X2_takeIn : GoodIn wsX3_pay wsX2_takeIn := goodIn_r _ [20, 21, 22, 23, 24, 18, 25, 26, 27, 28, 29, 30, 31, 32, 33, 34, 35, 36, 37, 49, 50, 51, 52, 53, 54, 55, 56, 57, 58, 59, 60, 61, 62, 63, 64, 65] (by decide +kernel) (by decide +kernel)
set_option maxRecDepth 20000 in
theorem gX3_pay_X2_takeIn_n101 : GoodIn wsX3_pay (wsX2_takeIn) := ggX3_pay_X2_takeIn
set_option maxRecDepth 20000 in
theorem ggX3_pay_X2_sumOwed : GoodIn wsX3_pay wsX2_sumOwed := goodIn_r _ [40, 26, 27, 49, 50, 51, 52, 53, 54, 55, 56, 57, 58] (by decide +kernel) (by decide +kernel)
set_option maxRecDepth 20000 in
theorem gX3_pay_X2_sumOwed_n96 : GoodIn wsX3_pay (wsX2_sumOwed) := ggX3_pay_X2_sumOwed
theorem dX3_pay_0 : decode cX3_pay 0 = .ok (.aload_n 0, 1) := by decide +kernel
theorem dX3_pay_1 : decode cX3_pay 1 = .ok (.iload_n 1, 1) := by decide +kernel
theorem dX3_pay_2 : decode cX3_pay 2 = .ok (.invokevirtual 73, 3) := by decide +kernel
theorem dX3_pay_5 : decode cX3_pay 5 = .ok (.astore_n 3, 1) := by decide +kernel
theorem dX3_pay_6 : decode cX3_pay 6 = .ok (.aload_n 0, 1) := by decide +kernel
theorem dX3_pay_7 : decode cX3_pay 7 = .ok (.iload_n 2, 1) := by decide +kernel
theorem dX3_pay_8 : decode cX3_pay 8 = .ok (.iconst 1, 1) := by decide +kernel
theorem dX3_pay_9 : decode cX3_pay 9 = .ok (.ldc 100, 2) := by decide +kernel
theorem dX3_pay_11 : decode cX3_pay 11 = .ok (.invokevirtual 52, 3) := by decide +kernel
theorem dX3_pay_14 : decode cX3_pay 14 = .ok (.aload_n 0, 1) := by decide +kernel
theorem dX3_pay_15 : decode cX3_pay 15 = .ok (.dup, 1) := by decide +kernel
theorem dX3_pay_16 : decode cX3_pay 16 = .ok (.getfield 41, 3) := by decide +kernel
theorem dX3_pay_19 : decode cX3_pay 19 = .ok (.aload_n 3, 1) := by decide +kernel
theorem dX3_pay_20 : decode cX3_pay 20 = .ok (.iload_n 2, 1) := by decide +kernel
theorem dX3_pay_21 : decode cX3_pay 21 = .ok (.invokevirtual 101, 3) := by decide +kernel
theorem dX3_pay_24 : decode cX3_pay 24 = .ok (.iadd, 1) := by decide +kernel
theorem dX3_pay_25 : decode cX3_pay 25 = .ok (.putfield 41, 3) := by decide +kernel
theorem dX3_pay_28 : decode cX3_pay 28 = .ok (.aload_n 3, 1) := by decide +kernel
theorem dX3_pay_29 : decode cX3_pay 29 = .ok (.invokevirtual 96, 3) := by decide +kernel
theorem dX3_pay_32 : decode cX3_pay 32 = .ok (.ireturn, 1) := by decide +kernel
set_option maxRecDepth 20000 in
theorem ggX3_open_X3_branchAt : GoodIn wsX3_open wsX3_branchAt := goodIn_ca (goodIn_r _ [7, 8, 9, 10, 37, 38, 39, 40, 41, 42, 43, 44] (by decide +kernel) (by decide +kernel)) (goodIn_sub (fun _ h => List.mem_cons_of_mem _ (List.mem_append_right _ h)) (by decide +kernel))
set_option maxRecDepth 20000 in
theorem gX3_open_X3_branchAt : GoodIn wsX3_open (wsV RX3 59 RX3 yX3_branchAt wsX3_branchAt) := goodIn_app (goodIn_of _ (by decide +kernel)) ggX3_open_X3_branchAt
set_option maxRecDepth 20000 in
theorem ggX3_open_X1_beginBallot : GoodIn wsX3_open wsX1_beginBallot := goodIn_r _ [14, 15, 16, 17, 30, 31, 32, 33, 34, 35, 36] (by decide +kernel) (by decide +kernel)
set_option maxRecDepth 20000 in
theorem gX3_open_X1_beginBallot_n113 : GoodIn wsX3_open (wsX1_beginBallot) := ggX3_open_X1_beginBallot
set_option maxRecDepth 20000 in
theorem ggX3_open_X3_countStanding : GoodIn wsX3_open wsX3_countStanding := goodIn_r _ [21, 22, 23, 24, 25, 26, 27, 28, 29, 37, 38, 39, 40, 41, 42, 43, 44, 45, 46, 47, 48, 49, 50, 51, 52, 53, 54] (by decide +kernel) (by decide +kernel)
set_option maxRecDepth 20000 in
theorem gX3_open_X3_countStanding : GoodIn wsX3_open (wsV RX3 116 RX3 yX3_countStanding wsX3_countStanding) := goodIn_app (goodIn_of _ (by decide +kernel)) ggX3_open_X3_countStanding
theorem dX3_open_0 : decode cX3_open 0 = .ok (.aload_n 0, 1) := by decide +kernel
theorem dX3_open_1 : decode cX3_open 1 = .ok (.iload_n 1, 1) := by decide +kernel
theorem dX3_open_2 : decode cX3_open 2 = .ok (.invokevirtual 59, 3) := by decide +kernel
theorem dX3_open_5 : decode cX3_open 5 = .ok (.astore_n 2, 1) := by decide +kernel
theorem dX3_open_6 : decode cX3_open 6 = .ok (.aload_n 2, 1) := by decide +kernel
theorem dX3_open_7 : decode cX3_open 7 = .ok (.getfield 105, 3) := by decide +kernel
theorem dX3_open_10 : decode cX3_open 10 = .ok (.ifCond .ne 10, 3) := by decide +kernel
theorem dX3_open_13 : decode cX3_open 13 = .ok (.aload_n 2, 1) := by decide +kernel
theorem dX3_open_14 : decode cX3_open 14 = .ok (.getfield 108, 3) := by decide +kernel
theorem dX3_open_17 : decode cX3_open 17 = .ok (.ifCond .eq 13, 3) := by decide +kernel
theorem dX3_open_20 : decode cX3_open 20 = .ok (.new 63, 3) := by decide +kernel
theorem dX3_open_23 : decode cX3_open 23 = .ok (.dup, 1) := by decide +kernel
theorem dX3_open_24 : decode cX3_open 24 = .ok (.ldc 111, 2) := by decide +kernel
theorem dX3_open_26 : decode cX3_open 26 = .ok (.invokespecial 67, 3) := by decide +kernel
theorem dX3_open_29 : decode cX3_open 29 = .ok (.athrow, 1) := by decide +kernel
theorem dX3_open_30 : decode cX3_open 30 = .ok (.aload_n 2, 1) := by decide +kernel
theorem dX3_open_31 : decode cX3_open 31 = .ok (.invokevirtual 113, 3) := by decide +kernel
theorem dX3_open_34 : decode cX3_open 34 = .ok (.aload_n 0, 1) := by decide +kernel
theorem dX3_open_35 : decode cX3_open 35 = .ok (.aload_n 2, 1) := by decide +kernel
theorem dX3_open_36 : decode cX3_open 36 = .ok (.invokevirtual 116, 3) := by decide +kernel
theorem dX3_open_39 : decode cX3_open 39 = .ok (.ireturn, 1) := by decide +kernel
set_option maxRecDepth 20000 in
theorem ggX3_vote_X3_memberAt : GoodIn wsX3_vote wsX3_memberAt := goodIn_ca (goodIn_r _ [8, 9, 10, 11, 58, 59, 60, 61, 62, 63, 64, 65] (by decide +kernel) (by decide +kernel)) (goodIn_sub (fun _ h => List.mem_cons_of_mem _ (List.mem_append_right _ h)) (by decide +kernel))
set_option maxRecDepth 20000 in
theorem gX3_vote_X3_memberAt : GoodIn wsX3_vote (wsV RX3 73 RX3 yX3_memberAt wsX3_memberAt) := goodIn_app (goodIn_of _ (by decide +kernel)) ggX3_vote_X3_memberAt
set_option maxRecDepth 20000 in
theorem ggX3_vote_X2_standsOn : GoodIn wsX3_vote wsX2_standsOn := goodIn_r _ [15, 16, 17, 41, 42, 43, 44, 45, 46, 47, 48, 49, 50] (by decide +kernel) (by decide +kernel)
set_option maxRecDepth 20000 in
theorem gX3_vote_X2_standsOn_n120 : GoodIn wsX3_vote (wsX2_standsOn) := ggX3_vote_X2_standsOn
set_option maxRecDepth 20000 in
theorem ggX3_vote_X1_hasVoteOf : GoodIn wsX3_vote wsX1_hasVoteOf := goodIn_r _ [21, 22, 23, 13, 24, 25, 26, 51, 52, 53, 54, 55, 56, 57, 41, 42, 43, 44, 45, 46, 47, 48, 49, 50] (by decide +kernel) (by decide +kernel)
set_option maxRecDepth 20000 in
theorem gX3_vote_X1_hasVoteOf_n124 : GoodIn wsX3_vote (wsX1_hasVoteOf) := ggX3_vote_X1_hasVoteOf
set_option maxRecDepth 20000 in
theorem ggX3_vote_X1_takeVote : GoodIn wsX3_vote wsX1_takeVote := goodIn_r _ [29, 22, 30, 23, 13, 24, 25, 26, 51, 52, 53, 54, 55, 56, 57, 41, 42, 43, 44, 45, 46, 47, 48, 49, 50] (by decide +kernel) (by decide +kernel)
set_option maxRecDepth 20000 in
theorem gX3_vote_X1_takeVote_n130 : GoodIn wsX3_vote (wsX1_takeVote) := ggX3_vote_X1_takeVote
set_option maxRecDepth 20000 in
theorem ggX3_vote_X1_countVotes : GoodIn wsX3_vote wsX1_countVotes := goodIn_r _ [33, 22, 34, 35, 36, 37, 38, 39, 40, 51, 52, 53, 54, 55, 56, 57] (by decide +kernel) (by decide +kernel)
set_option maxRecDepth 20000 in
theorem gX3_vote_X1_countVotes_n134 : GoodIn wsX3_vote (wsX1_countVotes) := ggX3_vote_X1_countVotes
theorem dX3_vote_0 : decode cX3_vote 0 = .ok (.aload_n 0, 1) := by decide +kernel
theorem dX3_vote_1 : decode cX3_vote 1 = .ok (.iload_n 1, 1) := by decide +kernel
theorem dX3_vote_2 : decode cX3_vote 2 = .ok (.invokevirtual 73, 3) := by decide +kernel
theorem dX3_vote_5 : decode cX3_vote 5 = .ok (.astore_n 3, 1) := by decide +kernel
theorem dX3_vote_6 : decode cX3_vote 6 = .ok (.aload_n 3, 1) := by decide +kernel
theorem dX3_vote_7 : decode cX3_vote 7 = .ok (.getfield 81, 3) := by decide +kernel
theorem dX3_vote_10 : decode cX3_vote 10 = .ok (.astore 4, 2) := by decide +kernel
theorem dX3_vote_12 : decode cX3_vote 12 = .ok (.aload 4, 2) := by decide +kernel
theorem dX3_vote_14 : decode cX3_vote 14 = .ok (.getfield 105, 3) := by decide +kernel
theorem dX3_vote_17 : decode cX3_vote 17 = .ok (.ifCond .eq 23, 3) := by decide +kernel
theorem dX3_vote_20 : decode cX3_vote 20 = .ok (.aload_n 3, 1) := by decide +kernel
theorem dX3_vote_21 : decode cX3_vote 21 = .ok (.aload_n 0, 1) := by decide +kernel
theorem dX3_vote_22 : decode cX3_vote 22 = .ok (.getfield 38, 3) := by decide +kernel
theorem dX3_vote_25 : decode cX3_vote 25 = .ok (.invokevirtual 120, 3) := by decide +kernel
theorem dX3_vote_28 : decode cX3_vote 28 = .ok (.ifCond .eq 12, 3) := by decide +kernel
theorem dX3_vote_31 : decode cX3_vote 31 = .ok (.aload 4, 2) := by decide +kernel
theorem dX3_vote_33 : decode cX3_vote 33 = .ok (.aload_n 3, 1) := by decide +kernel
theorem dX3_vote_34 : decode cX3_vote 34 = .ok (.invokevirtual 124, 3) := by decide +kernel
theorem dX3_vote_37 : decode cX3_vote 37 = .ok (.ifCond .eq 13, 3) := by decide +kernel
theorem dX3_vote_40 : decode cX3_vote 40 = .ok (.new 63, 3) := by decide +kernel
theorem dX3_vote_43 : decode cX3_vote 43 = .ok (.dup, 1) := by decide +kernel
theorem dX3_vote_44 : decode cX3_vote 44 = .ok (.ldc 128, 2) := by decide +kernel
theorem dX3_vote_46 : decode cX3_vote 46 = .ok (.invokespecial 67, 3) := by decide +kernel
theorem dX3_vote_49 : decode cX3_vote 49 = .ok (.athrow, 1) := by decide +kernel
theorem dX3_vote_50 : decode cX3_vote 50 = .ok (.aload 4, 2) := by decide +kernel
theorem dX3_vote_52 : decode cX3_vote 52 = .ok (.aload_n 3, 1) := by decide +kernel
theorem dX3_vote_53 : decode cX3_vote 53 = .ok (.iload_n 2, 1) := by decide +kernel
theorem dX3_vote_54 : decode cX3_vote 54 = .ok (.invokevirtual 130, 3) := by decide +kernel
theorem dX3_vote_57 : decode cX3_vote 57 = .ok (.aload 4, 2) := by decide +kernel
theorem dX3_vote_59 : decode cX3_vote 59 = .ok (.invokevirtual 134, 3) := by decide +kernel
theorem dX3_vote_62 : decode cX3_vote 62 = .ok (.ireturn, 1) := by decide +kernel
set_option maxRecDepth 20000 in
theorem ggX3_close_X3_branchAt : GoodIn wsX3_close wsX3_branchAt := goodIn_ca (goodIn_r _ [7, 8, 9, 10, 49, 50, 51, 52, 53, 54, 55, 56] (by decide +kernel) (by decide +kernel)) (goodIn_sub (fun _ h => List.mem_cons_of_mem _ (List.mem_append_right _ h)) (by decide +kernel))
set_option maxRecDepth 20000 in
theorem gX3_close_X3_branchAt : GoodIn wsX3_close (wsV RX3 59 RX3 yX3_branchAt wsX3_branchAt) := goodIn_app (goodIn_of _ (by decide +kernel)) ggX3_close_X3_branchAt
set_option maxRecDepth 20000 in
theorem ggX3_close_X3_countStanding : GoodIn wsX3_close wsX3_countStanding := goodIn_r _ [14, 15, 16, 17, 18, 19, 20, 21, 22, 49, 50, 51, 52, 53, 54, 55, 56, 57, 58, 59, 60, 61, 62, 63, 64, 65, 66] (by decide +kernel) (by decide +kernel)
set_option maxRecDepth 20000 in
theorem gX3_close_X3_countStanding : GoodIn wsX3_close (wsV RX3 116 RX3 yX3_countStanding wsX3_countStanding) := goodIn_app (goodIn_of _ (by decide +kernel)) ggX3_close_X3_countStanding
set_option maxRecDepth 20000 in
theorem ggX3_close_X1_endBallot : GoodIn wsX3_close wsX1_endBallot := goodIn_r _ [26, 27, 28, 29, 30, 31, 32, 24, 33, 34, 35, 36, 37, 38, 39, 40, 41, 42, 43, 44, 45, 46, 47, 48] (by decide +kernel) (by decide +kernel)
set_option maxRecDepth 20000 in
theorem gX3_close_X1_endBallot_n139 : GoodIn wsX3_close (wsX1_endBallot) := ggX3_close_X1_endBallot
theorem dX3_close_0 : decode cX3_close 0 = .ok (.aload_n 0, 1) := by decide +kernel
theorem dX3_close_1 : decode cX3_close 1 = .ok (.iload_n 1, 1) := by decide +kernel
theorem dX3_close_2 : decode cX3_close 2 = .ok (.invokevirtual 59, 3) := by decide +kernel
theorem dX3_close_5 : decode cX3_close 5 = .ok (.astore_n 2, 1) := by decide +kernel
theorem dX3_close_6 : decode cX3_close 6 = .ok (.aload_n 2, 1) := by decide +kernel
theorem dX3_close_7 : decode cX3_close 7 = .ok (.getfield 105, 3) := by decide +kernel
theorem dX3_close_10 : decode cX3_close 10 = .ok (.ifCond .ne 13, 3) := by decide +kernel
theorem dX3_close_13 : decode cX3_close 13 = .ok (.new 63, 3) := by decide +kernel
theorem dX3_close_16 : decode cX3_close 16 = .ok (.dup, 1) := by decide +kernel
theorem dX3_close_17 : decode cX3_close 17 = .ok (.ldc 137, 2) := by decide +kernel
theorem dX3_close_19 : decode cX3_close 19 = .ok (.invokespecial 67, 3) := by decide +kernel
theorem dX3_close_22 : decode cX3_close 22 = .ok (.athrow, 1) := by decide +kernel
theorem dX3_close_23 : decode cX3_close 23 = .ok (.aload_n 2, 1) := by decide +kernel
theorem dX3_close_24 : decode cX3_close 24 = .ok (.aload_n 0, 1) := by decide +kernel
theorem dX3_close_25 : decode cX3_close 25 = .ok (.aload_n 2, 1) := by decide +kernel
theorem dX3_close_26 : decode cX3_close 26 = .ok (.invokevirtual 116, 3) := by decide +kernel
theorem dX3_close_29 : decode cX3_close 29 = .ok (.invokevirtual 139, 3) := by decide +kernel
theorem dX3_close_32 : decode cX3_close 32 = .ok (.aload_n 2, 1) := by decide +kernel
theorem dX3_close_33 : decode cX3_close 33 = .ok (.getfield 142, 3) := by decide +kernel
theorem dX3_close_36 : decode cX3_close 36 = .ok (.ireturn, 1) := by decide +kernel
set_option maxRecDepth 20000 in
theorem ggX3_strike_X3_branchAt : GoodIn wsX3_strike wsX3_branchAt := goodIn_ca (goodIn_r _ [7, 8, 9, 10, 25, 26, 27, 28, 29, 30, 31, 32] (by decide +kernel) (by decide +kernel)) (goodIn_sub (fun _ h => List.mem_cons_of_mem _ (List.mem_append_right _ h)) (by decide +kernel))
set_option maxRecDepth 20000 in
theorem gX3_strike_X3_branchAt : GoodIn wsX3_strike (wsV RX3 59 RX3 yX3_branchAt wsX3_branchAt) := goodIn_app (goodIn_of _ (by decide +kernel)) ggX3_strike_X3_branchAt
set_option maxRecDepth 20000 in
theorem ggX3_strike_X1_canBeCalledOut : GoodIn wsX3_strike wsX1_canBeCalledOut := goodIn_r _ [14, 15, 16, 17, 18, 19, 20, 21, 22, 23, 24] (by decide +kernel) (by decide +kernel)
set_option maxRecDepth 20000 in
theorem gX3_strike_X1_canBeCalledOut_n145 : GoodIn wsX3_strike (wsX1_canBeCalledOut) := ggX3_strike_X1_canBeCalledOut
theorem dX3_strike_0 : decode cX3_strike 0 = .ok (.aload_n 0, 1) := by decide +kernel
theorem dX3_strike_1 : decode cX3_strike 1 = .ok (.iload_n 1, 1) := by decide +kernel
theorem dX3_strike_2 : decode cX3_strike 2 = .ok (.invokevirtual 59, 3) := by decide +kernel
theorem dX3_strike_5 : decode cX3_strike 5 = .ok (.astore_n 3, 1) := by decide +kernel
theorem dX3_strike_6 : decode cX3_strike 6 = .ok (.iload_n 2, 1) := by decide +kernel
theorem dX3_strike_7 : decode cX3_strike 7 = .ok (.ifCond .eq 13, 3) := by decide +kernel
theorem dX3_strike_10 : decode cX3_strike 10 = .ok (.aload_n 3, 1) := by decide +kernel
theorem dX3_strike_11 : decode cX3_strike 11 = .ok (.invokevirtual 145, 3) := by decide +kernel
theorem dX3_strike_14 : decode cX3_strike 14 = .ok (.ifCond .ne 23, 3) := by decide +kernel
theorem dX3_strike_17 : decode cX3_strike 17 = .ok (.goto 10, 3) := by decide +kernel
theorem dX3_strike_20 : decode cX3_strike 20 = .ok (.aload_n 3, 1) := by decide +kernel
theorem dX3_strike_21 : decode cX3_strike 21 = .ok (.getfield 108, 3) := by decide +kernel
theorem dX3_strike_24 : decode cX3_strike 24 = .ok (.ifCond .ne 13, 3) := by decide +kernel
theorem dX3_strike_27 : decode cX3_strike 27 = .ok (.new 63, 3) := by decide +kernel
theorem dX3_strike_30 : decode cX3_strike 30 = .ok (.dup, 1) := by decide +kernel
theorem dX3_strike_31 : decode cX3_strike 31 = .ok (.ldc 149, 2) := by decide +kernel
theorem dX3_strike_33 : decode cX3_strike 33 = .ok (.invokespecial 67, 3) := by decide +kernel
theorem dX3_strike_36 : decode cX3_strike 36 = .ok (.athrow, 1) := by decide +kernel
theorem dX3_strike_37 : decode cX3_strike 37 = .ok (.aload_n 3, 1) := by decide +kernel
theorem dX3_strike_38 : decode cX3_strike 38 = .ok (.iload_n 2, 1) := by decide +kernel
theorem dX3_strike_39 : decode cX3_strike 39 = .ok (.putfield 108, 3) := by decide +kernel
theorem dX3_strike_42 : decode cX3_strike 42 = .ok (.aload_n 3, 1) := by decide +kernel
theorem dX3_strike_43 : decode cX3_strike 43 = .ok (.iconst 0, 1) := by decide +kernel
theorem dX3_strike_44 : decode cX3_strike 44 = .ok (.putfield 142, 3) := by decide +kernel
theorem dX3_strike_47 : decode cX3_strike 47 = .ok (.return_, 1) := by decide +kernel
set_option maxRecDepth 20000 in
theorem ggX3_advance_X3_checkRange : GoodIn wsX3_advance wsX3_checkRange := goodIn_ca (goodIn_r _ [8, 9, 10] (by decide +kernel) (by decide +kernel)) (goodIn_sub (fun _ h => List.mem_cons_of_mem _ (List.mem_append_right _ h)) (by decide +kernel))
set_option maxRecDepth 20000 in
theorem gX3_advance_X3_checkRange : GoodIn wsX3_advance (wsV RX3 52 RX3 yX3_checkRange wsX3_checkRange) := goodIn_app (goodIn_of _ (by decide +kernel)) ggX3_advance_X3_checkRange
set_option maxRecDepth 20000 in
theorem ggX3_advance_X3_endDay : GoodIn wsX3_advance wsX3_endDay := goodIn_r _ [14, 3, 15, 16, 17, 7, 18, 19, 20, 21, 22, 23, 24, 25, 26, 27, 28, 29, 30, 31, 32, 33, 34, 35, 36, 37, 38, 39, 40, 41, 42, 43, 44, 45, 46, 47, 48, 49, 50, 51, 52, 53, 54, 55, 56, 57, 58, 59, 60, 61, 62, 63, 64, 65, 66, 67, 68, 69, 70, 71, 72, 73, 74, 75, 76, 77, 78, 79, 80, 81, 82, 83, 84, 85, 86] (by decide +kernel) (by decide +kernel)
set_option maxRecDepth 20000 in
theorem gX3_advance_X3_endDay : GoodIn wsX3_advance (wsV RX3 153 RX3 yX3_endDay wsX3_endDay) := goodIn_app (goodIn_of _ (by decide +kernel)) ggX3_advance_X3_endDay
theorem dX3_advance_0 : decode cX3_advance 0 = .ok (.aload_n 0, 1) := by decide +kernel
theorem dX3_advance_1 : decode cX3_advance 1 = .ok (.iload_n 1, 1) := by decide +kernel
theorem dX3_advance_2 : decode cX3_advance 2 = .ok (.iconst 1, 1) := by decide +kernel
theorem dX3_advance_3 : decode cX3_advance 3 = .ok (.bipush 100, 2) := by decide +kernel
theorem dX3_advance_5 : decode cX3_advance 5 = .ok (.invokevirtual 52, 3) := by decide +kernel
theorem dX3_advance_8 : decode cX3_advance 8 = .ok (.iload_n 1, 1) := by decide +kernel
theorem dX3_advance_9 : decode cX3_advance 9 = .ok (.sipush 1800, 3) := by decide +kernel
theorem dX3_advance_12 : decode cX3_advance 12 = .ok (.aload_n 0, 1) := by decide +kernel
theorem dX3_advance_13 : decode cX3_advance 13 = .ok (.getfield 38, 3) := by decide +kernel
theorem dX3_advance_16 : decode cX3_advance 16 = .ok (.isub, 1) := by decide +kernel
theorem dX3_advance_17 : decode cX3_advance 17 = .ok (.if_icmp .le 13, 3) := by decide +kernel
theorem dX3_advance_20 : decode cX3_advance 20 = .ok (.new 63, 3) := by decide +kernel
theorem dX3_advance_23 : decode cX3_advance 23 = .ok (.dup, 1) := by decide +kernel
theorem dX3_advance_24 : decode cX3_advance 24 = .ok (.ldc 151, 2) := by decide +kernel
theorem dX3_advance_26 : decode cX3_advance 26 = .ok (.invokespecial 67, 3) := by decide +kernel
theorem dX3_advance_29 : decode cX3_advance 29 = .ok (.athrow, 1) := by decide +kernel
theorem dX3_advance_30 : decode cX3_advance 30 = .ok (.iconst 0, 1) := by decide +kernel
theorem dX3_advance_31 : decode cX3_advance 31 = .ok (.istore_n 2, 1) := by decide +kernel
theorem dX3_advance_32 : decode cX3_advance 32 = .ok (.iload_n 2, 1) := by decide +kernel
theorem dX3_advance_33 : decode cX3_advance 33 = .ok (.iload_n 1, 1) := by decide +kernel
theorem dX3_advance_34 : decode cX3_advance 34 = .ok (.if_icmp .ge 13, 3) := by decide +kernel
theorem dX3_advance_37 : decode cX3_advance 37 = .ok (.aload_n 0, 1) := by decide +kernel
theorem dX3_advance_38 : decode cX3_advance 38 = .ok (.invokevirtual 153, 3) := by decide +kernel
theorem dX3_advance_41 : decode cX3_advance 41 = .ok (.iinc 2 1, 3) := by decide +kernel
theorem dX3_advance_44 : decode cX3_advance 44 = .ok (.goto (-12), 3) := by decide +kernel
theorem dX3_advance_47 : decode cX3_advance 47 = .ok (.aload_n 0, 1) := by decide +kernel
theorem dX3_advance_48 : decode cX3_advance 48 = .ok (.getfield 38, 3) := by decide +kernel
theorem dX3_advance_51 : decode cX3_advance 51 = .ok (.ireturn, 1) := by decide +kernel
set_option maxRecDepth 20000 in
theorem ggX3_fold_X3_hasEnded : GoodIn wsX3_fold wsX3_hasEnded := goodIn_r _ [8, 9, 15, 16, 17, 18, 19, 20, 21, 22] (by decide +kernel) (by decide +kernel)
set_option maxRecDepth 20000 in
theorem gX3_fold_X3_hasEnded : GoodIn wsX3_fold (wsV RX3 156 RX3 yX3_hasEnded wsX3_hasEnded) := goodIn_app (goodIn_of _ (by decide +kernel)) ggX3_fold_X3_hasEnded
set_option maxRecDepth 20000 in
theorem ggX3_fold_X3_sumLaidOn : GoodIn wsX3_fold wsX3_sumLaidOn := goodIn_r _ [13, 14, 15, 16, 17, 18, 19, 20, 21, 22, 23, 24, 25, 26, 27, 28, 29] (by decide +kernel) (by decide +kernel)
set_option maxRecDepth 20000 in
theorem gX3_fold_X3_sumLaidOn : GoodIn wsX3_fold (wsV RX3 164 RX3 yX3_sumLaidOn wsX3_sumLaidOn) := goodIn_app (goodIn_of _ (by decide +kernel)) ggX3_fold_X3_sumLaidOn
theorem dX3_fold_0 : decode cX3_fold 0 = .ok (.aload_n 0, 1) := by decide +kernel
theorem dX3_fold_1 : decode cX3_fold 1 = .ok (.iload_n 1, 1) := by decide +kernel
theorem dX3_fold_2 : decode cX3_fold 2 = .ok (.invokevirtual 156, 3) := by decide +kernel
theorem dX3_fold_5 : decode cX3_fold 5 = .ok (.ifCond .eq 11, 3) := by decide +kernel
theorem dX3_fold_8 : decode cX3_fold 8 = .ok (.iload_n 1, 1) := by decide +kernel
theorem dX3_fold_9 : decode cX3_fold 9 = .ok (.aload_n 0, 1) := by decide +kernel
theorem dX3_fold_10 : decode cX3_fold 10 = .ok (.getfield 44, 3) := by decide +kernel
theorem dX3_fold_13 : decode cX3_fold 13 = .ok (.if_icmp .ge 13, 3) := by decide +kernel
theorem dX3_fold_16 : decode cX3_fold 16 = .ok (.new 159, 3) := by decide +kernel
theorem dX3_fold_19 : decode cX3_fold 19 = .ok (.dup, 1) := by decide +kernel
theorem dX3_fold_20 : decode cX3_fold 20 = .ok (.ldc 161, 2) := by decide +kernel
theorem dX3_fold_22 : decode cX3_fold 22 = .ok (.invokespecial 163, 3) := by decide +kernel
theorem dX3_fold_25 : decode cX3_fold 25 = .ok (.athrow, 1) := by decide +kernel
theorem dX3_fold_26 : decode cX3_fold 26 = .ok (.iconst 0, 1) := by decide +kernel
theorem dX3_fold_27 : decode cX3_fold 27 = .ok (.istore_n 2, 1) := by decide +kernel
theorem dX3_fold_28 : decode cX3_fold 28 = .ok (.aload_n 0, 1) := by decide +kernel
theorem dX3_fold_29 : decode cX3_fold 29 = .ok (.getfield 44, 3) := by decide +kernel
theorem dX3_fold_32 : decode cX3_fold 32 = .ok (.istore_n 3, 1) := by decide +kernel
theorem dX3_fold_33 : decode cX3_fold 33 = .ok (.iload_n 3, 1) := by decide +kernel
theorem dX3_fold_34 : decode cX3_fold 34 = .ok (.iload_n 1, 1) := by decide +kernel
theorem dX3_fold_35 : decode cX3_fold 35 = .ok (.if_icmp .gt 17, 3) := by decide +kernel
theorem dX3_fold_38 : decode cX3_fold 38 = .ok (.iload_n 2, 1) := by decide +kernel
theorem dX3_fold_39 : decode cX3_fold 39 = .ok (.aload_n 0, 1) := by decide +kernel
theorem dX3_fold_40 : decode cX3_fold 40 = .ok (.iload_n 3, 1) := by decide +kernel
theorem dX3_fold_41 : decode cX3_fold 41 = .ok (.invokevirtual 164, 3) := by decide +kernel
theorem dX3_fold_44 : decode cX3_fold 44 = .ok (.iadd, 1) := by decide +kernel
theorem dX3_fold_45 : decode cX3_fold 45 = .ok (.istore_n 2, 1) := by decide +kernel
theorem dX3_fold_46 : decode cX3_fold 46 = .ok (.iinc 3 1, 3) := by decide +kernel
theorem dX3_fold_49 : decode cX3_fold 49 = .ok (.goto (-16), 3) := by decide +kernel
theorem dX3_fold_52 : decode cX3_fold 52 = .ok (.aload_n 0, 1) := by decide +kernel
theorem dX3_fold_53 : decode cX3_fold 53 = .ok (.iload_n 1, 1) := by decide +kernel
theorem dX3_fold_54 : decode cX3_fold 54 = .ok (.iconst 1, 1) := by decide +kernel
theorem dX3_fold_55 : decode cX3_fold 55 = .ok (.iadd, 1) := by decide +kernel
theorem dX3_fold_56 : decode cX3_fold 56 = .ok (.putfield 44, 3) := by decide +kernel
theorem dX3_fold_59 : decode cX3_fold 59 = .ok (.iload_n 2, 1) := by decide +kernel
theorem dX3_fold_60 : decode cX3_fold 60 = .ok (.ireturn, 1) := by decide +kernel
theorem dX3_day_0 : decode cX3_day 0 = .ok (.aload_n 0, 1) := by decide +kernel
theorem dX3_day_1 : decode cX3_day 1 = .ok (.getfield 38, 3) := by decide +kernel
theorem dX3_day_4 : decode cX3_day 4 = .ok (.ireturn, 1) := by decide +kernel
theorem dX3_fund_0 : decode cX3_fund 0 = .ok (.aload_n 0, 1) := by decide +kernel
theorem dX3_fund_1 : decode cX3_fund 1 = .ok (.getfield 41, 3) := by decide +kernel
theorem dX3_fund_4 : decode cX3_fund 4 = .ok (.ireturn, 1) := by decide +kernel
set_option maxRecDepth 20000 in
theorem ggX3_owed_X3_memberAt : GoodIn wsX3_owed wsX3_memberAt := goodIn_ca (goodIn_r _ [5, 6, 7, 8, 15, 16, 17, 18, 19, 20, 21, 22] (by decide +kernel) (by decide +kernel)) (goodIn_sub (fun _ h => List.mem_cons_of_mem _ (List.mem_append_right _ h)) (by decide +kernel))
set_option maxRecDepth 20000 in
theorem gX3_owed_X3_memberAt : GoodIn wsX3_owed (wsV RX3 73 RX3 yX3_memberAt wsX3_memberAt) := goodIn_app (goodIn_of _ (by decide +kernel)) ggX3_owed_X3_memberAt
set_option maxRecDepth 20000 in
theorem ggX3_owed_X2_sumOwed : GoodIn wsX3_owed wsX2_sumOwed := goodIn_r _ [12, 13, 14, 23, 24, 25, 26, 27, 28, 29, 30, 31, 32] (by decide +kernel) (by decide +kernel)
set_option maxRecDepth 20000 in
theorem gX3_owed_X2_sumOwed_n96 : GoodIn wsX3_owed (wsX2_sumOwed) := ggX3_owed_X2_sumOwed
theorem dX3_owed_0 : decode cX3_owed 0 = .ok (.aload_n 0, 1) := by decide +kernel
theorem dX3_owed_1 : decode cX3_owed 1 = .ok (.iload_n 1, 1) := by decide +kernel
theorem dX3_owed_2 : decode cX3_owed 2 = .ok (.invokevirtual 73, 3) := by decide +kernel
theorem dX3_owed_5 : decode cX3_owed 5 = .ok (.invokevirtual 96, 3) := by decide +kernel
theorem dX3_owed_8 : decode cX3_owed 8 = .ok (.ireturn, 1) := by decide +kernel
set_option maxRecDepth 20000 in
theorem ggX3_credit_X3_memberAt : GoodIn wsX3_credit wsX3_memberAt := goodIn_ca (goodIn_r _ [5, 6, 7, 8, 19, 20, 21, 22, 23, 24, 25, 26] (by decide +kernel) (by decide +kernel)) (goodIn_sub (fun _ h => List.mem_cons_of_mem _ (List.mem_append_right _ h)) (by decide +kernel))
set_option maxRecDepth 20000 in
theorem gX3_credit_X3_memberAt : GoodIn wsX3_credit (wsV RX3 73 RX3 yX3_memberAt wsX3_memberAt) := goodIn_app (goodIn_of _ (by decide +kernel)) ggX3_credit_X3_memberAt
theorem dX3_credit_0 : decode cX3_credit 0 = .ok (.aload_n 0, 1) := by decide +kernel
theorem dX3_credit_1 : decode cX3_credit 1 = .ok (.iload_n 1, 1) := by decide +kernel
theorem dX3_credit_2 : decode cX3_credit 2 = .ok (.invokevirtual 73, 3) := by decide +kernel
theorem dX3_credit_5 : decode cX3_credit 5 = .ok (.getfield 167, 3) := by decide +kernel
theorem dX3_credit_8 : decode cX3_credit 8 = .ok (.ireturn, 1) := by decide +kernel
set_option maxRecDepth 20000 in
theorem ggX3_laid_X3_memberAt : GoodIn wsX3_laid wsX3_memberAt := goodIn_ca (goodIn_r _ [8, 9, 10, 11, 21, 22, 23, 24, 25, 26, 27, 28] (by decide +kernel) (by decide +kernel)) (goodIn_sub (fun _ h => List.mem_cons_of_mem _ (List.mem_append_right _ h)) (by decide +kernel))
set_option maxRecDepth 20000 in
theorem gX3_laid_X3_memberAt : GoodIn wsX3_laid (wsV RX3 73 RX3 yX3_memberAt wsX3_memberAt) := goodIn_app (goodIn_of _ (by decide +kernel)) ggX3_laid_X3_memberAt
set_option maxRecDepth 20000 in
theorem ggX3_laid_X3_checkEnded : GoodIn wsX3_laid wsX3_checkEnded := goodIn_ca (goodIn_r _ [15, 9, 10, 16, 17, 18, 7, 19, 20, 21, 22, 23, 24, 25, 26, 27, 28] (by decide +kernel) (by decide +kernel)) (goodIn_sub (fun _ h => List.mem_cons_of_mem _ (List.mem_append_right _ h)) (by decide +kernel))
set_option maxRecDepth 20000 in
theorem gX3_laid_X3_checkEnded : GoodIn wsX3_laid (wsV RX3 170 RX3 yX3_checkEnded wsX3_checkEnded) := goodIn_app (goodIn_of _ (by decide +kernel)) ggX3_laid_X3_checkEnded
theorem dX3_laid_0 : decode cX3_laid 0 = .ok (.aload_n 0, 1) := by decide +kernel
theorem dX3_laid_1 : decode cX3_laid 1 = .ok (.iload_n 1, 1) := by decide +kernel
theorem dX3_laid_2 : decode cX3_laid 2 = .ok (.invokevirtual 73, 3) := by decide +kernel
theorem dX3_laid_5 : decode cX3_laid 5 = .ok (.astore_n 3, 1) := by decide +kernel
theorem dX3_laid_6 : decode cX3_laid 6 = .ok (.aload_n 0, 1) := by decide +kernel
theorem dX3_laid_7 : decode cX3_laid 7 = .ok (.iload_n 2, 1) := by decide +kernel
theorem dX3_laid_8 : decode cX3_laid 8 = .ok (.invokevirtual 170, 3) := by decide +kernel
theorem dX3_laid_11 : decode cX3_laid 11 = .ok (.iload_n 2, 1) := by decide +kernel
theorem dX3_laid_12 : decode cX3_laid 12 = .ok (.aload_n 0, 1) := by decide +kernel
theorem dX3_laid_13 : decode cX3_laid 13 = .ok (.getfield 44, 3) := by decide +kernel
theorem dX3_laid_16 : decode cX3_laid 16 = .ok (.if_icmp .ge 13, 3) := by decide +kernel
theorem dX3_laid_19 : decode cX3_laid 19 = .ok (.new 63, 3) := by decide +kernel
theorem dX3_laid_22 : decode cX3_laid 22 = .ok (.dup, 1) := by decide +kernel
theorem dX3_laid_23 : decode cX3_laid 23 = .ok (.ldc 173, 2) := by decide +kernel
theorem dX3_laid_25 : decode cX3_laid 25 = .ok (.invokespecial 67, 3) := by decide +kernel
theorem dX3_laid_28 : decode cX3_laid 28 = .ok (.athrow, 1) := by decide +kernel
theorem dX3_laid_29 : decode cX3_laid 29 = .ok (.aload_n 3, 1) := by decide +kernel
theorem dX3_laid_30 : decode cX3_laid 30 = .ok (.getfield 175, 3) := by decide +kernel
theorem dX3_laid_33 : decode cX3_laid 33 = .ok (.iload_n 2, 1) := by decide +kernel
theorem dX3_laid_34 : decode cX3_laid 34 = .ok (.iaload, 1) := by decide +kernel
theorem dX3_laid_35 : decode cX3_laid 35 = .ok (.ireturn, 1) := by decide +kernel
set_option maxRecDepth 20000 in
theorem ggX3_laidFor_X3_branchAt : GoodIn wsX3_laidFor wsX3_branchAt := goodIn_ca (goodIn_r _ [5, 6, 7, 8, 25, 26, 27, 28, 29, 30, 31, 32] (by decide +kernel) (by decide +kernel)) (goodIn_sub (fun _ h => List.mem_cons_of_mem _ (List.mem_append_right _ h)) (by decide +kernel))
set_option maxRecDepth 20000 in
theorem gX3_laidFor_X3_branchAt : GoodIn wsX3_laidFor (wsV RX3 59 RX3 yX3_branchAt wsX3_branchAt) := goodIn_app (goodIn_of _ (by decide +kernel)) ggX3_laidFor_X3_branchAt
set_option maxRecDepth 20000 in
theorem ggX3_laidFor_X3_checkEnded : GoodIn wsX3_laidFor wsX3_checkEnded := goodIn_ca (goodIn_r _ [12, 6, 7, 13, 14, 15, 4, 16, 17, 25, 26, 27, 28, 29, 30, 31, 32] (by decide +kernel) (by decide +kernel)) (goodIn_sub (fun _ h => List.mem_cons_of_mem _ (List.mem_append_right _ h)) (by decide +kernel))
set_option maxRecDepth 20000 in
theorem gX3_laidFor_X3_checkEnded : GoodIn wsX3_laidFor (wsV RX3 170 RX3 yX3_checkEnded wsX3_checkEnded) := goodIn_app (goodIn_of _ (by decide +kernel)) ggX3_laidFor_X3_checkEnded
theorem dX3_laidFor_0 : decode cX3_laidFor 0 = .ok (.aload_n 0, 1) := by decide +kernel
theorem dX3_laidFor_1 : decode cX3_laidFor 1 = .ok (.iload_n 1, 1) := by decide +kernel
theorem dX3_laidFor_2 : decode cX3_laidFor 2 = .ok (.invokevirtual 59, 3) := by decide +kernel
theorem dX3_laidFor_5 : decode cX3_laidFor 5 = .ok (.astore_n 3, 1) := by decide +kernel
theorem dX3_laidFor_6 : decode cX3_laidFor 6 = .ok (.aload_n 0, 1) := by decide +kernel
theorem dX3_laidFor_7 : decode cX3_laidFor 7 = .ok (.iload_n 2, 1) := by decide +kernel
theorem dX3_laidFor_8 : decode cX3_laidFor 8 = .ok (.invokevirtual 170, 3) := by decide +kernel
theorem dX3_laidFor_11 : decode cX3_laidFor 11 = .ok (.aload_n 3, 1) := by decide +kernel
theorem dX3_laidFor_12 : decode cX3_laidFor 12 = .ok (.getfield 179, 3) := by decide +kernel
theorem dX3_laidFor_15 : decode cX3_laidFor 15 = .ok (.iload_n 2, 1) := by decide +kernel
theorem dX3_laidFor_16 : decode cX3_laidFor 16 = .ok (.iaload, 1) := by decide +kernel
theorem dX3_laidFor_17 : decode cX3_laidFor 17 = .ok (.ireturn, 1) := by decide +kernel
set_option maxRecDepth 20000 in
theorem ggX3_hasStanding_X3_memberAt : GoodIn wsX3_hasStanding wsX3_memberAt := goodIn_ca (goodIn_r _ [6, 7, 8, 9, 16, 17, 18, 19, 20, 21, 22, 23] (by decide +kernel) (by decide +kernel)) (goodIn_sub (fun _ h => List.mem_cons_of_mem _ (List.mem_append_right _ h)) (by decide +kernel))
set_option maxRecDepth 20000 in
theorem gX3_hasStanding_X3_memberAt : GoodIn wsX3_hasStanding (wsV RX3 73 RX3 yX3_memberAt wsX3_memberAt) := goodIn_app (goodIn_of _ (by decide +kernel)) ggX3_hasStanding_X3_memberAt
set_option maxRecDepth 20000 in
theorem ggX3_hasStanding_X2_standsOn : GoodIn wsX3_hasStanding wsX2_standsOn := goodIn_r _ [13, 14, 15, 24, 25, 26, 27, 28, 29, 30, 31, 32, 33] (by decide +kernel) (by decide +kernel)
set_option maxRecDepth 20000 in
theorem gX3_hasStanding_X2_standsOn_n120 : GoodIn wsX3_hasStanding (wsX2_standsOn) := ggX3_hasStanding_X2_standsOn
theorem dX3_hasStanding_0 : decode cX3_hasStanding 0 = .ok (.aload_n 0, 1) := by decide +kernel
theorem dX3_hasStanding_1 : decode cX3_hasStanding 1 = .ok (.iload_n 1, 1) := by decide +kernel
theorem dX3_hasStanding_2 : decode cX3_hasStanding 2 = .ok (.invokevirtual 73, 3) := by decide +kernel
theorem dX3_hasStanding_5 : decode cX3_hasStanding 5 = .ok (.aload_n 0, 1) := by decide +kernel
theorem dX3_hasStanding_6 : decode cX3_hasStanding 6 = .ok (.getfield 38, 3) := by decide +kernel
theorem dX3_hasStanding_9 : decode cX3_hasStanding 9 = .ok (.invokevirtual 120, 3) := by decide +kernel
theorem dX3_hasStanding_12 : decode cX3_hasStanding 12 = .ok (.ireturn, 1) := by decide +kernel
set_option maxRecDepth 20000 in
theorem ggX3_strikePay_X3_memberAt : GoodIn wsX3_strikePay wsX3_memberAt := goodIn_ca (goodIn_r _ [5, 6, 7, 8, 19, 20, 21, 22, 23, 24, 25, 26] (by decide +kernel) (by decide +kernel)) (goodIn_sub (fun _ h => List.mem_cons_of_mem _ (List.mem_append_right _ h)) (by decide +kernel))
set_option maxRecDepth 20000 in
theorem gX3_strikePay_X3_memberAt : GoodIn wsX3_strikePay (wsV RX3 73 RX3 yX3_memberAt wsX3_memberAt) := goodIn_app (goodIn_of _ (by decide +kernel)) ggX3_strikePay_X3_memberAt
theorem dX3_strikePay_0 : decode cX3_strikePay 0 = .ok (.aload_n 0, 1) := by decide +kernel
theorem dX3_strikePay_1 : decode cX3_strikePay 1 = .ok (.iload_n 1, 1) := by decide +kernel
theorem dX3_strikePay_2 : decode cX3_strikePay 2 = .ok (.invokevirtual 73, 3) := by decide +kernel
theorem dX3_strikePay_5 : decode cX3_strikePay 5 = .ok (.getfield 180, 3) := by decide +kernel
theorem dX3_strikePay_8 : decode cX3_strikePay 8 = .ok (.ireturn, 1) := by decide +kernel
set_option maxRecDepth 20000 in
theorem ggX3_delegates_X3_branchAt : GoodIn wsX3_delegates wsX3_branchAt := goodIn_ca (goodIn_r _ [5, 6, 7, 8, 16, 17, 18, 19, 20, 21, 22, 23] (by decide +kernel) (by decide +kernel)) (goodIn_sub (fun _ h => List.mem_cons_of_mem _ (List.mem_append_right _ h)) (by decide +kernel))
set_option maxRecDepth 20000 in
theorem gX3_delegates_X3_branchAt : GoodIn wsX3_delegates (wsV RX3 59 RX3 yX3_branchAt wsX3_branchAt) := goodIn_app (goodIn_of _ (by decide +kernel)) ggX3_delegates_X3_branchAt
theorem dX3_delegates_0 : decode cX3_delegates 0 = .ok (.aload_n 0, 1) := by decide +kernel
theorem dX3_delegates_1 : decode cX3_delegates 1 = .ok (.iload_n 1, 1) := by decide +kernel
theorem dX3_delegates_2 : decode cX3_delegates 2 = .ok (.invokevirtual 59, 3) := by decide +kernel
theorem dX3_delegates_5 : decode cX3_delegates 5 = .ok (.getfield 183, 3) := by decide +kernel
theorem dX3_delegates_8 : decode cX3_delegates 8 = .ok (.ireturn, 1) := by decide +kernel
set_option maxRecDepth 20000 in
theorem ggX3_isOut_X3_branchAt : GoodIn wsX3_isOut wsX3_branchAt := goodIn_ca (goodIn_r _ [5, 6, 7, 8, 16, 17, 18, 19, 20, 21, 22, 23] (by decide +kernel) (by decide +kernel)) (goodIn_sub (fun _ h => List.mem_cons_of_mem _ (List.mem_append_right _ h)) (by decide +kernel))
set_option maxRecDepth 20000 in
theorem gX3_isOut_X3_branchAt : GoodIn wsX3_isOut (wsV RX3 59 RX3 yX3_branchAt wsX3_branchAt) := goodIn_app (goodIn_of _ (by decide +kernel)) ggX3_isOut_X3_branchAt
theorem dX3_isOut_0 : decode cX3_isOut 0 = .ok (.aload_n 0, 1) := by decide +kernel
theorem dX3_isOut_1 : decode cX3_isOut 1 = .ok (.iload_n 1, 1) := by decide +kernel
theorem dX3_isOut_2 : decode cX3_isOut 2 = .ok (.invokevirtual 59, 3) := by decide +kernel
theorem dX3_isOut_5 : decode cX3_isOut 5 = .ok (.getfield 108, 3) := by decide +kernel
theorem dX3_isOut_8 : decode cX3_isOut 8 = .ok (.ireturn, 1) := by decide +kernel
theorem dX3_bandAt_0 : decode cX3_bandAt 0 = .ok (.iload_n 1, 1) := by decide +kernel
theorem dX3_bandAt_1 : decode cX3_bandAt 1 = .ok (.ifCond .lt 12, 3) := by decide +kernel
theorem dX3_bandAt_4 : decode cX3_bandAt 4 = .ok (.iload_n 1, 1) := by decide +kernel
theorem dX3_bandAt_5 : decode cX3_bandAt 5 = .ok (.aload_n 0, 1) := by decide +kernel
theorem dX3_bandAt_6 : decode cX3_bandAt 6 = .ok (.getfield 14, 3) := by decide +kernel
theorem dX3_bandAt_9 : decode cX3_bandAt 9 = .ok (.arraylength, 1) := by decide +kernel
theorem dX3_bandAt_10 : decode cX3_bandAt 10 = .ok (.if_icmp .lt 13, 3) := by decide +kernel
theorem dX3_bandAt_13 : decode cX3_bandAt 13 = .ok (.new 186, 3) := by decide +kernel
theorem dX3_bandAt_16 : decode cX3_bandAt 16 = .ok (.dup, 1) := by decide +kernel
theorem dX3_bandAt_17 : decode cX3_bandAt 17 = .ok (.ldc 188, 2) := by decide +kernel
theorem dX3_bandAt_19 : decode cX3_bandAt 19 = .ok (.invokespecial 190, 3) := by decide +kernel
theorem dX3_bandAt_22 : decode cX3_bandAt 22 = .ok (.athrow, 1) := by decide +kernel
theorem dX3_bandAt_23 : decode cX3_bandAt 23 = .ok (.aload_n 0, 1) := by decide +kernel
theorem dX3_bandAt_24 : decode cX3_bandAt 24 = .ok (.getfield 14, 3) := by decide +kernel
theorem dX3_bandAt_27 : decode cX3_bandAt 27 = .ok (.iload_n 1, 1) := by decide +kernel
theorem dX3_bandAt_28 : decode cX3_bandAt 28 = .ok (.aaload, 1) := by decide +kernel
theorem dX3_bandAt_29 : decode cX3_bandAt 29 = .ok (.areturn, 1) := by decide +kernel
theorem dX3_branchAt_0 : decode cX3_branchAt 0 = .ok (.iload_n 1, 1) := by decide +kernel
theorem dX3_branchAt_1 : decode cX3_branchAt 1 = .ok (.ifCond .lt 12, 3) := by decide +kernel
theorem dX3_branchAt_4 : decode cX3_branchAt 4 = .ok (.iload_n 1, 1) := by decide +kernel
theorem dX3_branchAt_5 : decode cX3_branchAt 5 = .ok (.aload_n 0, 1) := by decide +kernel
theorem dX3_branchAt_6 : decode cX3_branchAt 6 = .ok (.getfield 21, 3) := by decide +kernel
theorem dX3_branchAt_9 : decode cX3_branchAt 9 = .ok (.arraylength, 1) := by decide +kernel
theorem dX3_branchAt_10 : decode cX3_branchAt 10 = .ok (.if_icmp .lt 13, 3) := by decide +kernel
theorem dX3_branchAt_13 : decode cX3_branchAt 13 = .ok (.new 186, 3) := by decide +kernel
theorem dX3_branchAt_16 : decode cX3_branchAt 16 = .ok (.dup, 1) := by decide +kernel
theorem dX3_branchAt_17 : decode cX3_branchAt 17 = .ok (.ldc 191, 2) := by decide +kernel
theorem dX3_branchAt_19 : decode cX3_branchAt 19 = .ok (.invokespecial 190, 3) := by decide +kernel
theorem dX3_branchAt_22 : decode cX3_branchAt 22 = .ok (.athrow, 1) := by decide +kernel
theorem dX3_branchAt_23 : decode cX3_branchAt 23 = .ok (.aload_n 0, 1) := by decide +kernel
theorem dX3_branchAt_24 : decode cX3_branchAt 24 = .ok (.getfield 21, 3) := by decide +kernel
theorem dX3_branchAt_27 : decode cX3_branchAt 27 = .ok (.iload_n 1, 1) := by decide +kernel
theorem dX3_branchAt_28 : decode cX3_branchAt 28 = .ok (.aaload, 1) := by decide +kernel
theorem dX3_branchAt_29 : decode cX3_branchAt 29 = .ok (.areturn, 1) := by decide +kernel
theorem dX3_memberAt_0 : decode cX3_memberAt 0 = .ok (.iload_n 1, 1) := by decide +kernel
theorem dX3_memberAt_1 : decode cX3_memberAt 1 = .ok (.ifCond .lt 21, 3) := by decide +kernel
theorem dX3_memberAt_4 : decode cX3_memberAt 4 = .ok (.iload_n 1, 1) := by decide +kernel
theorem dX3_memberAt_5 : decode cX3_memberAt 5 = .ok (.aload_n 0, 1) := by decide +kernel
theorem dX3_memberAt_6 : decode cX3_memberAt 6 = .ok (.getfield 27, 3) := by decide +kernel
theorem dX3_memberAt_9 : decode cX3_memberAt 9 = .ok (.arraylength, 1) := by decide +kernel
theorem dX3_memberAt_10 : decode cX3_memberAt 10 = .ok (.if_icmp .ge 12, 3) := by decide +kernel
theorem dX3_memberAt_13 : decode cX3_memberAt 13 = .ok (.aload_n 0, 1) := by decide +kernel
theorem dX3_memberAt_14 : decode cX3_memberAt 14 = .ok (.getfield 27, 3) := by decide +kernel
theorem dX3_memberAt_17 : decode cX3_memberAt 17 = .ok (.iload_n 1, 1) := by decide +kernel
theorem dX3_memberAt_18 : decode cX3_memberAt 18 = .ok (.aaload, 1) := by decide +kernel
theorem dX3_memberAt_19 : decode cX3_memberAt 19 = .ok (.ifnonnull 13, 3) := by decide +kernel
theorem dX3_memberAt_22 : decode cX3_memberAt 22 = .ok (.new 186, 3) := by decide +kernel
theorem dX3_memberAt_25 : decode cX3_memberAt 25 = .ok (.dup, 1) := by decide +kernel
theorem dX3_memberAt_26 : decode cX3_memberAt 26 = .ok (.ldc 193, 2) := by decide +kernel
theorem dX3_memberAt_28 : decode cX3_memberAt 28 = .ok (.invokespecial 190, 3) := by decide +kernel
theorem dX3_memberAt_31 : decode cX3_memberAt 31 = .ok (.athrow, 1) := by decide +kernel
theorem dX3_memberAt_32 : decode cX3_memberAt 32 = .ok (.aload_n 0, 1) := by decide +kernel
theorem dX3_memberAt_33 : decode cX3_memberAt 33 = .ok (.getfield 27, 3) := by decide +kernel
theorem dX3_memberAt_36 : decode cX3_memberAt 36 = .ok (.iload_n 1, 1) := by decide +kernel
theorem dX3_memberAt_37 : decode cX3_memberAt 37 = .ok (.aaload, 1) := by decide +kernel
theorem dX3_memberAt_38 : decode cX3_memberAt 38 = .ok (.areturn, 1) := by decide +kernel
theorem dX3_checkNotLeft_0 : decode cX3_checkNotLeft 0 = .ok (.aload_n 1, 1) := by decide +kernel
theorem dX3_checkNotLeft_1 : decode cX3_checkNotLeft 1 = .ok (.getfield 93, 3) := by decide +kernel
theorem dX3_checkNotLeft_4 : decode cX3_checkNotLeft 4 = .ok (.ifCond .eq 13, 3) := by decide +kernel
theorem dX3_checkNotLeft_7 : decode cX3_checkNotLeft 7 = .ok (.new 63, 3) := by decide +kernel
theorem dX3_checkNotLeft_10 : decode cX3_checkNotLeft 10 = .ok (.dup, 1) := by decide +kernel
theorem dX3_checkNotLeft_11 : decode cX3_checkNotLeft 11 = .ok (.ldc 195, 2) := by decide +kernel
theorem dX3_checkNotLeft_13 : decode cX3_checkNotLeft 13 = .ok (.invokespecial 67, 3) := by decide +kernel
theorem dX3_checkNotLeft_16 : decode cX3_checkNotLeft 16 = .ok (.athrow, 1) := by decide +kernel
theorem dX3_checkNotLeft_17 : decode cX3_checkNotLeft 17 = .ok (.return_, 1) := by decide +kernel
theorem dX3_checkRange_0 : decode cX3_checkRange 0 = .ok (.iload_n 1, 1) := by decide +kernel
theorem dX3_checkRange_1 : decode cX3_checkRange 1 = .ok (.iload_n 2, 1) := by decide +kernel
theorem dX3_checkRange_2 : decode cX3_checkRange 2 = .ok (.if_icmp .lt 8, 3) := by decide +kernel
theorem dX3_checkRange_5 : decode cX3_checkRange 5 = .ok (.iload_n 1, 1) := by decide +kernel
theorem dX3_checkRange_6 : decode cX3_checkRange 6 = .ok (.iload_n 3, 1) := by decide +kernel
theorem dX3_checkRange_7 : decode cX3_checkRange 7 = .ok (.if_icmp .le 13, 3) := by decide +kernel
theorem dX3_checkRange_10 : decode cX3_checkRange 10 = .ok (.new 159, 3) := by decide +kernel
theorem dX3_checkRange_13 : decode cX3_checkRange 13 = .ok (.dup, 1) := by decide +kernel
theorem dX3_checkRange_14 : decode cX3_checkRange 14 = .ok (.ldc 197, 2) := by decide +kernel
theorem dX3_checkRange_16 : decode cX3_checkRange 16 = .ok (.invokespecial 163, 3) := by decide +kernel
theorem dX3_checkRange_19 : decode cX3_checkRange 19 = .ok (.athrow, 1) := by decide +kernel
theorem dX3_checkRange_20 : decode cX3_checkRange 20 = .ok (.return_, 1) := by decide +kernel
set_option maxRecDepth 20000 in
theorem ggX3_checkEnded_X3_hasEnded : GoodIn wsX3_checkEnded wsX3_hasEnded := goodIn_r _ [7, 8, 9, 10, 11, 12, 13, 14, 15, 16] (by decide +kernel) (by decide +kernel)
set_option maxRecDepth 20000 in
theorem gX3_checkEnded_X3_hasEnded : GoodIn wsX3_checkEnded (wsV RX3 156 RX3 yX3_hasEnded wsX3_hasEnded) := goodIn_app (goodIn_of _ (by decide +kernel)) ggX3_checkEnded_X3_hasEnded
theorem dX3_checkEnded_0 : decode cX3_checkEnded 0 = .ok (.aload_n 0, 1) := by decide +kernel
theorem dX3_checkEnded_1 : decode cX3_checkEnded 1 = .ok (.iload_n 1, 1) := by decide +kernel
theorem dX3_checkEnded_2 : decode cX3_checkEnded 2 = .ok (.invokevirtual 156, 3) := by decide +kernel
theorem dX3_checkEnded_5 : decode cX3_checkEnded 5 = .ok (.ifCond .ne 13, 3) := by decide +kernel
theorem dX3_checkEnded_8 : decode cX3_checkEnded 8 = .ok (.new 186, 3) := by decide +kernel
theorem dX3_checkEnded_11 : decode cX3_checkEnded 11 = .ok (.dup, 1) := by decide +kernel
theorem dX3_checkEnded_12 : decode cX3_checkEnded 12 = .ok (.ldc 199, 2) := by decide +kernel
theorem dX3_checkEnded_14 : decode cX3_checkEnded 14 = .ok (.invokespecial 190, 3) := by decide +kernel
theorem dX3_checkEnded_17 : decode cX3_checkEnded 17 = .ok (.athrow, 1) := by decide +kernel
theorem dX3_checkEnded_18 : decode cX3_checkEnded 18 = .ok (.return_, 1) := by decide +kernel
theorem dX3_hasEnded_0 : decode cX3_hasEnded 0 = .ok (.iload_n 1, 1) := by decide +kernel
theorem dX3_hasEnded_1 : decode cX3_hasEnded 1 = .ok (.ifCond .lt 24, 3) := by decide +kernel
theorem dX3_hasEnded_4 : decode cX3_hasEnded 4 = .ok (.iload_n 1, 1) := by decide +kernel
theorem dX3_hasEnded_5 : decode cX3_hasEnded 5 = .ok (.bipush 60, 2) := by decide +kernel
theorem dX3_hasEnded_7 : decode cX3_hasEnded 7 = .ok (.if_icmp .ge 18, 3) := by decide +kernel
theorem dX3_hasEnded_10 : decode cX3_hasEnded 10 = .ok (.iload_n 1, 1) := by decide +kernel
theorem dX3_hasEnded_11 : decode cX3_hasEnded 11 = .ok (.aload_n 0, 1) := by decide +kernel
theorem dX3_hasEnded_12 : decode cX3_hasEnded 12 = .ok (.getfield 38, 3) := by decide +kernel
theorem dX3_hasEnded_15 : decode cX3_hasEnded 15 = .ok (.bipush 30, 2) := by decide +kernel
theorem dX3_hasEnded_17 : decode cX3_hasEnded 17 = .ok (.idiv, 1) := by decide +kernel
theorem dX3_hasEnded_18 : decode cX3_hasEnded 18 = .ok (.if_icmp .ge 7, 3) := by decide +kernel
theorem dX3_hasEnded_21 : decode cX3_hasEnded 21 = .ok (.iconst 1, 1) := by decide +kernel
theorem dX3_hasEnded_22 : decode cX3_hasEnded 22 = .ok (.goto 4, 3) := by decide +kernel
theorem dX3_hasEnded_25 : decode cX3_hasEnded 25 = .ok (.iconst 0, 1) := by decide +kernel
theorem dX3_hasEnded_26 : decode cX3_hasEnded 26 = .ok (.ireturn, 1) := by decide +kernel
set_option maxRecDepth 20000 in
theorem ggX3_countStanding_X2_standsOn : GoodIn wsX3_countStanding wsX2_standsOn := goodIn_r _ [6, 7, 8, 17, 18, 19, 20, 21, 22, 23, 24, 25, 26] (by decide +kernel) (by decide +kernel)
set_option maxRecDepth 20000 in
theorem gX3_countStanding_X2_standsOn_n120 : GoodIn wsX3_countStanding (wsX2_standsOn) := ggX3_countStanding_X2_standsOn
theorem dX3_countStanding_0 : decode cX3_countStanding 0 = .ok (.iconst 0, 1) := by decide +kernel
theorem dX3_countStanding_1 : decode cX3_countStanding 1 = .ok (.istore_n 2, 1) := by decide +kernel
theorem dX3_countStanding_2 : decode cX3_countStanding 2 = .ok (.aload_n 0, 1) := by decide +kernel
theorem dX3_countStanding_3 : decode cX3_countStanding 3 = .ok (.getfield 27, 3) := by decide +kernel
theorem dX3_countStanding_6 : decode cX3_countStanding 6 = .ok (.astore_n 3, 1) := by decide +kernel
theorem dX3_countStanding_7 : decode cX3_countStanding 7 = .ok (.aload_n 3, 1) := by decide +kernel
theorem dX3_countStanding_8 : decode cX3_countStanding 8 = .ok (.arraylength, 1) := by decide +kernel
theorem dX3_countStanding_9 : decode cX3_countStanding 9 = .ok (.istore 4, 2) := by decide +kernel
theorem dX3_countStanding_11 : decode cX3_countStanding 11 = .ok (.iconst 0, 1) := by decide +kernel
theorem dX3_countStanding_12 : decode cX3_countStanding 12 = .ok (.istore 5, 2) := by decide +kernel
theorem dX3_countStanding_14 : decode cX3_countStanding 14 = .ok (.iload 5, 2) := by decide +kernel
theorem dX3_countStanding_16 : decode cX3_countStanding 16 = .ok (.iload 4, 2) := by decide +kernel
theorem dX3_countStanding_18 : decode cX3_countStanding 18 = .ok (.if_icmp .ge 44, 3) := by decide +kernel
theorem dX3_countStanding_21 : decode cX3_countStanding 21 = .ok (.aload_n 3, 1) := by decide +kernel
theorem dX3_countStanding_22 : decode cX3_countStanding 22 = .ok (.iload 5, 2) := by decide +kernel
theorem dX3_countStanding_24 : decode cX3_countStanding 24 = .ok (.aaload, 1) := by decide +kernel
theorem dX3_countStanding_25 : decode cX3_countStanding 25 = .ok (.astore 6, 2) := by decide +kernel
theorem dX3_countStanding_27 : decode cX3_countStanding 27 = .ok (.aload 6, 2) := by decide +kernel
theorem dX3_countStanding_29 : decode cX3_countStanding 29 = .ok (.ifnull 27, 3) := by decide +kernel
theorem dX3_countStanding_32 : decode cX3_countStanding 32 = .ok (.aload 6, 2) := by decide +kernel
theorem dX3_countStanding_34 : decode cX3_countStanding 34 = .ok (.getfield 81, 3) := by decide +kernel
theorem dX3_countStanding_37 : decode cX3_countStanding 37 = .ok (.aload_n 1, 1) := by decide +kernel
theorem dX3_countStanding_38 : decode cX3_countStanding 38 = .ok (.if_acmp .ne 18, 3) := by decide +kernel
theorem dX3_countStanding_41 : decode cX3_countStanding 41 = .ok (.aload 6, 2) := by decide +kernel
theorem dX3_countStanding_43 : decode cX3_countStanding 43 = .ok (.aload_n 0, 1) := by decide +kernel
theorem dX3_countStanding_44 : decode cX3_countStanding 44 = .ok (.getfield 38, 3) := by decide +kernel
theorem dX3_countStanding_47 : decode cX3_countStanding 47 = .ok (.invokevirtual 120, 3) := by decide +kernel
theorem dX3_countStanding_50 : decode cX3_countStanding 50 = .ok (.ifCond .eq 6, 3) := by decide +kernel
theorem dX3_countStanding_53 : decode cX3_countStanding 53 = .ok (.iinc 2 1, 3) := by decide +kernel
theorem dX3_countStanding_56 : decode cX3_countStanding 56 = .ok (.iinc 5 1, 3) := by decide +kernel
theorem dX3_countStanding_59 : decode cX3_countStanding 59 = .ok (.goto (-45), 3) := by decide +kernel
theorem dX3_countStanding_62 : decode cX3_countStanding 62 = .ok (.iload_n 2, 1) := by decide +kernel
theorem dX3_countStanding_63 : decode cX3_countStanding 63 = .ok (.ireturn, 1) := by decide +kernel
theorem dX3_sumLaidOn_0 : decode cX3_sumLaidOn 0 = .ok (.iconst 0, 1) := by decide +kernel
theorem dX3_sumLaidOn_1 : decode cX3_sumLaidOn 1 = .ok (.istore_n 2, 1) := by decide +kernel
theorem dX3_sumLaidOn_2 : decode cX3_sumLaidOn 2 = .ok (.aload_n 0, 1) := by decide +kernel
theorem dX3_sumLaidOn_3 : decode cX3_sumLaidOn 3 = .ok (.getfield 21, 3) := by decide +kernel
theorem dX3_sumLaidOn_6 : decode cX3_sumLaidOn 6 = .ok (.astore_n 3, 1) := by decide +kernel
theorem dX3_sumLaidOn_7 : decode cX3_sumLaidOn 7 = .ok (.aload_n 3, 1) := by decide +kernel
theorem dX3_sumLaidOn_8 : decode cX3_sumLaidOn 8 = .ok (.arraylength, 1) := by decide +kernel
theorem dX3_sumLaidOn_9 : decode cX3_sumLaidOn 9 = .ok (.istore 4, 2) := by decide +kernel
theorem dX3_sumLaidOn_11 : decode cX3_sumLaidOn 11 = .ok (.iconst 0, 1) := by decide +kernel
theorem dX3_sumLaidOn_12 : decode cX3_sumLaidOn 12 = .ok (.istore 5, 2) := by decide +kernel
theorem dX3_sumLaidOn_14 : decode cX3_sumLaidOn 14 = .ok (.iload 5, 2) := by decide +kernel
theorem dX3_sumLaidOn_16 : decode cX3_sumLaidOn 16 = .ok (.iload 4, 2) := by decide +kernel
theorem dX3_sumLaidOn_18 : decode cX3_sumLaidOn 18 = .ok (.if_icmp .ge 25, 3) := by decide +kernel
theorem dX3_sumLaidOn_21 : decode cX3_sumLaidOn 21 = .ok (.aload_n 3, 1) := by decide +kernel
theorem dX3_sumLaidOn_22 : decode cX3_sumLaidOn 22 = .ok (.iload 5, 2) := by decide +kernel
theorem dX3_sumLaidOn_24 : decode cX3_sumLaidOn 24 = .ok (.aaload, 1) := by decide +kernel
theorem dX3_sumLaidOn_25 : decode cX3_sumLaidOn 25 = .ok (.astore 6, 2) := by decide +kernel
theorem dX3_sumLaidOn_27 : decode cX3_sumLaidOn 27 = .ok (.iload_n 2, 1) := by decide +kernel
theorem dX3_sumLaidOn_28 : decode cX3_sumLaidOn 28 = .ok (.aload 6, 2) := by decide +kernel
theorem dX3_sumLaidOn_30 : decode cX3_sumLaidOn 30 = .ok (.getfield 179, 3) := by decide +kernel
theorem dX3_sumLaidOn_33 : decode cX3_sumLaidOn 33 = .ok (.iload_n 1, 1) := by decide +kernel
theorem dX3_sumLaidOn_34 : decode cX3_sumLaidOn 34 = .ok (.iaload, 1) := by decide +kernel
theorem dX3_sumLaidOn_35 : decode cX3_sumLaidOn 35 = .ok (.iadd, 1) := by decide +kernel
theorem dX3_sumLaidOn_36 : decode cX3_sumLaidOn 36 = .ok (.istore_n 2, 1) := by decide +kernel
theorem dX3_sumLaidOn_37 : decode cX3_sumLaidOn 37 = .ok (.iinc 5 1, 3) := by decide +kernel
theorem dX3_sumLaidOn_40 : decode cX3_sumLaidOn 40 = .ok (.goto (-26), 3) := by decide +kernel
theorem dX3_sumLaidOn_43 : decode cX3_sumLaidOn 43 = .ok (.iload_n 2, 1) := by decide +kernel
theorem dX3_sumLaidOn_44 : decode cX3_sumLaidOn 44 = .ok (.ireturn, 1) := by decide +kernel
set_option maxRecDepth 20000 in
theorem ggX3_endDay_X3_payStrikers : GoodIn wsX3_endDay wsX3_payStrikers := goodIn_r _ [6, 7, 1, 8, 9, 10, 11, 12, 13, 14, 15, 49, 50, 51, 52, 53, 54, 55, 56, 57, 58, 59, 60, 61, 62, 63, 64, 65, 66, 67, 68, 69, 70, 71, 72, 73] (by decide +kernel) (by decide +kernel)
set_option maxRecDepth 20000 in
theorem gX3_endDay_X3_payStrikers : GoodIn wsX3_endDay (wsV RX3 201 RX3 yX3_payStrikers wsX3_payStrikers) := goodIn_app (goodIn_of _ (by decide +kernel)) ggX3_endDay_X3_payStrikers
set_option maxRecDepth 20000 in
theorem ggX3_endDay_X3_chargeDues : GoodIn wsX3_endDay wsX3_chargeDues := goodIn_r _ [19, 7, 8, 20, 11, 21, 22, 23, 24, 14, 25, 26, 27, 28, 29, 30, 31, 32, 33, 34, 35, 36, 37, 38, 39, 49, 50, 51, 52, 53, 54, 55, 56, 57, 58, 59, 60, 61, 62, 63, 64, 65, 66, 74, 67, 68, 69, 70, 71, 72, 73] (by decide +kernel) (by decide +kernel)
set_option maxRecDepth 20000 in
theorem gX3_endDay_X3_chargeDues : GoodIn wsX3_endDay (wsV RX3 204 RX3 yX3_chargeDues wsX3_chargeDues) := goodIn_app (goodIn_of _ (by decide +kernel)) ggX3_endDay_X3_chargeDues
set_option maxRecDepth 20000 in
theorem ggX3_endDay_X3_countDelegates : GoodIn wsX3_endDay wsX3_countDelegates := goodIn_r _ [43, 44, 45, 46, 47, 5, 48, 7, 1, 10, 11, 12, 13, 14, 15, 49, 50, 51, 52, 53, 54, 55, 56, 67, 68, 69, 70, 71, 72, 73, 57, 58, 59, 60, 61, 62, 63, 64, 65, 66] (by decide +kernel) (by decide +kernel)
set_option maxRecDepth 20000 in
theorem gX3_endDay_X3_countDelegates : GoodIn wsX3_endDay (wsV RX3 207 RX3 yX3_countDelegates wsX3_countDelegates) := goodIn_app (goodIn_of _ (by decide +kernel)) ggX3_endDay_X3_countDelegates
theorem dX3_endDay_0 : decode cX3_endDay 0 = .ok (.aload_n 0, 1) := by decide +kernel
theorem dX3_endDay_1 : decode cX3_endDay 1 = .ok (.invokevirtual 201, 3) := by decide +kernel
theorem dX3_endDay_4 : decode cX3_endDay 4 = .ok (.aload_n 0, 1) := by decide +kernel
theorem dX3_endDay_5 : decode cX3_endDay 5 = .ok (.getfield 38, 3) := by decide +kernel
theorem dX3_endDay_8 : decode cX3_endDay 8 = .ok (.bipush 30, 2) := by decide +kernel
theorem dX3_endDay_10 : decode cX3_endDay 10 = .ok (.irem, 1) := by decide +kernel
theorem dX3_endDay_11 : decode cX3_endDay 11 = .ok (.bipush 29, 2) := by decide +kernel
theorem dX3_endDay_13 : decode cX3_endDay 13 = .ok (.if_icmp .ne 14, 3) := by decide +kernel
theorem dX3_endDay_16 : decode cX3_endDay 16 = .ok (.aload_n 0, 1) := by decide +kernel
theorem dX3_endDay_17 : decode cX3_endDay 17 = .ok (.aload_n 0, 1) := by decide +kernel
theorem dX3_endDay_18 : decode cX3_endDay 18 = .ok (.getfield 38, 3) := by decide +kernel
theorem dX3_endDay_21 : decode cX3_endDay 21 = .ok (.bipush 30, 2) := by decide +kernel
theorem dX3_endDay_23 : decode cX3_endDay 23 = .ok (.idiv, 1) := by decide +kernel
theorem dX3_endDay_24 : decode cX3_endDay 24 = .ok (.invokevirtual 204, 3) := by decide +kernel
theorem dX3_endDay_27 : decode cX3_endDay 27 = .ok (.aload_n 0, 1) := by decide +kernel
theorem dX3_endDay_28 : decode cX3_endDay 28 = .ok (.dup, 1) := by decide +kernel
theorem dX3_endDay_29 : decode cX3_endDay 29 = .ok (.getfield 38, 3) := by decide +kernel
theorem dX3_endDay_32 : decode cX3_endDay 32 = .ok (.iconst 1, 1) := by decide +kernel
theorem dX3_endDay_33 : decode cX3_endDay 33 = .ok (.iadd, 1) := by decide +kernel
theorem dX3_endDay_34 : decode cX3_endDay 34 = .ok (.putfield 38, 3) := by decide +kernel
theorem dX3_endDay_37 : decode cX3_endDay 37 = .ok (.aload_n 0, 1) := by decide +kernel
theorem dX3_endDay_38 : decode cX3_endDay 38 = .ok (.getfield 38, 3) := by decide +kernel
theorem dX3_endDay_41 : decode cX3_endDay 41 = .ok (.sipush 360, 3) := by decide +kernel
theorem dX3_endDay_44 : decode cX3_endDay 44 = .ok (.irem, 1) := by decide +kernel
theorem dX3_endDay_45 : decode cX3_endDay 45 = .ok (.ifCond .ne 7, 3) := by decide +kernel
theorem dX3_endDay_48 : decode cX3_endDay 48 = .ok (.aload_n 0, 1) := by decide +kernel
theorem dX3_endDay_49 : decode cX3_endDay 49 = .ok (.invokevirtual 207, 3) := by decide +kernel
theorem dX3_endDay_52 : decode cX3_endDay 52 = .ok (.return_, 1) := by decide +kernel
set_option maxRecDepth 20000 in
theorem ggX3_payStrikers_X2_standsOn : GoodIn wsX3_payStrikers wsX2_standsOn := goodIn_r _ [8, 9, 10, 19, 20, 21, 22, 23, 24, 25, 26, 27, 28] (by decide +kernel) (by decide +kernel)
set_option maxRecDepth 20000 in
theorem gX3_payStrikers_X2_standsOn_n120 : GoodIn wsX3_payStrikers (wsX2_standsOn) := ggX3_payStrikers_X2_standsOn
theorem dX3_payStrikers_0 : decode cX3_payStrikers 0 = .ok (.aload_n 0, 1) := by decide +kernel
theorem dX3_payStrikers_1 : decode cX3_payStrikers 1 = .ok (.getfield 27, 3) := by decide +kernel
theorem dX3_payStrikers_4 : decode cX3_payStrikers 4 = .ok (.astore_n 1, 1) := by decide +kernel
theorem dX3_payStrikers_5 : decode cX3_payStrikers 5 = .ok (.aload_n 1, 1) := by decide +kernel
theorem dX3_payStrikers_6 : decode cX3_payStrikers 6 = .ok (.arraylength, 1) := by decide +kernel
theorem dX3_payStrikers_7 : decode cX3_payStrikers 7 = .ok (.istore_n 2, 1) := by decide +kernel
theorem dX3_payStrikers_8 : decode cX3_payStrikers 8 = .ok (.iconst 0, 1) := by decide +kernel
theorem dX3_payStrikers_9 : decode cX3_payStrikers 9 = .ok (.istore_n 3, 1) := by decide +kernel
theorem dX3_payStrikers_10 : decode cX3_payStrikers 10 = .ok (.iload_n 3, 1) := by decide +kernel
theorem dX3_payStrikers_11 : decode cX3_payStrikers 11 = .ok (.iload_n 2, 1) := by decide +kernel
theorem dX3_payStrikers_12 : decode cX3_payStrikers 12 = .ok (.if_icmp .ge 80, 3) := by decide +kernel
theorem dX3_payStrikers_15 : decode cX3_payStrikers 15 = .ok (.aload_n 1, 1) := by decide +kernel
theorem dX3_payStrikers_16 : decode cX3_payStrikers 16 = .ok (.iload_n 3, 1) := by decide +kernel
theorem dX3_payStrikers_17 : decode cX3_payStrikers 17 = .ok (.aaload, 1) := by decide +kernel
theorem dX3_payStrikers_18 : decode cX3_payStrikers 18 = .ok (.astore 4, 2) := by decide +kernel
theorem dX3_payStrikers_20 : decode cX3_payStrikers 20 = .ok (.aload 4, 2) := by decide +kernel
theorem dX3_payStrikers_22 : decode cX3_payStrikers 22 = .ok (.ifnull 64, 3) := by decide +kernel
theorem dX3_payStrikers_25 : decode cX3_payStrikers 25 = .ok (.aload 4, 2) := by decide +kernel
theorem dX3_payStrikers_27 : decode cX3_payStrikers 27 = .ok (.getfield 81, 3) := by decide +kernel
theorem dX3_payStrikers_30 : decode cX3_payStrikers 30 = .ok (.getfield 108, 3) := by decide +kernel
theorem dX3_payStrikers_33 : decode cX3_payStrikers 33 = .ok (.ifCond .eq 53, 3) := by decide +kernel
theorem dX3_payStrikers_36 : decode cX3_payStrikers 36 = .ok (.aload 4, 2) := by decide +kernel
theorem dX3_payStrikers_38 : decode cX3_payStrikers 38 = .ok (.aload_n 0, 1) := by decide +kernel
theorem dX3_payStrikers_39 : decode cX3_payStrikers 39 = .ok (.getfield 38, 3) := by decide +kernel
theorem dX3_payStrikers_42 : decode cX3_payStrikers 42 = .ok (.invokevirtual 120, 3) := by decide +kernel
theorem dX3_payStrikers_45 : decode cX3_payStrikers 45 = .ok (.ifCond .eq 41, 3) := by decide +kernel
theorem dX3_payStrikers_48 : decode cX3_payStrikers 48 = .ok (.aload_n 0, 1) := by decide +kernel
theorem dX3_payStrikers_49 : decode cX3_payStrikers 49 = .ok (.getfield 41, 3) := by decide +kernel
theorem dX3_payStrikers_52 : decode cX3_payStrikers 52 = .ok (.aload_n 0, 1) := by decide +kernel
theorem dX3_payStrikers_53 : decode cX3_payStrikers 53 = .ok (.getfield 35, 3) := by decide +kernel
theorem dX3_payStrikers_56 : decode cX3_payStrikers 56 = .ok (.if_icmp .lt 30, 3) := by decide +kernel
theorem dX3_payStrikers_59 : decode cX3_payStrikers 59 = .ok (.aload_n 0, 1) := by decide +kernel
theorem dX3_payStrikers_60 : decode cX3_payStrikers 60 = .ok (.dup, 1) := by decide +kernel
theorem dX3_payStrikers_61 : decode cX3_payStrikers 61 = .ok (.getfield 41, 3) := by decide +kernel
theorem dX3_payStrikers_64 : decode cX3_payStrikers 64 = .ok (.aload_n 0, 1) := by decide +kernel
theorem dX3_payStrikers_65 : decode cX3_payStrikers 65 = .ok (.getfield 35, 3) := by decide +kernel
theorem dX3_payStrikers_68 : decode cX3_payStrikers 68 = .ok (.isub, 1) := by decide +kernel
theorem dX3_payStrikers_69 : decode cX3_payStrikers 69 = .ok (.putfield 41, 3) := by decide +kernel
theorem dX3_payStrikers_72 : decode cX3_payStrikers 72 = .ok (.aload 4, 2) := by decide +kernel
theorem dX3_payStrikers_74 : decode cX3_payStrikers 74 = .ok (.dup, 1) := by decide +kernel
theorem dX3_payStrikers_75 : decode cX3_payStrikers 75 = .ok (.getfield 180, 3) := by decide +kernel
theorem dX3_payStrikers_78 : decode cX3_payStrikers 78 = .ok (.aload_n 0, 1) := by decide +kernel
theorem dX3_payStrikers_79 : decode cX3_payStrikers 79 = .ok (.getfield 35, 3) := by decide +kernel
theorem dX3_payStrikers_82 : decode cX3_payStrikers 82 = .ok (.iadd, 1) := by decide +kernel
theorem dX3_payStrikers_83 : decode cX3_payStrikers 83 = .ok (.putfield 180, 3) := by decide +kernel
theorem dX3_payStrikers_86 : decode cX3_payStrikers 86 = .ok (.iinc 3 1, 3) := by decide +kernel
theorem dX3_payStrikers_89 : decode cX3_payStrikers 89 = .ok (.goto (-79), 3) := by decide +kernel
theorem dX3_payStrikers_92 : decode cX3_payStrikers 92 = .ok (.return_, 1) := by decide +kernel
set_option maxRecDepth 20000 in
theorem ggX3_chargeDues_X2_charge : GoodIn wsX3_chargeDues wsX2_charge := goodIn_r _ [6, 7, 8, 9, 10, 11, 12, 13, 14, 15, 16, 4, 17, 18, 19, 20, 21, 22, 23, 24, 33, 34, 35, 36, 37, 38, 39, 40, 41, 42, 43, 44, 45, 46, 47, 48, 49, 50] (by decide +kernel) (by decide +kernel)
set_option maxRecDepth 20000 in
theorem gX3_chargeDues_X2_charge_n210 : GoodIn wsX3_chargeDues (wsX2_charge) := ggX3_chargeDues_X2_charge
theorem dX3_chargeDues_0 : decode cX3_chargeDues 0 = .ok (.aload_n 0, 1) := by decide +kernel
theorem dX3_chargeDues_1 : decode cX3_chargeDues 1 = .ok (.getfield 27, 3) := by decide +kernel
theorem dX3_chargeDues_4 : decode cX3_chargeDues 4 = .ok (.astore_n 2, 1) := by decide +kernel
theorem dX3_chargeDues_5 : decode cX3_chargeDues 5 = .ok (.aload_n 2, 1) := by decide +kernel
theorem dX3_chargeDues_6 : decode cX3_chargeDues 6 = .ok (.arraylength, 1) := by decide +kernel
theorem dX3_chargeDues_7 : decode cX3_chargeDues 7 = .ok (.istore_n 3, 1) := by decide +kernel
theorem dX3_chargeDues_8 : decode cX3_chargeDues 8 = .ok (.iconst 0, 1) := by decide +kernel
theorem dX3_chargeDues_9 : decode cX3_chargeDues 9 = .ok (.istore 4, 2) := by decide +kernel
theorem dX3_chargeDues_11 : decode cX3_chargeDues 11 = .ok (.iload 4, 2) := by decide +kernel
theorem dX3_chargeDues_13 : decode cX3_chargeDues 13 = .ok (.iload_n 3, 1) := by decide +kernel
theorem dX3_chargeDues_14 : decode cX3_chargeDues 14 = .ok (.if_icmp .ge 51, 3) := by decide +kernel
theorem dX3_chargeDues_17 : decode cX3_chargeDues 17 = .ok (.aload_n 2, 1) := by decide +kernel
theorem dX3_chargeDues_18 : decode cX3_chargeDues 18 = .ok (.iload 4, 2) := by decide +kernel
theorem dX3_chargeDues_20 : decode cX3_chargeDues 20 = .ok (.aaload, 1) := by decide +kernel
theorem dX3_chargeDues_21 : decode cX3_chargeDues 21 = .ok (.astore 5, 2) := by decide +kernel
theorem dX3_chargeDues_23 : decode cX3_chargeDues 23 = .ok (.aload 5, 2) := by decide +kernel
theorem dX3_chargeDues_25 : decode cX3_chargeDues 25 = .ok (.ifnull 34, 3) := by decide +kernel
theorem dX3_chargeDues_28 : decode cX3_chargeDues 28 = .ok (.aload 5, 2) := by decide +kernel
theorem dX3_chargeDues_30 : decode cX3_chargeDues 30 = .ok (.getfield 93, 3) := by decide +kernel
theorem dX3_chargeDues_33 : decode cX3_chargeDues 33 = .ok (.ifCond .ne 26, 3) := by decide +kernel
theorem dX3_chargeDues_36 : decode cX3_chargeDues 36 = .ok (.aload 5, 2) := by decide +kernel
theorem dX3_chargeDues_38 : decode cX3_chargeDues 38 = .ok (.getfield 89, 3) := by decide +kernel
theorem dX3_chargeDues_41 : decode cX3_chargeDues 41 = .ok (.ifCond .ne 18, 3) := by decide +kernel
theorem dX3_chargeDues_44 : decode cX3_chargeDues 44 = .ok (.aload_n 0, 1) := by decide +kernel
theorem dX3_chargeDues_45 : decode cX3_chargeDues 45 = .ok (.dup, 1) := by decide +kernel
theorem dX3_chargeDues_46 : decode cX3_chargeDues 46 = .ok (.getfield 41, 3) := by decide +kernel
theorem dX3_chargeDues_49 : decode cX3_chargeDues 49 = .ok (.aload 5, 2) := by decide +kernel
theorem dX3_chargeDues_51 : decode cX3_chargeDues 51 = .ok (.iload_n 1, 1) := by decide +kernel
theorem dX3_chargeDues_52 : decode cX3_chargeDues 52 = .ok (.invokevirtual 210, 3) := by decide +kernel
theorem dX3_chargeDues_55 : decode cX3_chargeDues 55 = .ok (.iadd, 1) := by decide +kernel
theorem dX3_chargeDues_56 : decode cX3_chargeDues 56 = .ok (.putfield 41, 3) := by decide +kernel
theorem dX3_chargeDues_59 : decode cX3_chargeDues 59 = .ok (.iinc 4 1, 3) := by decide +kernel
theorem dX3_chargeDues_62 : decode cX3_chargeDues 62 = .ok (.goto (-51), 3) := by decide +kernel
theorem dX3_chargeDues_65 : decode cX3_chargeDues 65 = .ok (.return_, 1) := by decide +kernel
set_option maxRecDepth 20000 in
theorem ggX3_countDelegates_X3_countStanding : GoodIn wsX3_countDelegates wsX3_countStanding := goodIn_r _ [6, 7, 8, 9, 10, 11, 12, 13, 14, 15, 16, 17, 18, 19, 20, 21, 22, 30, 31, 32, 33, 34, 35, 36, 37, 38, 39] (by decide +kernel) (by decide +kernel)
set_option maxRecDepth 20000 in
theorem gX3_countDelegates_X3_countStanding : GoodIn wsX3_countDelegates (wsV RX3 116 RX3 yX3_countStanding wsX3_countStanding) := goodIn_app (goodIn_of _ (by decide +kernel)) ggX3_countDelegates_X3_countStanding
theorem dX3_countDelegates_0 : decode cX3_countDelegates 0 = .ok (.aload_n 0, 1) := by decide +kernel
theorem dX3_countDelegates_1 : decode cX3_countDelegates 1 = .ok (.getfield 21, 3) := by decide +kernel
theorem dX3_countDelegates_4 : decode cX3_countDelegates 4 = .ok (.astore_n 1, 1) := by decide +kernel
theorem dX3_countDelegates_5 : decode cX3_countDelegates 5 = .ok (.aload_n 1, 1) := by decide +kernel
theorem dX3_countDelegates_6 : decode cX3_countDelegates 6 = .ok (.arraylength, 1) := by decide +kernel
theorem dX3_countDelegates_7 : decode cX3_countDelegates 7 = .ok (.istore_n 2, 1) := by decide +kernel
theorem dX3_countDelegates_8 : decode cX3_countDelegates 8 = .ok (.iconst 0, 1) := by decide +kernel
theorem dX3_countDelegates_9 : decode cX3_countDelegates 9 = .ok (.istore_n 3, 1) := by decide +kernel
theorem dX3_countDelegates_10 : decode cX3_countDelegates 10 = .ok (.iload_n 3, 1) := by decide +kernel
theorem dX3_countDelegates_11 : decode cX3_countDelegates 11 = .ok (.iload_n 2, 1) := by decide +kernel
theorem dX3_countDelegates_12 : decode cX3_countDelegates 12 = .ok (.if_icmp .ge 35, 3) := by decide +kernel
theorem dX3_countDelegates_15 : decode cX3_countDelegates 15 = .ok (.aload_n 1, 1) := by decide +kernel
theorem dX3_countDelegates_16 : decode cX3_countDelegates 16 = .ok (.iload_n 3, 1) := by decide +kernel
theorem dX3_countDelegates_17 : decode cX3_countDelegates 17 = .ok (.aaload, 1) := by decide +kernel
theorem dX3_countDelegates_18 : decode cX3_countDelegates 18 = .ok (.astore 4, 2) := by decide +kernel
theorem dX3_countDelegates_20 : decode cX3_countDelegates 20 = .ok (.aload_n 0, 1) := by decide +kernel
theorem dX3_countDelegates_21 : decode cX3_countDelegates 21 = .ok (.aload 4, 2) := by decide +kernel
theorem dX3_countDelegates_23 : decode cX3_countDelegates 23 = .ok (.invokevirtual 116, 3) := by decide +kernel
theorem dX3_countDelegates_26 : decode cX3_countDelegates 26 = .ok (.istore 5, 2) := by decide +kernel
theorem dX3_countDelegates_28 : decode cX3_countDelegates 28 = .ok (.aload 4, 2) := by decide +kernel
theorem dX3_countDelegates_30 : decode cX3_countDelegates 30 = .ok (.iload 5, 2) := by decide +kernel
theorem dX3_countDelegates_32 : decode cX3_countDelegates 32 = .ok (.iconst 3, 1) := by decide +kernel
theorem dX3_countDelegates_33 : decode cX3_countDelegates 33 = .ok (.iadd, 1) := by decide +kernel
theorem dX3_countDelegates_34 : decode cX3_countDelegates 34 = .ok (.iconst 1, 1) := by decide +kernel
theorem dX3_countDelegates_35 : decode cX3_countDelegates 35 = .ok (.isub, 1) := by decide +kernel
theorem dX3_countDelegates_36 : decode cX3_countDelegates 36 = .ok (.iconst 3, 1) := by decide +kernel
theorem dX3_countDelegates_37 : decode cX3_countDelegates 37 = .ok (.idiv, 1) := by decide +kernel
theorem dX3_countDelegates_38 : decode cX3_countDelegates 38 = .ok (.putfield 183, 3) := by decide +kernel
theorem dX3_countDelegates_41 : decode cX3_countDelegates 41 = .ok (.iinc 3 1, 3) := by decide +kernel
theorem dX3_countDelegates_44 : decode cX3_countDelegates 44 = .ok (.goto (-34), 3) := by decide +kernel
theorem dX3_countDelegates_47 : decode cX3_countDelegates 47 = .ok (.return_, 1) := by decide +kernel
abbrev vwCl : List vw_C := [(RX0, TX0, 1), (RX1, TX1, 7), (RX2, TX2, 10), (RX3, TX3, 8), (RX4, TX4, 23)]
theorem dX4_isOut_0 : decode cX4_isOut 0 = .ok (.aload_n 0, 1) := by decide +kernel
theorem dX4_isOut_1 : decode cX4_isOut 1 = .ok (.iload_n 1, 1) := by decide +kernel
theorem dX4_isOut_2 : decode cX4_isOut 2 = .ok (.invokestatic 90, 3) := by decide +kernel
theorem dX4_isOut_5 : decode cX4_isOut 5 = .ok (.ifCond .eq 7, 3) := by decide +kernel
theorem dX4_isOut_8 : decode cX4_isOut 8 = .ok (.iconst 0, 1) := by decide +kernel
theorem dX4_isOut_9 : decode cX4_isOut 9 = .ok (.goto 4, 3) := by decide +kernel
theorem dX4_isOut_12 : decode cX4_isOut 12 = .ok (.iconst 1, 1) := by decide +kernel
theorem dX4_isOut_13 : decode cX4_isOut 13 = .ok (.putfield 69, 3) := by decide +kernel
theorem dX4_isOut_16 : decode cX4_isOut 16 = .ok (.aload_n 0, 1) := by decide +kernel
theorem dX4_isOut_17 : decode cX4_isOut 17 = .ok (.getfield 69, 3) := by decide +kernel
theorem dX4_isOut_20 : decode cX4_isOut 20 = .ok (.ifCond .ne 16, 3) := by decide +kernel
theorem dX4_isOut_23 : decode cX4_isOut 23 = .ok (.aload_n 0, 1) := by decide +kernel
theorem dX4_isOut_24 : decode cX4_isOut 24 = .ok (.getfield 53, 3) := by decide +kernel
theorem dX4_isOut_27 : decode cX4_isOut 27 = .ok (.iload_n 1, 1) := by decide +kernel
theorem dX4_isOut_28 : decode cX4_isOut 28 = .ok (.baload, 1) := by decide +kernel
theorem dX4_isOut_29 : decode cX4_isOut 29 = .ok (.ifCond .eq 7, 3) := by decide +kernel
theorem dX4_isOut_32 : decode cX4_isOut 32 = .ok (.iconst 1, 1) := by decide +kernel
theorem dX4_isOut_33 : decode cX4_isOut 33 = .ok (.goto 4, 3) := by decide +kernel
theorem dX4_isOut_36 : decode cX4_isOut 36 = .ok (.iconst 0, 1) := by decide +kernel
theorem dX4_isOut_37 : decode cX4_isOut 37 = .ok (.ireturn, 1) := by decide +kernel
theorem dJ6_bitCount_0f7a4_0 : decode cJ6_bitCount_0f7a4 0 = .ok (.iload_n 0, 1) := by decide +kernel
theorem dJ6_bitCount_0f7a4_1 : decode cJ6_bitCount_0f7a4 1 = .ok (.iload_n 0, 1) := by decide +kernel
theorem dJ6_bitCount_0f7a4_2 : decode cJ6_bitCount_0f7a4 2 = .ok (.iconst 1, 1) := by decide +kernel
theorem dJ6_bitCount_0f7a4_3 : decode cJ6_bitCount_0f7a4 3 = .ok (.iushr, 1) := by decide +kernel
theorem dJ6_bitCount_0f7a4_4 : decode cJ6_bitCount_0f7a4 4 = .ok (.ldc_w 265, 3) := by decide +kernel
theorem dJ6_bitCount_0f7a4_7 : decode cJ6_bitCount_0f7a4 7 = .ok (.iand, 1) := by decide +kernel
theorem dJ6_bitCount_0f7a4_8 : decode cJ6_bitCount_0f7a4 8 = .ok (.isub, 1) := by decide +kernel
theorem dJ6_bitCount_0f7a4_9 : decode cJ6_bitCount_0f7a4 9 = .ok (.istore_n 0, 1) := by decide +kernel
theorem dJ6_bitCount_0f7a4_10 : decode cJ6_bitCount_0f7a4 10 = .ok (.iload_n 0, 1) := by decide +kernel
theorem dJ6_bitCount_0f7a4_11 : decode cJ6_bitCount_0f7a4 11 = .ok (.ldc_w 266, 3) := by decide +kernel
theorem dJ6_bitCount_0f7a4_14 : decode cJ6_bitCount_0f7a4 14 = .ok (.iand, 1) := by decide +kernel
theorem dJ6_bitCount_0f7a4_15 : decode cJ6_bitCount_0f7a4 15 = .ok (.iload_n 0, 1) := by decide +kernel
theorem dJ6_bitCount_0f7a4_16 : decode cJ6_bitCount_0f7a4 16 = .ok (.iconst 2, 1) := by decide +kernel
theorem dJ6_bitCount_0f7a4_17 : decode cJ6_bitCount_0f7a4 17 = .ok (.iushr, 1) := by decide +kernel
theorem dJ6_bitCount_0f7a4_18 : decode cJ6_bitCount_0f7a4 18 = .ok (.ldc_w 266, 3) := by decide +kernel
theorem dJ6_bitCount_0f7a4_21 : decode cJ6_bitCount_0f7a4 21 = .ok (.iand, 1) := by decide +kernel
theorem dJ6_bitCount_0f7a4_22 : decode cJ6_bitCount_0f7a4 22 = .ok (.iadd, 1) := by decide +kernel
theorem dJ6_bitCount_0f7a4_23 : decode cJ6_bitCount_0f7a4 23 = .ok (.istore_n 0, 1) := by decide +kernel
theorem dJ6_bitCount_0f7a4_24 : decode cJ6_bitCount_0f7a4 24 = .ok (.iload_n 0, 1) := by decide +kernel
theorem dJ6_bitCount_0f7a4_25 : decode cJ6_bitCount_0f7a4 25 = .ok (.iload_n 0, 1) := by decide +kernel
theorem dJ6_bitCount_0f7a4_26 : decode cJ6_bitCount_0f7a4 26 = .ok (.iconst 4, 1) := by decide +kernel
theorem dJ6_bitCount_0f7a4_27 : decode cJ6_bitCount_0f7a4 27 = .ok (.iushr, 1) := by decide +kernel
theorem dJ6_bitCount_0f7a4_28 : decode cJ6_bitCount_0f7a4 28 = .ok (.iadd, 1) := by decide +kernel
theorem dJ6_bitCount_0f7a4_29 : decode cJ6_bitCount_0f7a4 29 = .ok (.ldc_w 267, 3) := by decide +kernel
theorem dJ6_bitCount_0f7a4_32 : decode cJ6_bitCount_0f7a4 32 = .ok (.iand, 1) := by decide +kernel
theorem dJ6_bitCount_0f7a4_33 : decode cJ6_bitCount_0f7a4 33 = .ok (.istore_n 0, 1) := by decide +kernel
theorem dJ6_bitCount_0f7a4_34 : decode cJ6_bitCount_0f7a4 34 = .ok (.iload_n 0, 1) := by decide +kernel
theorem dJ6_bitCount_0f7a4_35 : decode cJ6_bitCount_0f7a4 35 = .ok (.iload_n 0, 1) := by decide +kernel
theorem dJ6_bitCount_0f7a4_36 : decode cJ6_bitCount_0f7a4 36 = .ok (.bipush 8, 2) := by decide +kernel
theorem dJ6_bitCount_0f7a4_38 : decode cJ6_bitCount_0f7a4 38 = .ok (.iushr, 1) := by decide +kernel
theorem dJ6_bitCount_0f7a4_39 : decode cJ6_bitCount_0f7a4 39 = .ok (.iadd, 1) := by decide +kernel
theorem dJ6_bitCount_0f7a4_40 : decode cJ6_bitCount_0f7a4 40 = .ok (.istore_n 0, 1) := by decide +kernel
theorem dJ6_bitCount_0f7a4_41 : decode cJ6_bitCount_0f7a4 41 = .ok (.iload_n 0, 1) := by decide +kernel
theorem dJ6_bitCount_0f7a4_42 : decode cJ6_bitCount_0f7a4 42 = .ok (.iload_n 0, 1) := by decide +kernel
theorem dJ6_bitCount_0f7a4_43 : decode cJ6_bitCount_0f7a4 43 = .ok (.bipush 16, 2) := by decide +kernel
theorem dJ6_bitCount_0f7a4_45 : decode cJ6_bitCount_0f7a4 45 = .ok (.iushr, 1) := by decide +kernel
theorem dJ6_bitCount_0f7a4_46 : decode cJ6_bitCount_0f7a4 46 = .ok (.iadd, 1) := by decide +kernel
theorem dJ6_bitCount_0f7a4_47 : decode cJ6_bitCount_0f7a4 47 = .ok (.istore_n 0, 1) := by decide +kernel
theorem dJ6_bitCount_0f7a4_48 : decode cJ6_bitCount_0f7a4 48 = .ok (.iload_n 0, 1) := by decide +kernel
theorem dJ6_bitCount_0f7a4_49 : decode cJ6_bitCount_0f7a4 49 = .ok (.bipush 63, 2) := by decide +kernel
theorem dJ6_bitCount_0f7a4_51 : decode cJ6_bitCount_0f7a4 51 = .ok (.iand, 1) := by decide +kernel
theorem dJ6_bitCount_0f7a4_52 : decode cJ6_bitCount_0f7a4 52 = .ok (.ireturn, 1) := by decide +kernel
theorem dJ9_min_7cf53_0 : decode cJ9_min_7cf53 0 = .ok (.iload_n 0, 1) := by decide +kernel
theorem dJ9_min_7cf53_1 : decode cJ9_min_7cf53 1 = .ok (.iload_n 1, 1) := by decide +kernel
theorem dJ9_min_7cf53_2 : decode cJ9_min_7cf53 2 = .ok (.if_icmp .gt 7, 3) := by decide +kernel
theorem dJ9_min_7cf53_5 : decode cJ9_min_7cf53 5 = .ok (.iload_n 0, 1) := by decide +kernel
theorem dJ9_min_7cf53_6 : decode cJ9_min_7cf53 6 = .ok (.goto 4, 3) := by decide +kernel
theorem dJ9_min_7cf53_9 : decode cJ9_min_7cf53 9 = .ok (.iload_n 1, 1) := by decide +kernel
