theorem dX4_init_0 : decode cX4_init 0 = .ok (.aload_n 0, 1) := by decide +kernel
theorem dX4_init_1 : decode cX4_init 1 = .ok (.invokespecial 1, 3) := by decide +kernel
theorem dX4_init_4 : decode cX4_init 4 = .ok (.aload_n 0, 1) := by decide +kernel
theorem dX4_init_5 : decode cX4_init 5 = .ok (.iconst 3, 1) := by decide +kernel
theorem dX4_init_6 : decode cX4_init 6 = .ok (.newarray .int, 2) := by decide +kernel
theorem dX4_init_8 : decode cX4_init 8 = .ok (.putfield 7, 3) := by decide +kernel
theorem dX4_init_11 : decode cX4_init 11 = .ok (.aload_n 0, 1) := by decide +kernel
theorem dX4_init_12 : decode cX4_init 12 = .ok (.bipush 16, 2) := by decide +kernel
theorem dX4_init_14 : decode cX4_init 14 = .ok (.newarray .int, 2) := by decide +kernel
theorem dX4_init_16 : decode cX4_init 16 = .ok (.putfield 13, 3) := by decide +kernel
theorem dX4_init_19 : decode cX4_init 19 = .ok (.aload_n 0, 1) := by decide +kernel
theorem dX4_init_20 : decode cX4_init 20 = .ok (.bipush 16, 2) := by decide +kernel
theorem dX4_init_22 : decode cX4_init 22 = .ok (.newarray .int, 2) := by decide +kernel
theorem dX4_init_24 : decode cX4_init 24 = .ok (.putfield 16, 3) := by decide +kernel
theorem dX4_init_27 : decode cX4_init 27 = .ok (.aload_n 0, 1) := by decide +kernel
theorem dX4_init_28 : decode cX4_init 28 = .ok (.bipush 16, 2) := by decide +kernel
theorem dX4_init_30 : decode cX4_init 30 = .ok (.newarray .boolean, 2) := by decide +kernel
theorem dX4_init_32 : decode cX4_init 32 = .ok (.putfield 19, 3) := by decide +kernel
theorem dX4_init_35 : decode cX4_init 35 = .ok (.aload_n 0, 1) := by decide +kernel
theorem dX4_init_36 : decode cX4_init 36 = .ok (.bipush 16, 2) := by decide +kernel
theorem dX4_init_38 : decode cX4_init 38 = .ok (.newarray .boolean, 2) := by decide +kernel
theorem dX4_init_40 : decode cX4_init 40 = .ok (.putfield 23, 3) := by decide +kernel
theorem dX4_init_43 : decode cX4_init 43 = .ok (.aload_n 0, 1) := by decide +kernel
theorem dX4_init_44 : decode cX4_init 44 = .ok (.bipush 16, 2) := by decide +kernel
theorem dX4_init_46 : decode cX4_init 46 = .ok (.newarray .int, 2) := by decide +kernel
theorem dX4_init_48 : decode cX4_init 48 = .ok (.putfield 26, 3) := by decide +kernel
theorem dX4_init_51 : decode cX4_init 51 = .ok (.aload_n 0, 1) := by decide +kernel
theorem dX4_init_52 : decode cX4_init 52 = .ok (.bipush 16, 2) := by decide +kernel
theorem dX4_init_54 : decode cX4_init 54 = .ok (.newarray .int, 2) := by decide +kernel
theorem dX4_init_56 : decode cX4_init 56 = .ok (.putfield 29, 3) := by decide +kernel
theorem dX4_init_59 : decode cX4_init 59 = .ok (.aload_n 0, 1) := by decide +kernel
theorem dX4_init_60 : decode cX4_init 60 = .ok (.sipush 960, 3) := by decide +kernel
theorem dX4_init_63 : decode cX4_init 63 = .ok (.newarray .int, 2) := by decide +kernel
theorem dX4_init_65 : decode cX4_init 65 = .ok (.putfield 32, 3) := by decide +kernel
theorem dX4_init_68 : decode cX4_init 68 = .ok (.aload_n 0, 1) := by decide +kernel
theorem dX4_init_69 : decode cX4_init 69 = .ok (.sipush 960, 3) := by decide +kernel
theorem dX4_init_72 : decode cX4_init 72 = .ok (.newarray .int, 2) := by decide +kernel
theorem dX4_init_74 : decode cX4_init 74 = .ok (.putfield 35, 3) := by decide +kernel
theorem dX4_init_77 : decode cX4_init 77 = .ok (.aload_n 0, 1) := by decide +kernel
theorem dX4_init_78 : decode cX4_init 78 = .ok (.sipush 240, 3) := by decide +kernel
theorem dX4_init_81 : decode cX4_init 81 = .ok (.newarray .int, 2) := by decide +kernel
theorem dX4_init_83 : decode cX4_init 83 = .ok (.putfield 38, 3) := by decide +kernel
theorem dX4_init_86 : decode cX4_init 86 = .ok (.aload_n 0, 1) := by decide +kernel
theorem dX4_init_87 : decode cX4_init 87 = .ok (.iconst 4, 1) := by decide +kernel
theorem dX4_init_88 : decode cX4_init 88 = .ok (.newarray .boolean, 2) := by decide +kernel
theorem dX4_init_90 : decode cX4_init 90 = .ok (.putfield 41, 3) := by decide +kernel
theorem dX4_init_93 : decode cX4_init 93 = .ok (.aload_n 0, 1) := by decide +kernel
theorem dX4_init_94 : decode cX4_init 94 = .ok (.iconst 4, 1) := by decide +kernel
theorem dX4_init_95 : decode cX4_init 95 = .ok (.newarray .int, 2) := by decide +kernel
theorem dX4_init_97 : decode cX4_init 97 = .ok (.putfield 44, 3) := by decide +kernel
theorem dX4_init_100 : decode cX4_init 100 = .ok (.aload_n 0, 1) := by decide +kernel
theorem dX4_init_101 : decode cX4_init 101 = .ok (.iconst 4, 1) := by decide +kernel
theorem dX4_init_102 : decode cX4_init 102 = .ok (.newarray .int, 2) := by decide +kernel
theorem dX4_init_104 : decode cX4_init 104 = .ok (.putfield 47, 3) := by decide +kernel
theorem dX4_init_107 : decode cX4_init 107 = .ok (.aload_n 0, 1) := by decide +kernel
theorem dX4_init_108 : decode cX4_init 108 = .ok (.iconst 4, 1) := by decide +kernel
theorem dX4_init_109 : decode cX4_init 109 = .ok (.newarray .boolean, 2) := by decide +kernel
theorem dX4_init_111 : decode cX4_init 111 = .ok (.putfield 50, 3) := by decide +kernel
theorem dX4_init_114 : decode cX4_init 114 = .ok (.aload_n 0, 1) := by decide +kernel
theorem dX4_init_115 : decode cX4_init 115 = .ok (.iconst 4, 1) := by decide +kernel
theorem dX4_init_116 : decode cX4_init 116 = .ok (.newarray .boolean, 2) := by decide +kernel
theorem dX4_init_118 : decode cX4_init 118 = .ok (.putfield 53, 3) := by decide +kernel
theorem dX4_init_121 : decode cX4_init 121 = .ok (.aload_n 0, 1) := by decide +kernel
theorem dX4_init_122 : decode cX4_init 122 = .ok (.bipush 64, 2) := by decide +kernel
theorem dX4_init_124 : decode cX4_init 124 = .ok (.newarray .boolean, 2) := by decide +kernel
theorem dX4_init_126 : decode cX4_init 126 = .ok (.putfield 56, 3) := by decide +kernel
theorem dX4_init_129 : decode cX4_init 129 = .ok (.aload_n 0, 1) := by decide +kernel
theorem dX4_init_130 : decode cX4_init 130 = .ok (.iconst 4, 1) := by decide +kernel
theorem dX4_init_131 : decode cX4_init 131 = .ok (.newarray .int, 2) := by decide +kernel
theorem dX4_init_133 : decode cX4_init 133 = .ok (.putfield 59, 3) := by decide +kernel
theorem dX4_init_136 : decode cX4_init 136 = .ok (.aload_n 0, 1) := by decide +kernel
theorem dX4_init_137 : decode cX4_init 137 = .ok (.getfield 7, 3) := by decide +kernel
theorem dX4_init_140 : decode cX4_init 140 = .ok (.iconst 0, 1) := by decide +kernel
theorem dX4_init_141 : decode cX4_init 141 = .ok (.sipush 1000, 3) := by decide +kernel
theorem dX4_init_144 : decode cX4_init 144 = .ok (.iastore, 1) := by decide +kernel
theorem dX4_init_145 : decode cX4_init 145 = .ok (.aload_n 0, 1) := by decide +kernel
theorem dX4_init_146 : decode cX4_init 146 = .ok (.getfield 7, 3) := by decide +kernel
theorem dX4_init_149 : decode cX4_init 149 = .ok (.iconst 1, 1) := by decide +kernel
theorem dX4_init_150 : decode cX4_init 150 = .ok (.sipush 2000, 3) := by decide +kernel
theorem dX4_init_153 : decode cX4_init 153 = .ok (.iastore, 1) := by decide +kernel
theorem dX4_init_154 : decode cX4_init 154 = .ok (.aload_n 0, 1) := by decide +kernel
theorem dX4_init_155 : decode cX4_init 155 = .ok (.getfield 7, 3) := by decide +kernel
theorem dX4_init_158 : decode cX4_init 158 = .ok (.iconst 2, 1) := by decide +kernel
theorem dX4_init_159 : decode cX4_init 159 = .ok (.sipush 3000, 3) := by decide +kernel
theorem dX4_init_162 : decode cX4_init 162 = .ok (.iastore, 1) := by decide +kernel
theorem dX4_init_163 : decode cX4_init 163 = .ok (.aload_n 0, 1) := by decide +kernel
theorem dX4_init_164 : decode cX4_init 164 = .ok (.sipush 500, 3) := by decide +kernel
theorem dX4_init_167 : decode cX4_init 167 = .ok (.putfield 62, 3) := by decide +kernel
theorem dX4_init_170 : decode cX4_init 170 = .ok (.aload_n 0, 1) := by decide +kernel
theorem dX4_init_171 : decode cX4_init 171 = .ok (.iconst (-1), 1) := by decide +kernel
theorem dX4_init_172 : decode cX4_init 172 = .ok (.putfield 66, 3) := by decide +kernel
theorem dX4_init_175 : decode cX4_init 175 = .ok (.return_, 1) := by decide +kernel
theorem dX4_thrown_0 : decode cX4_thrown 0 = .ok (.aload_n 0, 1) := by decide +kernel
theorem dX4_thrown_1 : decode cX4_thrown 1 = .ok (.getfield 69, 3) := by decide +kernel
theorem dX4_thrown_4 : decode cX4_thrown 4 = .ok (.ireturn, 1) := by decide +kernel
theorem dX4_in_0 : decode cX4_in 0 = .ok (.iload_n 0, 1) := by decide +kernel
theorem dX4_in_1 : decode cX4_in 1 = .ok (.iload_n 1, 1) := by decide +kernel
theorem dX4_in_2 : decode cX4_in 2 = .ok (.if_icmp .lt 12, 3) := by decide +kernel
theorem dX4_in_5 : decode cX4_in 5 = .ok (.iload_n 0, 1) := by decide +kernel
theorem dX4_in_6 : decode cX4_in 6 = .ok (.iload_n 2, 1) := by decide +kernel
theorem dX4_in_7 : decode cX4_in 7 = .ok (.if_icmp .gt 7, 3) := by decide +kernel
theorem dX4_in_10 : decode cX4_in 10 = .ok (.iconst 1, 1) := by decide +kernel
theorem dX4_in_11 : decode cX4_in 11 = .ok (.goto 4, 3) := by decide +kernel
theorem dX4_in_14 : decode cX4_in 14 = .ok (.iconst 0, 1) := by decide +kernel
theorem dX4_in_15 : decode cX4_in 15 = .ok (.ireturn, 1) := by decide +kernel
set_option maxRecDepth 20000 in
theorem ggX4_isMember_X4_in : GoodIn wsX4_isMember wsX4_in := goodIn_r _ [5] (by decide +kernel) (by decide +kernel)
set_option maxRecDepth 20000 in
theorem gX4_isMember_X4_in : GoodIn wsX4_isMember (va_wsS RX4 75 yX4_in wsX4_in) := goodIn_app (goodIn_of _ (by decide +kernel)) ggX4_isMember_X4_in
theorem dX4_isMember_0 : decode cX4_isMember 0 = .ok (.iload_n 1, 1) := by decide +kernel
theorem dX4_isMember_1 : decode cX4_isMember 1 = .ok (.iconst 0, 1) := by decide +kernel
theorem dX4_isMember_2 : decode cX4_isMember 2 = .ok (.aload_n 0, 1) := by decide +kernel
theorem dX4_isMember_3 : decode cX4_isMember 3 = .ok (.getfield 72, 3) := by decide +kernel
theorem dX4_isMember_6 : decode cX4_isMember 6 = .ok (.iconst 1, 1) := by decide +kernel
theorem dX4_isMember_7 : decode cX4_isMember 7 = .ok (.isub, 1) := by decide +kernel
theorem dX4_isMember_8 : decode cX4_isMember 8 = .ok (.invokestatic 75, 3) := by decide +kernel
theorem dX4_isMember_11 : decode cX4_isMember 11 = .ok (.ireturn, 1) := by decide +kernel
set_option maxRecDepth 20000 in
theorem ggX4_isBranch_X4_in : GoodIn wsX4_isBranch wsX4_in := goodIn_r _ [4] (by decide +kernel) (by decide +kernel)
set_option maxRecDepth 20000 in
theorem gX4_isBranch_X4_in : GoodIn wsX4_isBranch (va_wsS RX4 75 yX4_in wsX4_in) := goodIn_app (goodIn_of _ (by decide +kernel)) ggX4_isBranch_X4_in
theorem dX4_isBranch_0 : decode cX4_isBranch 0 = .ok (.iload_n 0, 1) := by decide +kernel
theorem dX4_isBranch_1 : decode cX4_isBranch 1 = .ok (.iconst 0, 1) := by decide +kernel
theorem dX4_isBranch_2 : decode cX4_isBranch 2 = .ok (.iconst 3, 1) := by decide +kernel
theorem dX4_isBranch_3 : decode cX4_isBranch 3 = .ok (.invokestatic 75, 3) := by decide +kernel
theorem dX4_isBranch_6 : decode cX4_isBranch 6 = .ok (.ireturn, 1) := by decide +kernel
set_option maxRecDepth 20000 in
theorem ggX4_isBand_X4_in : GoodIn wsX4_isBand wsX4_in := goodIn_r _ [4] (by decide +kernel) (by decide +kernel)
set_option maxRecDepth 20000 in
theorem gX4_isBand_X4_in : GoodIn wsX4_isBand (va_wsS RX4 75 yX4_in wsX4_in) := goodIn_app (goodIn_of _ (by decide +kernel)) ggX4_isBand_X4_in
theorem dX4_isBand_0 : decode cX4_isBand 0 = .ok (.iload_n 0, 1) := by decide +kernel
theorem dX4_isBand_1 : decode cX4_isBand 1 = .ok (.iconst 0, 1) := by decide +kernel
theorem dX4_isBand_2 : decode cX4_isBand 2 = .ok (.iconst 2, 1) := by decide +kernel
theorem dX4_isBand_3 : decode cX4_isBand 3 = .ok (.invokestatic 75, 3) := by decide +kernel
theorem dX4_isBand_6 : decode cX4_isBand 6 = .ok (.ireturn, 1) := by decide +kernel
theorem dX4_stands_0 : decode cX4_stands 0 = .ok (.aload_n 0, 1) := by decide +kernel
theorem dX4_stands_1 : decode cX4_stands 1 = .ok (.getfield 19, 3) := by decide +kernel
theorem dX4_stands_4 : decode cX4_stands 4 = .ok (.iload_n 1, 1) := by decide +kernel
theorem dX4_stands_5 : decode cX4_stands 5 = .ok (.baload, 1) := by decide +kernel
theorem dX4_stands_6 : decode cX4_stands 6 = .ok (.ifCond .ne 7, 3) := by decide +kernel
theorem dX4_stands_9 : decode cX4_stands 9 = .ok (.iconst 1, 1) := by decide +kernel
theorem dX4_stands_10 : decode cX4_stands 10 = .ok (.goto 4, 3) := by decide +kernel
theorem dX4_stands_13 : decode cX4_stands 13 = .ok (.iconst 0, 1) := by decide +kernel
theorem dX4_stands_14 : decode cX4_stands 14 = .ok (.istore_n 2, 1) := by decide +kernel
theorem dX4_stands_15 : decode cX4_stands 15 = .ok (.iconst 0, 1) := by decide +kernel
theorem dX4_stands_16 : decode cX4_stands 16 = .ok (.istore_n 3, 1) := by decide +kernel
theorem dX4_stands_17 : decode cX4_stands 17 = .ok (.iload_n 3, 1) := by decide +kernel
theorem dX4_stands_18 : decode cX4_stands 18 = .ok (.bipush 60, 2) := by decide +kernel
theorem dX4_stands_20 : decode cX4_stands 20 = .ok (.if_icmp .ge 49, 3) := by decide +kernel
theorem dX4_stands_23 : decode cX4_stands 23 = .ok (.iload_n 2, 1) := by decide +kernel
theorem dX4_stands_24 : decode cX4_stands 24 = .ok (.ifCond .eq 45, 3) := by decide +kernel
theorem dX4_stands_27 : decode cX4_stands 27 = .ok (.aload_n 0, 1) := by decide +kernel
theorem dX4_stands_28 : decode cX4_stands 28 = .ok (.getfield 32, 3) := by decide +kernel
theorem dX4_stands_31 : decode cX4_stands 31 = .ok (.bipush 60, 2) := by decide +kernel
theorem dX4_stands_33 : decode cX4_stands 33 = .ok (.iload_n 1, 1) := by decide +kernel
theorem dX4_stands_34 : decode cX4_stands 34 = .ok (.imul, 1) := by decide +kernel
theorem dX4_stands_35 : decode cX4_stands 35 = .ok (.iload_n 3, 1) := by decide +kernel
theorem dX4_stands_36 : decode cX4_stands 36 = .ok (.iadd, 1) := by decide +kernel
theorem dX4_stands_37 : decode cX4_stands 37 = .ok (.iaload, 1) := by decide +kernel
theorem dX4_stands_38 : decode cX4_stands 38 = .ok (.ifCond .eq 19, 3) := by decide +kernel
theorem dX4_stands_41 : decode cX4_stands 41 = .ok (.aload_n 0, 1) := by decide +kernel
theorem dX4_stands_42 : decode cX4_stands 42 = .ok (.getfield 79, 3) := by decide +kernel
theorem dX4_stands_45 : decode cX4_stands 45 = .ok (.bipush 30, 2) := by decide +kernel
theorem dX4_stands_47 : decode cX4_stands 47 = .ok (.iload_n 3, 1) := by decide +kernel
theorem dX4_stands_48 : decode cX4_stands 48 = .ok (.iconst 1, 1) := by decide +kernel
theorem dX4_stands_49 : decode cX4_stands 49 = .ok (.iadd, 1) := by decide +kernel
theorem dX4_stands_50 : decode cX4_stands 50 = .ok (.imul, 1) := by decide +kernel
theorem dX4_stands_51 : decode cX4_stands 51 = .ok (.bipush 60, 2) := by decide +kernel
theorem dX4_stands_53 : decode cX4_stands 53 = .ok (.iadd, 1) := by decide +kernel
theorem dX4_stands_54 : decode cX4_stands 54 = .ok (.if_icmp .ge 7, 3) := by decide +kernel
theorem dX4_stands_57 : decode cX4_stands 57 = .ok (.iconst 1, 1) := by decide +kernel
theorem dX4_stands_58 : decode cX4_stands 58 = .ok (.goto 4, 3) := by decide +kernel
theorem dX4_stands_61 : decode cX4_stands 61 = .ok (.iconst 0, 1) := by decide +kernel
theorem dX4_stands_62 : decode cX4_stands 62 = .ok (.istore_n 2, 1) := by decide +kernel
theorem dX4_stands_63 : decode cX4_stands 63 = .ok (.iinc 3 1, 3) := by decide +kernel
theorem dX4_stands_66 : decode cX4_stands 66 = .ok (.goto (-49), 3) := by decide +kernel
theorem dX4_stands_69 : decode cX4_stands 69 = .ok (.iload_n 2, 1) := by decide +kernel
theorem dX4_stands_70 : decode cX4_stands 70 = .ok (.ireturn, 1) := by decide +kernel
set_option maxRecDepth 20000 in
theorem ggX4_standing_X4_stands : GoodIn wsX4_standing wsX4_stands := goodIn_r _ [7, 8, 9, 10, 11, 12, 13, 14, 15, 16, 17, 18, 19, 20, 21, 22, 23, 24, 25, 26, 27, 28, 29, 30, 31, 32, 33] (by decide +kernel) (by decide +kernel)
set_option maxRecDepth 20000 in
theorem gX4_standing_X4_stands : GoodIn wsX4_standing (wsV RX4 82 RX4 yX4_stands wsX4_stands) := goodIn_app (goodIn_of _ (by decide +kernel)) ggX4_standing_X4_stands
theorem dX4_standing_0 : decode cX4_standing 0 = .ok (.iconst 0, 1) := by decide +kernel
theorem dX4_standing_1 : decode cX4_standing 1 = .ok (.istore_n 2, 1) := by decide +kernel
theorem dX4_standing_2 : decode cX4_standing 2 = .ok (.iconst 0, 1) := by decide +kernel
theorem dX4_standing_3 : decode cX4_standing 3 = .ok (.istore_n 3, 1) := by decide +kernel
theorem dX4_standing_4 : decode cX4_standing 4 = .ok (.iload_n 3, 1) := by decide +kernel
theorem dX4_standing_5 : decode cX4_standing 5 = .ok (.aload_n 0, 1) := by decide +kernel
theorem dX4_standing_6 : decode cX4_standing 6 = .ok (.getfield 72, 3) := by decide +kernel
theorem dX4_standing_9 : decode cX4_standing 9 = .ok (.if_icmp .ge 35, 3) := by decide +kernel
theorem dX4_standing_12 : decode cX4_standing 12 = .ok (.iload_n 2, 1) := by decide +kernel
theorem dX4_standing_13 : decode cX4_standing 13 = .ok (.aload_n 0, 1) := by decide +kernel
theorem dX4_standing_14 : decode cX4_standing 14 = .ok (.getfield 13, 3) := by decide +kernel
theorem dX4_standing_17 : decode cX4_standing 17 = .ok (.iload_n 3, 1) := by decide +kernel
theorem dX4_standing_18 : decode cX4_standing 18 = .ok (.iaload, 1) := by decide +kernel
theorem dX4_standing_19 : decode cX4_standing 19 = .ok (.iload_n 1, 1) := by decide +kernel
theorem dX4_standing_20 : decode cX4_standing 20 = .ok (.if_icmp .ne 15, 3) := by decide +kernel
theorem dX4_standing_23 : decode cX4_standing 23 = .ok (.aload_n 0, 1) := by decide +kernel
theorem dX4_standing_24 : decode cX4_standing 24 = .ok (.iload_n 3, 1) := by decide +kernel
theorem dX4_standing_25 : decode cX4_standing 25 = .ok (.invokevirtual 82, 3) := by decide +kernel
theorem dX4_standing_28 : decode cX4_standing 28 = .ok (.ifCond .eq 7, 3) := by decide +kernel
theorem dX4_standing_31 : decode cX4_standing 31 = .ok (.iconst 1, 1) := by decide +kernel
theorem dX4_standing_32 : decode cX4_standing 32 = .ok (.goto 4, 3) := by decide +kernel
theorem dX4_standing_35 : decode cX4_standing 35 = .ok (.iconst 0, 1) := by decide +kernel
theorem dX4_standing_36 : decode cX4_standing 36 = .ok (.iadd, 1) := by decide +kernel
theorem dX4_standing_37 : decode cX4_standing 37 = .ok (.istore_n 2, 1) := by decide +kernel
theorem dX4_standing_38 : decode cX4_standing 38 = .ok (.iinc 3 1, 3) := by decide +kernel
theorem dX4_standing_41 : decode cX4_standing 41 = .ok (.goto (-37), 3) := by decide +kernel
theorem dX4_standing_44 : decode cX4_standing 44 = .ok (.iload_n 2, 1) := by decide +kernel
theorem dX4_standing_45 : decode cX4_standing 45 = .ok (.ireturn, 1) := by decide +kernel
theorem dX4_owedBy_0 : decode cX4_owedBy 0 = .ok (.iconst 0, 1) := by decide +kernel
theorem dX4_owedBy_1 : decode cX4_owedBy 1 = .ok (.istore_n 2, 1) := by decide +kernel
theorem dX4_owedBy_2 : decode cX4_owedBy 2 = .ok (.iconst 0, 1) := by decide +kernel
theorem dX4_owedBy_3 : decode cX4_owedBy 3 = .ok (.istore_n 3, 1) := by decide +kernel
theorem dX4_owedBy_4 : decode cX4_owedBy 4 = .ok (.iload_n 3, 1) := by decide +kernel
theorem dX4_owedBy_5 : decode cX4_owedBy 5 = .ok (.bipush 60, 2) := by decide +kernel
theorem dX4_owedBy_7 : decode cX4_owedBy 7 = .ok (.if_icmp .ge 23, 3) := by decide +kernel
theorem dX4_owedBy_10 : decode cX4_owedBy 10 = .ok (.iload_n 2, 1) := by decide +kernel
theorem dX4_owedBy_11 : decode cX4_owedBy 11 = .ok (.aload_n 0, 1) := by decide +kernel
theorem dX4_owedBy_12 : decode cX4_owedBy 12 = .ok (.getfield 32, 3) := by decide +kernel
theorem dX4_owedBy_15 : decode cX4_owedBy 15 = .ok (.bipush 60, 2) := by decide +kernel
theorem dX4_owedBy_17 : decode cX4_owedBy 17 = .ok (.iload_n 1, 1) := by decide +kernel
theorem dX4_owedBy_18 : decode cX4_owedBy 18 = .ok (.imul, 1) := by decide +kernel
theorem dX4_owedBy_19 : decode cX4_owedBy 19 = .ok (.iload_n 3, 1) := by decide +kernel
theorem dX4_owedBy_20 : decode cX4_owedBy 20 = .ok (.iadd, 1) := by decide +kernel
theorem dX4_owedBy_21 : decode cX4_owedBy 21 = .ok (.iaload, 1) := by decide +kernel
theorem dX4_owedBy_22 : decode cX4_owedBy 22 = .ok (.iadd, 1) := by decide +kernel
theorem dX4_owedBy_23 : decode cX4_owedBy 23 = .ok (.istore_n 2, 1) := by decide +kernel
theorem dX4_owedBy_24 : decode cX4_owedBy 24 = .ok (.iinc 3 1, 3) := by decide +kernel
theorem dX4_owedBy_27 : decode cX4_owedBy 27 = .ok (.goto (-23), 3) := by decide +kernel
theorem dX4_owedBy_30 : decode cX4_owedBy 30 = .ok (.iload_n 2, 1) := by decide +kernel
theorem dX4_owedBy_31 : decode cX4_owedBy 31 = .ok (.ireturn, 1) := by decide +kernel
set_option maxRecDepth 20000 in
theorem ggX4_setDues_X4_isBand : GoodIn wsX4_setDues wsX4_isBand := goodIn_r _ [7, 8, 9, 6, 10] (by decide +kernel) (by decide +kernel)
set_option maxRecDepth 20000 in
theorem gX4_setDues_X4_isBand : GoodIn wsX4_setDues (va_wsS RX4 86 yX4_isBand wsX4_isBand) := goodIn_app (goodIn_of _ (by decide +kernel)) ggX4_setDues_X4_isBand
set_option maxRecDepth 20000 in
theorem ggX4_setDues_X4_in : GoodIn wsX4_setDues wsX4_in := goodIn_r _ [10] (by decide +kernel) (by decide +kernel)
set_option maxRecDepth 20000 in
theorem gX4_setDues_X4_in : GoodIn wsX4_setDues (va_wsS RX4 75 yX4_in wsX4_in) := goodIn_app (goodIn_of _ (by decide +kernel)) ggX4_setDues_X4_in
theorem dX4_setDues_0 : decode cX4_setDues 0 = .ok (.aload_n 0, 1) := by decide +kernel
theorem dX4_setDues_1 : decode cX4_setDues 1 = .ok (.iload_n 1, 1) := by decide +kernel
theorem dX4_setDues_2 : decode cX4_setDues 2 = .ok (.invokestatic 86, 3) := by decide +kernel
theorem dX4_setDues_5 : decode cX4_setDues 5 = .ok (.ifCond .ne 7, 3) := by decide +kernel
theorem dX4_setDues_8 : decode cX4_setDues 8 = .ok (.iconst 1, 1) := by decide +kernel
theorem dX4_setDues_9 : decode cX4_setDues 9 = .ok (.goto 18, 3) := by decide +kernel
theorem dX4_setDues_12 : decode cX4_setDues 12 = .ok (.iload_n 2, 1) := by decide +kernel
theorem dX4_setDues_13 : decode cX4_setDues 13 = .ok (.iconst 0, 1) := by decide +kernel
theorem dX4_setDues_14 : decode cX4_setDues 14 = .ok (.ldc 89, 2) := by decide +kernel
theorem dX4_setDues_16 : decode cX4_setDues 16 = .ok (.invokestatic 75, 3) := by decide +kernel
theorem dX4_setDues_19 : decode cX4_setDues 19 = .ok (.ifCond .ne 7, 3) := by decide +kernel
theorem dX4_setDues_22 : decode cX4_setDues 22 = .ok (.iconst 2, 1) := by decide +kernel
theorem dX4_setDues_23 : decode cX4_setDues 23 = .ok (.goto 4, 3) := by decide +kernel
theorem dX4_setDues_26 : decode cX4_setDues 26 = .ok (.iconst 0, 1) := by decide +kernel
theorem dX4_setDues_27 : decode cX4_setDues 27 = .ok (.putfield 69, 3) := by decide +kernel
theorem dX4_setDues_30 : decode cX4_setDues 30 = .ok (.aload_n 0, 1) := by decide +kernel
theorem dX4_setDues_31 : decode cX4_setDues 31 = .ok (.getfield 69, 3) := by decide +kernel
theorem dX4_setDues_34 : decode cX4_setDues 34 = .ok (.ifCond .le 5, 3) := by decide +kernel
theorem dX4_setDues_37 : decode cX4_setDues 37 = .ok (.iconst 0, 1) := by decide +kernel
theorem dX4_setDues_38 : decode cX4_setDues 38 = .ok (.ireturn, 1) := by decide +kernel
theorem dX4_setDues_39 : decode cX4_setDues 39 = .ok (.aload_n 0, 1) := by decide +kernel
theorem dX4_setDues_40 : decode cX4_setDues 40 = .ok (.getfield 7, 3) := by decide +kernel
theorem dX4_setDues_43 : decode cX4_setDues 43 = .ok (.iload_n 1, 1) := by decide +kernel
theorem dX4_setDues_44 : decode cX4_setDues 44 = .ok (.iaload, 1) := by decide +kernel
theorem dX4_setDues_45 : decode cX4_setDues 45 = .ok (.istore_n 3, 1) := by decide +kernel
theorem dX4_setDues_46 : decode cX4_setDues 46 = .ok (.aload_n 0, 1) := by decide +kernel
theorem dX4_setDues_47 : decode cX4_setDues 47 = .ok (.getfield 7, 3) := by decide +kernel
theorem dX4_setDues_50 : decode cX4_setDues 50 = .ok (.iload_n 1, 1) := by decide +kernel
theorem dX4_setDues_51 : decode cX4_setDues 51 = .ok (.iload_n 2, 1) := by decide +kernel
theorem dX4_setDues_52 : decode cX4_setDues 52 = .ok (.iastore, 1) := by decide +kernel
theorem dX4_setDues_53 : decode cX4_setDues 53 = .ok (.iload_n 3, 1) := by decide +kernel
theorem dX4_setDues_54 : decode cX4_setDues 54 = .ok (.ireturn, 1) := by decide +kernel
set_option maxRecDepth 20000 in
theorem ggX4_setStrikePay_X4_in : GoodIn wsX4_setStrikePay wsX4_in := goodIn_r _ [7] (by decide +kernel) (by decide +kernel)
set_option maxRecDepth 20000 in
theorem gX4_setStrikePay_X4_in : GoodIn wsX4_setStrikePay (va_wsS RX4 75 yX4_in wsX4_in) := goodIn_app (goodIn_of _ (by decide +kernel)) ggX4_setStrikePay_X4_in
theorem dX4_setStrikePay_0 : decode cX4_setStrikePay 0 = .ok (.aload_n 0, 1) := by decide +kernel
theorem dX4_setStrikePay_1 : decode cX4_setStrikePay 1 = .ok (.iload_n 1, 1) := by decide +kernel
theorem dX4_setStrikePay_2 : decode cX4_setStrikePay 2 = .ok (.iconst 0, 1) := by decide +kernel
theorem dX4_setStrikePay_3 : decode cX4_setStrikePay 3 = .ok (.ldc 89, 2) := by decide +kernel
theorem dX4_setStrikePay_5 : decode cX4_setStrikePay 5 = .ok (.invokestatic 75, 3) := by decide +kernel
theorem dX4_setStrikePay_8 : decode cX4_setStrikePay 8 = .ok (.ifCond .eq 7, 3) := by decide +kernel
theorem dX4_setStrikePay_11 : decode cX4_setStrikePay 11 = .ok (.iconst 0, 1) := by decide +kernel
theorem dX4_setStrikePay_12 : decode cX4_setStrikePay 12 = .ok (.goto 4, 3) := by decide +kernel
theorem dX4_setStrikePay_15 : decode cX4_setStrikePay 15 = .ok (.iconst 1, 1) := by decide +kernel
theorem dX4_setStrikePay_16 : decode cX4_setStrikePay 16 = .ok (.putfield 69, 3) := by decide +kernel
theorem dX4_setStrikePay_19 : decode cX4_setStrikePay 19 = .ok (.aload_n 0, 1) := by decide +kernel
theorem dX4_setStrikePay_20 : decode cX4_setStrikePay 20 = .ok (.getfield 69, 3) := by decide +kernel
theorem dX4_setStrikePay_23 : decode cX4_setStrikePay 23 = .ok (.ifCond .le 5, 3) := by decide +kernel
theorem dX4_setStrikePay_26 : decode cX4_setStrikePay 26 = .ok (.iconst 0, 1) := by decide +kernel
theorem dX4_setStrikePay_27 : decode cX4_setStrikePay 27 = .ok (.ireturn, 1) := by decide +kernel
theorem dX4_setStrikePay_28 : decode cX4_setStrikePay 28 = .ok (.aload_n 0, 1) := by decide +kernel
theorem dX4_setStrikePay_29 : decode cX4_setStrikePay 29 = .ok (.getfield 62, 3) := by decide +kernel
theorem dX4_setStrikePay_32 : decode cX4_setStrikePay 32 = .ok (.istore_n 2, 1) := by decide +kernel
theorem dX4_setStrikePay_33 : decode cX4_setStrikePay 33 = .ok (.aload_n 0, 1) := by decide +kernel
theorem dX4_setStrikePay_34 : decode cX4_setStrikePay 34 = .ok (.iload_n 1, 1) := by decide +kernel
theorem dX4_setStrikePay_35 : decode cX4_setStrikePay 35 = .ok (.putfield 62, 3) := by decide +kernel
theorem dX4_setStrikePay_38 : decode cX4_setStrikePay 38 = .ok (.iload_n 2, 1) := by decide +kernel
theorem dX4_setStrikePay_39 : decode cX4_setStrikePay 39 = .ok (.ireturn, 1) := by decide +kernel
set_option maxRecDepth 20000 in
theorem ggX4_join_X4_isBranch : GoodIn wsX4_join wsX4_isBranch := goodIn_r _ [8, 9, 10, 7, 11] (by decide +kernel) (by decide +kernel)
set_option maxRecDepth 20000 in
theorem gX4_join_X4_isBranch : GoodIn wsX4_join (va_wsS RX4 90 yX4_isBranch wsX4_isBranch) := goodIn_app (goodIn_of _ (by decide +kernel)) ggX4_join_X4_isBranch
set_option maxRecDepth 20000 in
theorem ggX4_join_X4_isBand : GoodIn wsX4_join wsX4_isBand := goodIn_r _ [14, 9, 10, 7, 11] (by decide +kernel) (by decide +kernel)
set_option maxRecDepth 20000 in
theorem gX4_join_X4_isBand : GoodIn wsX4_join (va_wsS RX4 86 yX4_isBand wsX4_isBand) := goodIn_app (goodIn_of _ (by decide +kernel)) ggX4_join_X4_isBand
theorem dX4_join_0 : decode cX4_join 0 = .ok (.aload_n 0, 1) := by decide +kernel
theorem dX4_join_1 : decode cX4_join 1 = .ok (.iload_n 1, 1) := by decide +kernel
theorem dX4_join_2 : decode cX4_join 2 = .ok (.invokestatic 90, 3) := by decide +kernel
theorem dX4_join_5 : decode cX4_join 5 = .ok (.ifCond .eq 10, 3) := by decide +kernel
theorem dX4_join_8 : decode cX4_join 8 = .ok (.iload_n 2, 1) := by decide +kernel
theorem dX4_join_9 : decode cX4_join 9 = .ok (.invokestatic 86, 3) := by decide +kernel
theorem dX4_join_12 : decode cX4_join 12 = .ok (.ifCond .ne 7, 3) := by decide +kernel
theorem dX4_join_15 : decode cX4_join 15 = .ok (.iconst 1, 1) := by decide +kernel
theorem dX4_join_16 : decode cX4_join 16 = .ok (.goto 17, 3) := by decide +kernel
theorem dX4_join_19 : decode cX4_join 19 = .ok (.aload_n 0, 1) := by decide +kernel
theorem dX4_join_20 : decode cX4_join 20 = .ok (.getfield 72, 3) := by decide +kernel
theorem dX4_join_23 : decode cX4_join 23 = .ok (.bipush 16, 2) := by decide +kernel
theorem dX4_join_25 : decode cX4_join 25 = .ok (.if_icmp .ne 7, 3) := by decide +kernel
theorem dX4_join_28 : decode cX4_join 28 = .ok (.iconst 2, 1) := by decide +kernel
theorem dX4_join_29 : decode cX4_join 29 = .ok (.goto 4, 3) := by decide +kernel
theorem dX4_join_32 : decode cX4_join 32 = .ok (.iconst 0, 1) := by decide +kernel
theorem dX4_join_33 : decode cX4_join 33 = .ok (.putfield 69, 3) := by decide +kernel
theorem dX4_join_36 : decode cX4_join 36 = .ok (.aload_n 0, 1) := by decide +kernel
theorem dX4_join_37 : decode cX4_join 37 = .ok (.getfield 69, 3) := by decide +kernel
theorem dX4_join_40 : decode cX4_join 40 = .ok (.ifCond .le 5, 3) := by decide +kernel
theorem dX4_join_43 : decode cX4_join 43 = .ok (.iconst 0, 1) := by decide +kernel
theorem dX4_join_44 : decode cX4_join 44 = .ok (.ireturn, 1) := by decide +kernel
theorem dX4_join_45 : decode cX4_join 45 = .ok (.aload_n 0, 1) := by decide +kernel
theorem dX4_join_46 : decode cX4_join 46 = .ok (.getfield 13, 3) := by decide +kernel
theorem dX4_join_49 : decode cX4_join 49 = .ok (.aload_n 0, 1) := by decide +kernel
theorem dX4_join_50 : decode cX4_join 50 = .ok (.getfield 72, 3) := by decide +kernel
theorem dX4_join_53 : decode cX4_join 53 = .ok (.iload_n 1, 1) := by decide +kernel
theorem dX4_join_54 : decode cX4_join 54 = .ok (.iastore, 1) := by decide +kernel
theorem dX4_join_55 : decode cX4_join 55 = .ok (.aload_n 0, 1) := by decide +kernel
theorem dX4_join_56 : decode cX4_join 56 = .ok (.getfield 16, 3) := by decide +kernel
theorem dX4_join_59 : decode cX4_join 59 = .ok (.aload_n 0, 1) := by decide +kernel
theorem dX4_join_60 : decode cX4_join 60 = .ok (.getfield 72, 3) := by decide +kernel
theorem dX4_join_63 : decode cX4_join 63 = .ok (.iload_n 2, 1) := by decide +kernel
theorem dX4_join_64 : decode cX4_join 64 = .ok (.iastore, 1) := by decide +kernel
theorem dX4_join_65 : decode cX4_join 65 = .ok (.aload_n 0, 1) := by decide +kernel
theorem dX4_join_66 : decode cX4_join 66 = .ok (.dup, 1) := by decide +kernel
theorem dX4_join_67 : decode cX4_join 67 = .ok (.getfield 72, 3) := by decide +kernel
theorem dX4_join_70 : decode cX4_join 70 = .ok (.iconst 1, 1) := by decide +kernel
theorem dX4_join_71 : decode cX4_join 71 = .ok (.iadd, 1) := by decide +kernel
theorem dX4_join_72 : decode cX4_join 72 = .ok (.putfield 72, 3) := by decide +kernel
theorem dX4_join_75 : decode cX4_join 75 = .ok (.aload_n 0, 1) := by decide +kernel
theorem dX4_join_76 : decode cX4_join 76 = .ok (.getfield 72, 3) := by decide +kernel
theorem dX4_join_79 : decode cX4_join 79 = .ok (.iconst 1, 1) := by decide +kernel
theorem dX4_join_80 : decode cX4_join 80 = .ok (.isub, 1) := by decide +kernel
theorem dX4_join_81 : decode cX4_join 81 = .ok (.ireturn, 1) := by decide +kernel
set_option maxRecDepth 20000 in
theorem ggX4_move_X4_isMember : GoodIn wsX4_move wsX4_isMember := goodIn_r _ [9, 10, 11, 12, 8, 13, 20, 21, 22, 23, 24, 25, 26, 27, 28, 29, 30, 31, 32, 33, 34, 35, 36, 37, 38, 39, 40, 41, 42] (by decide +kernel) (by decide +kernel)
set_option maxRecDepth 20000 in
theorem gX4_move_X4_isMember : GoodIn wsX4_move (wsV RX4 93 RX4 yX4_isMember wsX4_isMember) := goodIn_app (goodIn_of _ (by decide +kernel)) ggX4_move_X4_isMember
set_option maxRecDepth 20000 in
theorem ggX4_move_X4_isBranch : GoodIn wsX4_move wsX4_isBranch := goodIn_r _ [16, 11, 12, 8, 13] (by decide +kernel) (by decide +kernel)
set_option maxRecDepth 20000 in
theorem gX4_move_X4_isBranch : GoodIn wsX4_move (va_wsS RX4 90 yX4_isBranch wsX4_isBranch) := goodIn_app (goodIn_of _ (by decide +kernel)) ggX4_move_X4_isBranch
set_option maxRecDepth 20000 in
theorem ggX4_move_X4_isBand : GoodIn wsX4_move wsX4_isBand := goodIn_r _ [19, 11, 12, 8, 13] (by decide +kernel) (by decide +kernel)
set_option maxRecDepth 20000 in
theorem gX4_move_X4_isBand : GoodIn wsX4_move (va_wsS RX4 86 yX4_isBand wsX4_isBand) := goodIn_app (goodIn_of _ (by decide +kernel)) ggX4_move_X4_isBand
theorem dX4_move_0 : decode cX4_move 0 = .ok (.aload_n 0, 1) := by decide +kernel
theorem dX4_move_1 : decode cX4_move 1 = .ok (.aload_n 0, 1) := by decide +kernel
theorem dX4_move_2 : decode cX4_move 2 = .ok (.iload_n 1, 1) := by decide +kernel
theorem dX4_move_3 : decode cX4_move 3 = .ok (.invokevirtual 93, 3) := by decide +kernel
theorem dX4_move_6 : decode cX4_move 6 = .ok (.ifCond .eq 17, 3) := by decide +kernel
theorem dX4_move_9 : decode cX4_move 9 = .ok (.iload_n 2, 1) := by decide +kernel
theorem dX4_move_10 : decode cX4_move 10 = .ok (.invokestatic 90, 3) := by decide +kernel
theorem dX4_move_13 : decode cX4_move 13 = .ok (.ifCond .eq 10, 3) := by decide +kernel
theorem dX4_move_16 : decode cX4_move 16 = .ok (.iload_n 3, 1) := by decide +kernel
theorem dX4_move_17 : decode cX4_move 17 = .ok (.invokestatic 86, 3) := by decide +kernel
theorem dX4_move_20 : decode cX4_move 20 = .ok (.ifCond .ne 7, 3) := by decide +kernel
theorem dX4_move_23 : decode cX4_move 23 = .ok (.iconst 1, 1) := by decide +kernel
theorem dX4_move_24 : decode cX4_move 24 = .ok (.goto 17, 3) := by decide +kernel
theorem dX4_move_27 : decode cX4_move 27 = .ok (.aload_n 0, 1) := by decide +kernel
theorem dX4_move_28 : decode cX4_move 28 = .ok (.getfield 19, 3) := by decide +kernel
theorem dX4_move_31 : decode cX4_move 31 = .ok (.iload_n 1, 1) := by decide +kernel
theorem dX4_move_32 : decode cX4_move 32 = .ok (.baload, 1) := by decide +kernel
theorem dX4_move_33 : decode cX4_move 33 = .ok (.ifCond .eq 7, 3) := by decide +kernel
theorem dX4_move_36 : decode cX4_move 36 = .ok (.iconst 2, 1) := by decide +kernel
theorem dX4_move_37 : decode cX4_move 37 = .ok (.goto 4, 3) := by decide +kernel
theorem dX4_move_40 : decode cX4_move 40 = .ok (.iconst 0, 1) := by decide +kernel
theorem dX4_move_41 : decode cX4_move 41 = .ok (.putfield 69, 3) := by decide +kernel
theorem dX4_move_44 : decode cX4_move 44 = .ok (.aload_n 0, 1) := by decide +kernel
theorem dX4_move_45 : decode cX4_move 45 = .ok (.getfield 69, 3) := by decide +kernel
theorem dX4_move_48 : decode cX4_move 48 = .ok (.ifCond .ne 17, 3) := by decide +kernel
theorem dX4_move_51 : decode cX4_move 51 = .ok (.aload_n 0, 1) := by decide +kernel
theorem dX4_move_52 : decode cX4_move 52 = .ok (.getfield 13, 3) := by decide +kernel
theorem dX4_move_55 : decode cX4_move 55 = .ok (.iload_n 1, 1) := by decide +kernel
theorem dX4_move_56 : decode cX4_move 56 = .ok (.iload_n 2, 1) := by decide +kernel
theorem dX4_move_57 : decode cX4_move 57 = .ok (.iastore, 1) := by decide +kernel
theorem dX4_move_58 : decode cX4_move 58 = .ok (.aload_n 0, 1) := by decide +kernel
theorem dX4_move_59 : decode cX4_move 59 = .ok (.getfield 16, 3) := by decide +kernel
theorem dX4_move_62 : decode cX4_move 62 = .ok (.iload_n 1, 1) := by decide +kernel
theorem dX4_move_63 : decode cX4_move 63 = .ok (.iload_n 3, 1) := by decide +kernel
theorem dX4_move_64 : decode cX4_move 64 = .ok (.iastore, 1) := by decide +kernel
theorem dX4_move_65 : decode cX4_move 65 = .ok (.return_, 1) := by decide +kernel
set_option maxRecDepth 20000 in
theorem ggX4_leave_X4_isMember : GoodIn wsX4_leave wsX4_isMember := goodIn_r _ [8, 9, 10, 11, 7, 12, 13, 14, 15, 16, 17, 18, 19, 20, 21, 22, 23, 24, 25, 26, 27, 28, 29, 30, 31, 32, 33, 34, 35] (by decide +kernel) (by decide +kernel)
set_option maxRecDepth 20000 in
theorem gX4_leave_X4_isMember : GoodIn wsX4_leave (wsV RX4 93 RX4 yX4_isMember wsX4_isMember) := goodIn_app (goodIn_of _ (by decide +kernel)) ggX4_leave_X4_isMember
theorem dX4_leave_0 : decode cX4_leave 0 = .ok (.aload_n 0, 1) := by decide +kernel
theorem dX4_leave_1 : decode cX4_leave 1 = .ok (.aload_n 0, 1) := by decide +kernel
theorem dX4_leave_2 : decode cX4_leave 2 = .ok (.iload_n 1, 1) := by decide +kernel
theorem dX4_leave_3 : decode cX4_leave 3 = .ok (.invokevirtual 93, 3) := by decide +kernel
theorem dX4_leave_6 : decode cX4_leave 6 = .ok (.ifCond .ne 7, 3) := by decide +kernel
theorem dX4_leave_9 : decode cX4_leave 9 = .ok (.iconst 1, 1) := by decide +kernel
theorem dX4_leave_10 : decode cX4_leave 10 = .ok (.goto 17, 3) := by decide +kernel
theorem dX4_leave_13 : decode cX4_leave 13 = .ok (.aload_n 0, 1) := by decide +kernel
theorem dX4_leave_14 : decode cX4_leave 14 = .ok (.getfield 19, 3) := by decide +kernel
theorem dX4_leave_17 : decode cX4_leave 17 = .ok (.iload_n 1, 1) := by decide +kernel
theorem dX4_leave_18 : decode cX4_leave 18 = .ok (.baload, 1) := by decide +kernel
theorem dX4_leave_19 : decode cX4_leave 19 = .ok (.ifCond .eq 7, 3) := by decide +kernel
theorem dX4_leave_22 : decode cX4_leave 22 = .ok (.iconst 2, 1) := by decide +kernel
theorem dX4_leave_23 : decode cX4_leave 23 = .ok (.goto 4, 3) := by decide +kernel
theorem dX4_leave_26 : decode cX4_leave 26 = .ok (.iconst 0, 1) := by decide +kernel
theorem dX4_leave_27 : decode cX4_leave 27 = .ok (.putfield 69, 3) := by decide +kernel
theorem dX4_leave_30 : decode cX4_leave 30 = .ok (.aload_n 0, 1) := by decide +kernel
theorem dX4_leave_31 : decode cX4_leave 31 = .ok (.getfield 69, 3) := by decide +kernel
theorem dX4_leave_34 : decode cX4_leave 34 = .ok (.ifCond .le 5, 3) := by decide +kernel
theorem dX4_leave_37 : decode cX4_leave 37 = .ok (.iconst 0, 1) := by decide +kernel
theorem dX4_leave_38 : decode cX4_leave 38 = .ok (.ireturn, 1) := by decide +kernel
theorem dX4_leave_39 : decode cX4_leave 39 = .ok (.aload_n 0, 1) := by decide +kernel
theorem dX4_leave_40 : decode cX4_leave 40 = .ok (.getfield 23, 3) := by decide +kernel
theorem dX4_leave_43 : decode cX4_leave 43 = .ok (.iload_n 1, 1) := by decide +kernel
theorem dX4_leave_44 : decode cX4_leave 44 = .ok (.baload, 1) := by decide +kernel
theorem dX4_leave_45 : decode cX4_leave 45 = .ok (.istore_n 3, 1) := by decide +kernel
theorem dX4_leave_46 : decode cX4_leave 46 = .ok (.aload_n 0, 1) := by decide +kernel
theorem dX4_leave_47 : decode cX4_leave 47 = .ok (.getfield 23, 3) := by decide +kernel
theorem dX4_leave_50 : decode cX4_leave 50 = .ok (.iload_n 1, 1) := by decide +kernel
theorem dX4_leave_51 : decode cX4_leave 51 = .ok (.iload_n 2, 1) := by decide +kernel
theorem dX4_leave_52 : decode cX4_leave 52 = .ok (.bastore, 1) := by decide +kernel
theorem dX4_leave_53 : decode cX4_leave 53 = .ok (.iload_n 3, 1) := by decide +kernel
theorem dX4_leave_54 : decode cX4_leave 54 = .ok (.ireturn, 1) := by decide +kernel
set_option maxRecDepth 20000 in
theorem ggX4_quit_X4_isMember : GoodIn wsX4_quit wsX4_isMember := goodIn_r _ [7, 8, 9, 10, 6, 11, 17, 18, 19, 20, 21, 22, 23, 24, 25, 26, 27, 28, 29, 30, 31, 32, 33, 34, 35, 36, 37, 38, 39] (by decide +kernel) (by decide +kernel)
set_option maxRecDepth 20000 in
theorem gX4_quit_X4_isMember : GoodIn wsX4_quit (wsV RX4 93 RX4 yX4_isMember wsX4_isMember) := goodIn_app (goodIn_of _ (by decide +kernel)) ggX4_quit_X4_isMember
set_option maxRecDepth 20000 in
theorem ggX4_quit_X4_owedBy : GoodIn wsX4_quit wsX4_owedBy := goodIn_r _ [15, 16, 17, 18, 19, 20, 21, 22, 23, 24, 25, 26, 27, 28, 29, 30, 31, 32, 33, 34, 35, 36, 37, 38, 39] (by decide +kernel) (by decide +kernel)
set_option maxRecDepth 20000 in
theorem gX4_quit_X4_owedBy : GoodIn wsX4_quit (wsV RX4 96 RX4 yX4_owedBy wsX4_owedBy) := goodIn_app (goodIn_of _ (by decide +kernel)) ggX4_quit_X4_owedBy
theorem dX4_quit_0 : decode cX4_quit 0 = .ok (.aload_n 0, 1) := by decide +kernel
theorem dX4_quit_1 : decode cX4_quit 1 = .ok (.aload_n 0, 1) := by decide +kernel
theorem dX4_quit_2 : decode cX4_quit 2 = .ok (.iload_n 1, 1) := by decide +kernel
theorem dX4_quit_3 : decode cX4_quit 3 = .ok (.invokevirtual 93, 3) := by decide +kernel
theorem dX4_quit_6 : decode cX4_quit 6 = .ok (.ifCond .ne 7, 3) := by decide +kernel
theorem dX4_quit_9 : decode cX4_quit 9 = .ok (.iconst 1, 1) := by decide +kernel
theorem dX4_quit_10 : decode cX4_quit 10 = .ok (.goto 17, 3) := by decide +kernel
theorem dX4_quit_13 : decode cX4_quit 13 = .ok (.aload_n 0, 1) := by decide +kernel
theorem dX4_quit_14 : decode cX4_quit 14 = .ok (.getfield 19, 3) := by decide +kernel
theorem dX4_quit_17 : decode cX4_quit 17 = .ok (.iload_n 1, 1) := by decide +kernel
theorem dX4_quit_18 : decode cX4_quit 18 = .ok (.baload, 1) := by decide +kernel
theorem dX4_quit_19 : decode cX4_quit 19 = .ok (.ifCond .eq 7, 3) := by decide +kernel
theorem dX4_quit_22 : decode cX4_quit 22 = .ok (.iconst 2, 1) := by decide +kernel
theorem dX4_quit_23 : decode cX4_quit 23 = .ok (.goto 4, 3) := by decide +kernel
theorem dX4_quit_26 : decode cX4_quit 26 = .ok (.iconst 0, 1) := by decide +kernel
theorem dX4_quit_27 : decode cX4_quit 27 = .ok (.putfield 69, 3) := by decide +kernel
theorem dX4_quit_30 : decode cX4_quit 30 = .ok (.aload_n 0, 1) := by decide +kernel
theorem dX4_quit_31 : decode cX4_quit 31 = .ok (.getfield 69, 3) := by decide +kernel
theorem dX4_quit_34 : decode cX4_quit 34 = .ok (.ifCond .le 5, 3) := by decide +kernel
theorem dX4_quit_37 : decode cX4_quit 37 = .ok (.iconst 0, 1) := by decide +kernel
theorem dX4_quit_38 : decode cX4_quit 38 = .ok (.ireturn, 1) := by decide +kernel
theorem dX4_quit_39 : decode cX4_quit 39 = .ok (.aload_n 0, 1) := by decide +kernel
theorem dX4_quit_40 : decode cX4_quit 40 = .ok (.getfield 19, 3) := by decide +kernel
theorem dX4_quit_43 : decode cX4_quit 43 = .ok (.iload_n 1, 1) := by decide +kernel
theorem dX4_quit_44 : decode cX4_quit 44 = .ok (.iconst 1, 1) := by decide +kernel
theorem dX4_quit_45 : decode cX4_quit 45 = .ok (.bastore, 1) := by decide +kernel
theorem dX4_quit_46 : decode cX4_quit 46 = .ok (.aload_n 0, 1) := by decide +kernel
theorem dX4_quit_47 : decode cX4_quit 47 = .ok (.iload_n 1, 1) := by decide +kernel
theorem dX4_quit_48 : decode cX4_quit 48 = .ok (.invokevirtual 96, 3) := by decide +kernel
theorem dX4_quit_51 : decode cX4_quit 51 = .ok (.ireturn, 1) := by decide +kernel
theorem dX4_lay_0 : decode cX4_lay 0 = .ok (.iconst 0, 1) := by decide +kernel
theorem dX4_lay_1 : decode cX4_lay 1 = .ok (.istore_n 2, 1) := by decide +kernel
theorem dX4_lay_2 : decode cX4_lay 2 = .ok (.iload_n 2, 1) := by decide +kernel
theorem dX4_lay_3 : decode cX4_lay 3 = .ok (.bipush 60, 2) := by decide +kernel
theorem dX4_lay_5 : decode cX4_lay 5 = .ok (.if_icmp .ge 115, 3) := by decide +kernel
theorem dX4_lay_8 : decode cX4_lay 8 = .ok (.bipush 60, 2) := by decide +kernel
theorem dX4_lay_10 : decode cX4_lay 10 = .ok (.iload_n 1, 1) := by decide +kernel
theorem dX4_lay_11 : decode cX4_lay 11 = .ok (.imul, 1) := by decide +kernel
theorem dX4_lay_12 : decode cX4_lay 12 = .ok (.iload_n 2, 1) := by decide +kernel
theorem dX4_lay_13 : decode cX4_lay 13 = .ok (.iadd, 1) := by decide +kernel
theorem dX4_lay_14 : decode cX4_lay 14 = .ok (.istore_n 3, 1) := by decide +kernel
theorem dX4_lay_15 : decode cX4_lay 15 = .ok (.aload_n 0, 1) := by decide +kernel
theorem dX4_lay_16 : decode cX4_lay 16 = .ok (.getfield 26, 3) := by decide +kernel
theorem dX4_lay_19 : decode cX4_lay 19 = .ok (.iload_n 1, 1) := by decide +kernel
theorem dX4_lay_20 : decode cX4_lay 20 = .ok (.iaload, 1) := by decide +kernel
theorem dX4_lay_21 : decode cX4_lay 21 = .ok (.aload_n 0, 1) := by decide +kernel
theorem dX4_lay_22 : decode cX4_lay 22 = .ok (.getfield 32, 3) := by decide +kernel
theorem dX4_lay_25 : decode cX4_lay 25 = .ok (.iload_n 3, 1) := by decide +kernel
theorem dX4_lay_26 : decode cX4_lay 26 = .ok (.iaload, 1) := by decide +kernel
theorem dX4_lay_27 : decode cX4_lay 27 = .ok (.if_icmp .ge 12, 3) := by decide +kernel
theorem dX4_lay_30 : decode cX4_lay 30 = .ok (.aload_n 0, 1) := by decide +kernel
theorem dX4_lay_31 : decode cX4_lay 31 = .ok (.getfield 26, 3) := by decide +kernel
theorem dX4_lay_34 : decode cX4_lay 34 = .ok (.iload_n 1, 1) := by decide +kernel
theorem dX4_lay_35 : decode cX4_lay 35 = .ok (.iaload, 1) := by decide +kernel
theorem dX4_lay_36 : decode cX4_lay 36 = .ok (.goto 9, 3) := by decide +kernel
theorem dX4_lay_39 : decode cX4_lay 39 = .ok (.aload_n 0, 1) := by decide +kernel
theorem dX4_lay_40 : decode cX4_lay 40 = .ok (.getfield 32, 3) := by decide +kernel
theorem dX4_lay_43 : decode cX4_lay 43 = .ok (.iload_n 3, 1) := by decide +kernel
theorem dX4_lay_44 : decode cX4_lay 44 = .ok (.iaload, 1) := by decide +kernel
theorem dX4_lay_45 : decode cX4_lay 45 = .ok (.istore 4, 2) := by decide +kernel
theorem dX4_lay_47 : decode cX4_lay 47 = .ok (.aload_n 0, 1) := by decide +kernel
theorem dX4_lay_48 : decode cX4_lay 48 = .ok (.getfield 26, 3) := by decide +kernel
theorem dX4_lay_51 : decode cX4_lay 51 = .ok (.iload_n 1, 1) := by decide +kernel
theorem dX4_lay_52 : decode cX4_lay 52 = .ok (.dup2, 1) := by decide +kernel
theorem dX4_lay_53 : decode cX4_lay 53 = .ok (.iaload, 1) := by decide +kernel
theorem dX4_lay_54 : decode cX4_lay 54 = .ok (.iload 4, 2) := by decide +kernel
theorem dX4_lay_56 : decode cX4_lay 56 = .ok (.isub, 1) := by decide +kernel
theorem dX4_lay_57 : decode cX4_lay 57 = .ok (.iastore, 1) := by decide +kernel
theorem dX4_lay_58 : decode cX4_lay 58 = .ok (.aload_n 0, 1) := by decide +kernel
theorem dX4_lay_59 : decode cX4_lay 59 = .ok (.getfield 32, 3) := by decide +kernel
theorem dX4_lay_62 : decode cX4_lay 62 = .ok (.iload_n 3, 1) := by decide +kernel
theorem dX4_lay_63 : decode cX4_lay 63 = .ok (.dup2, 1) := by decide +kernel
theorem dX4_lay_64 : decode cX4_lay 64 = .ok (.iaload, 1) := by decide +kernel
theorem dX4_lay_65 : decode cX4_lay 65 = .ok (.iload 4, 2) := by decide +kernel
theorem dX4_lay_67 : decode cX4_lay 67 = .ok (.isub, 1) := by decide +kernel
theorem dX4_lay_68 : decode cX4_lay 68 = .ok (.iastore, 1) := by decide +kernel
theorem dX4_lay_69 : decode cX4_lay 69 = .ok (.aload_n 0, 1) := by decide +kernel
theorem dX4_lay_70 : decode cX4_lay 70 = .ok (.getfield 35, 3) := by decide +kernel
theorem dX4_lay_73 : decode cX4_lay 73 = .ok (.iload_n 3, 1) := by decide +kernel
theorem dX4_lay_74 : decode cX4_lay 74 = .ok (.dup2, 1) := by decide +kernel
theorem dX4_lay_75 : decode cX4_lay 75 = .ok (.iaload, 1) := by decide +kernel
theorem dX4_lay_76 : decode cX4_lay 76 = .ok (.iload 4, 2) := by decide +kernel
theorem dX4_lay_78 : decode cX4_lay 78 = .ok (.iadd, 1) := by decide +kernel
theorem dX4_lay_79 : decode cX4_lay 79 = .ok (.iastore, 1) := by decide +kernel
theorem dX4_lay_80 : decode cX4_lay 80 = .ok (.aload_n 0, 1) := by decide +kernel
theorem dX4_lay_81 : decode cX4_lay 81 = .ok (.getfield 38, 3) := by decide +kernel
theorem dX4_lay_84 : decode cX4_lay 84 = .ok (.bipush 60, 2) := by decide +kernel
theorem dX4_lay_86 : decode cX4_lay 86 = .ok (.aload_n 0, 1) := by decide +kernel
theorem dX4_lay_87 : decode cX4_lay 87 = .ok (.getfield 13, 3) := by decide +kernel
theorem dX4_lay_90 : decode cX4_lay 90 = .ok (.iload_n 1, 1) := by decide +kernel
theorem dX4_lay_91 : decode cX4_lay 91 = .ok (.iaload, 1) := by decide +kernel
theorem dX4_lay_92 : decode cX4_lay 92 = .ok (.imul, 1) := by decide +kernel
theorem dX4_lay_93 : decode cX4_lay 93 = .ok (.iload_n 2, 1) := by decide +kernel
theorem dX4_lay_94 : decode cX4_lay 94 = .ok (.iadd, 1) := by decide +kernel
theorem dX4_lay_95 : decode cX4_lay 95 = .ok (.dup2, 1) := by decide +kernel
theorem dX4_lay_96 : decode cX4_lay 96 = .ok (.iaload, 1) := by decide +kernel
theorem dX4_lay_97 : decode cX4_lay 97 = .ok (.iload 4, 2) := by decide +kernel
theorem dX4_lay_99 : decode cX4_lay 99 = .ok (.iadd, 1) := by decide +kernel
theorem dX4_lay_100 : decode cX4_lay 100 = .ok (.iastore, 1) := by decide +kernel
theorem dX4_lay_101 : decode cX4_lay 101 = .ok (.aload_n 0, 1) := by decide +kernel
theorem dX4_lay_102 : decode cX4_lay 102 = .ok (.dup, 1) := by decide +kernel
theorem dX4_lay_103 : decode cX4_lay 103 = .ok (.getfield 100, 3) := by decide +kernel
theorem dX4_lay_106 : decode cX4_lay 106 = .ok (.iload 4, 2) := by decide +kernel
theorem dX4_lay_108 : decode cX4_lay 108 = .ok (.iconst 5, 1) := by decide +kernel
theorem dX4_lay_109 : decode cX4_lay 109 = .ok (.idiv, 1) := by decide +kernel
theorem dX4_lay_110 : decode cX4_lay 110 = .ok (.iadd, 1) := by decide +kernel
theorem dX4_lay_111 : decode cX4_lay 111 = .ok (.putfield 100, 3) := by decide +kernel
theorem dX4_lay_114 : decode cX4_lay 114 = .ok (.iinc 2 1, 3) := by decide +kernel
theorem dX4_lay_117 : decode cX4_lay 117 = .ok (.goto (-115), 3) := by decide +kernel
theorem dX4_lay_120 : decode cX4_lay 120 = .ok (.return_, 1) := by decide +kernel
set_option maxRecDepth 20000 in
theorem ggX4_pay_X4_isMember : GoodIn wsX4_pay wsX4_isMember := goodIn_r _ [8, 9, 10, 11, 7, 12, 26, 27, 28, 29, 30, 31, 32, 33, 34, 35, 36, 37, 38, 39, 40, 41, 42, 43, 44, 45, 46, 47, 48] (by decide +kernel) (by decide +kernel)
set_option maxRecDepth 20000 in
theorem gX4_pay_X4_isMember : GoodIn wsX4_pay (wsV RX4 93 RX4 yX4_isMember wsX4_isMember) := goodIn_app (goodIn_of _ (by decide +kernel)) ggX4_pay_X4_isMember
set_option maxRecDepth 20000 in
theorem ggX4_pay_X4_in : GoodIn wsX4_pay wsX4_in := goodIn_r _ [12] (by decide +kernel) (by decide +kernel)
set_option maxRecDepth 20000 in
theorem gX4_pay_X4_in : GoodIn wsX4_pay (va_wsS RX4 75 yX4_in wsX4_in) := goodIn_app (goodIn_of _ (by decide +kernel)) ggX4_pay_X4_in
set_option maxRecDepth 20000 in
theorem ggX4_pay_X4_lay : GoodIn wsX4_pay wsX4_lay := goodIn_r _ [16, 3, 17, 18, 19, 20, 21, 26, 27, 28, 29, 30, 31, 32, 33, 34, 35, 36, 37, 38, 39, 40, 41, 42, 43, 44, 45, 46, 47, 48] (by decide +kernel) (by decide +kernel)
set_option maxRecDepth 20000 in
theorem gX4_pay_X4_lay : GoodIn wsX4_pay (wsV RX4 104 RX4 yX4_lay wsX4_lay) := goodIn_app (goodIn_of _ (by decide +kernel)) ggX4_pay_X4_lay
set_option maxRecDepth 20000 in
theorem ggX4_pay_X4_owedBy : GoodIn wsX4_pay wsX4_owedBy := goodIn_r _ [25, 17, 26, 27, 28, 29, 30, 31, 32, 33, 34, 35, 36, 37, 38, 39, 40, 41, 42, 43, 44, 45, 46, 47, 48] (by decide +kernel) (by decide +kernel)
set_option maxRecDepth 20000 in
theorem gX4_pay_X4_owedBy : GoodIn wsX4_pay (wsV RX4 96 RX4 yX4_owedBy wsX4_owedBy) := goodIn_app (goodIn_of _ (by decide +kernel)) ggX4_pay_X4_owedBy
theorem dX4_pay_0 : decode cX4_pay 0 = .ok (.aload_n 0, 1) := by decide +kernel
theorem dX4_pay_1 : decode cX4_pay 1 = .ok (.aload_n 0, 1) := by decide +kernel
theorem dX4_pay_2 : decode cX4_pay 2 = .ok (.iload_n 1, 1) := by decide +kernel
theorem dX4_pay_3 : decode cX4_pay 3 = .ok (.invokevirtual 93, 3) := by decide +kernel
theorem dX4_pay_6 : decode cX4_pay 6 = .ok (.ifCond .ne 7, 3) := by decide +kernel
theorem dX4_pay_9 : decode cX4_pay 9 = .ok (.iconst 1, 1) := by decide +kernel
theorem dX4_pay_10 : decode cX4_pay 10 = .ok (.goto 18, 3) := by decide +kernel
theorem dX4_pay_13 : decode cX4_pay 13 = .ok (.iload_n 2, 1) := by decide +kernel
theorem dX4_pay_14 : decode cX4_pay 14 = .ok (.iconst 1, 1) := by decide +kernel
theorem dX4_pay_15 : decode cX4_pay 15 = .ok (.ldc 103, 2) := by decide +kernel
theorem dX4_pay_17 : decode cX4_pay 17 = .ok (.invokestatic 75, 3) := by decide +kernel
theorem dX4_pay_20 : decode cX4_pay 20 = .ok (.ifCond .ne 7, 3) := by decide +kernel
theorem dX4_pay_23 : decode cX4_pay 23 = .ok (.iconst 2, 1) := by decide +kernel
theorem dX4_pay_24 : decode cX4_pay 24 = .ok (.goto 4, 3) := by decide +kernel
theorem dX4_pay_27 : decode cX4_pay 27 = .ok (.iconst 0, 1) := by decide +kernel
theorem dX4_pay_28 : decode cX4_pay 28 = .ok (.putfield 69, 3) := by decide +kernel
theorem dX4_pay_31 : decode cX4_pay 31 = .ok (.aload_n 0, 1) := by decide +kernel
theorem dX4_pay_32 : decode cX4_pay 32 = .ok (.getfield 69, 3) := by decide +kernel
theorem dX4_pay_35 : decode cX4_pay 35 = .ok (.ifCond .le 5, 3) := by decide +kernel
theorem dX4_pay_38 : decode cX4_pay 38 = .ok (.iconst 0, 1) := by decide +kernel
theorem dX4_pay_39 : decode cX4_pay 39 = .ok (.ireturn, 1) := by decide +kernel
theorem dX4_pay_40 : decode cX4_pay 40 = .ok (.aload_n 0, 1) := by decide +kernel
theorem dX4_pay_41 : decode cX4_pay 41 = .ok (.getfield 26, 3) := by decide +kernel
theorem dX4_pay_44 : decode cX4_pay 44 = .ok (.iload_n 1, 1) := by decide +kernel
theorem dX4_pay_45 : decode cX4_pay 45 = .ok (.dup2, 1) := by decide +kernel
theorem dX4_pay_46 : decode cX4_pay 46 = .ok (.iaload, 1) := by decide +kernel
theorem dX4_pay_47 : decode cX4_pay 47 = .ok (.iload_n 2, 1) := by decide +kernel
theorem dX4_pay_48 : decode cX4_pay 48 = .ok (.iadd, 1) := by decide +kernel
theorem dX4_pay_49 : decode cX4_pay 49 = .ok (.iastore, 1) := by decide +kernel
theorem dX4_pay_50 : decode cX4_pay 50 = .ok (.aload_n 0, 1) := by decide +kernel
theorem dX4_pay_51 : decode cX4_pay 51 = .ok (.iload_n 1, 1) := by decide +kernel
theorem dX4_pay_52 : decode cX4_pay 52 = .ok (.invokevirtual 104, 3) := by decide +kernel
theorem dX4_pay_55 : decode cX4_pay 55 = .ok (.aload_n 0, 1) := by decide +kernel
theorem dX4_pay_56 : decode cX4_pay 56 = .ok (.iload_n 1, 1) := by decide +kernel
theorem dX4_pay_57 : decode cX4_pay 57 = .ok (.invokevirtual 96, 3) := by decide +kernel
theorem dX4_pay_60 : decode cX4_pay 60 = .ok (.ireturn, 1) := by decide +kernel
set_option maxRecDepth 20000 in
theorem ggX4_open_X4_isBranch : GoodIn wsX4_open wsX4_isBranch := goodIn_r _ [10, 11, 12, 9, 13] (by decide +kernel) (by decide +kernel)
set_option maxRecDepth 20000 in
theorem gX4_open_X4_isBranch : GoodIn wsX4_open (va_wsS RX4 90 yX4_isBranch wsX4_isBranch) := goodIn_app (goodIn_of _ (by decide +kernel)) ggX4_open_X4_isBranch
set_option maxRecDepth 20000 in
theorem ggX4_open_X4_standing : GoodIn wsX4_open wsX4_standing := goodIn_r _ [17, 18, 19, 20, 21, 22, 9, 23, 24, 25, 26, 27, 28, 29, 30, 31, 32, 33, 34, 35, 36, 37, 38, 39, 40, 41, 42, 43, 44, 45, 46, 47, 48, 49] (by decide +kernel) (by decide +kernel)
set_option maxRecDepth 20000 in
theorem gX4_open_X4_standing : GoodIn wsX4_open (wsV RX4 108 RX4 yX4_standing wsX4_standing) := goodIn_app (goodIn_of _ (by decide +kernel)) ggX4_open_X4_standing
theorem dX4_open_0 : decode cX4_open 0 = .ok (.aload_n 0, 1) := by decide +kernel
theorem dX4_open_1 : decode cX4_open 1 = .ok (.iload_n 1, 1) := by decide +kernel
theorem dX4_open_2 : decode cX4_open 2 = .ok (.invokestatic 90, 3) := by decide +kernel
theorem dX4_open_5 : decode cX4_open 5 = .ok (.ifCond .ne 7, 3) := by decide +kernel
theorem dX4_open_8 : decode cX4_open 8 = .ok (.iconst 1, 1) := by decide +kernel
theorem dX4_open_9 : decode cX4_open 9 = .ok (.goto 26, 3) := by decide +kernel
theorem dX4_open_12 : decode cX4_open 12 = .ok (.aload_n 0, 1) := by decide +kernel
theorem dX4_open_13 : decode cX4_open 13 = .ok (.getfield 41, 3) := by decide +kernel
theorem dX4_open_16 : decode cX4_open 16 = .ok (.iload_n 1, 1) := by decide +kernel
theorem dX4_open_17 : decode cX4_open 17 = .ok (.baload, 1) := by decide +kernel
theorem dX4_open_18 : decode cX4_open 18 = .ok (.ifCond .ne 12, 3) := by decide +kernel
theorem dX4_open_21 : decode cX4_open 21 = .ok (.aload_n 0, 1) := by decide +kernel
theorem dX4_open_22 : decode cX4_open 22 = .ok (.getfield 53, 3) := by decide +kernel
theorem dX4_open_25 : decode cX4_open 25 = .ok (.iload_n 1, 1) := by decide +kernel
theorem dX4_open_26 : decode cX4_open 26 = .ok (.baload, 1) := by decide +kernel
theorem dX4_open_27 : decode cX4_open 27 = .ok (.ifCond .eq 7, 3) := by decide +kernel
theorem dX4_open_30 : decode cX4_open 30 = .ok (.iconst 2, 1) := by decide +kernel
theorem dX4_open_31 : decode cX4_open 31 = .ok (.goto 4, 3) := by decide +kernel
theorem dX4_open_34 : decode cX4_open 34 = .ok (.iconst 0, 1) := by decide +kernel
theorem dX4_open_35 : decode cX4_open 35 = .ok (.putfield 69, 3) := by decide +kernel
theorem dX4_open_38 : decode cX4_open 38 = .ok (.aload_n 0, 1) := by decide +kernel
theorem dX4_open_39 : decode cX4_open 39 = .ok (.getfield 69, 3) := by decide +kernel
theorem dX4_open_42 : decode cX4_open 42 = .ok (.ifCond .le 5, 3) := by decide +kernel
theorem dX4_open_45 : decode cX4_open 45 = .ok (.iconst 0, 1) := by decide +kernel
theorem dX4_open_46 : decode cX4_open 46 = .ok (.ireturn, 1) := by decide +kernel
theorem dX4_open_47 : decode cX4_open 47 = .ok (.aload_n 0, 1) := by decide +kernel
theorem dX4_open_48 : decode cX4_open 48 = .ok (.getfield 41, 3) := by decide +kernel
theorem dX4_open_51 : decode cX4_open 51 = .ok (.iload_n 1, 1) := by decide +kernel
theorem dX4_open_52 : decode cX4_open 52 = .ok (.iconst 1, 1) := by decide +kernel
theorem dX4_open_53 : decode cX4_open 53 = .ok (.bastore, 1) := by decide +kernel
theorem dX4_open_54 : decode cX4_open 54 = .ok (.aload_n 0, 1) := by decide +kernel
theorem dX4_open_55 : decode cX4_open 55 = .ok (.getfield 44, 3) := by decide +kernel
theorem dX4_open_58 : decode cX4_open 58 = .ok (.iload_n 1, 1) := by decide +kernel
theorem dX4_open_59 : decode cX4_open 59 = .ok (.iconst 0, 1) := by decide +kernel
theorem dX4_open_60 : decode cX4_open 60 = .ok (.iastore, 1) := by decide +kernel
theorem dX4_open_61 : decode cX4_open 61 = .ok (.aload_n 0, 1) := by decide +kernel
theorem dX4_open_62 : decode cX4_open 62 = .ok (.getfield 47, 3) := by decide +kernel
theorem dX4_open_65 : decode cX4_open 65 = .ok (.iload_n 1, 1) := by decide +kernel
theorem dX4_open_66 : decode cX4_open 66 = .ok (.iconst 0, 1) := by decide +kernel
theorem dX4_open_67 : decode cX4_open 67 = .ok (.iastore, 1) := by decide +kernel
theorem dX4_open_68 : decode cX4_open 68 = .ok (.iconst 0, 1) := by decide +kernel
theorem dX4_open_69 : decode cX4_open 69 = .ok (.istore_n 2, 1) := by decide +kernel
theorem dX4_open_70 : decode cX4_open 70 = .ok (.iload_n 2, 1) := by decide +kernel
theorem dX4_open_71 : decode cX4_open 71 = .ok (.bipush 16, 2) := by decide +kernel
theorem dX4_open_73 : decode cX4_open 73 = .ok (.if_icmp .ge 21, 3) := by decide +kernel
theorem dX4_open_76 : decode cX4_open 76 = .ok (.aload_n 0, 1) := by decide +kernel
theorem dX4_open_77 : decode cX4_open 77 = .ok (.getfield 56, 3) := by decide +kernel
theorem dX4_open_80 : decode cX4_open 80 = .ok (.bipush 16, 2) := by decide +kernel
theorem dX4_open_82 : decode cX4_open 82 = .ok (.iload_n 1, 1) := by decide +kernel
theorem dX4_open_83 : decode cX4_open 83 = .ok (.imul, 1) := by decide +kernel
theorem dX4_open_84 : decode cX4_open 84 = .ok (.iload_n 2, 1) := by decide +kernel
theorem dX4_open_85 : decode cX4_open 85 = .ok (.iadd, 1) := by decide +kernel
theorem dX4_open_86 : decode cX4_open 86 = .ok (.iconst 0, 1) := by decide +kernel
theorem dX4_open_87 : decode cX4_open 87 = .ok (.bastore, 1) := by decide +kernel
theorem dX4_open_88 : decode cX4_open 88 = .ok (.iinc 2 1, 3) := by decide +kernel
theorem dX4_open_91 : decode cX4_open 91 = .ok (.goto (-21), 3) := by decide +kernel
theorem dX4_open_94 : decode cX4_open 94 = .ok (.aload_n 0, 1) := by decide +kernel
theorem dX4_open_95 : decode cX4_open 95 = .ok (.iload_n 1, 1) := by decide +kernel
theorem dX4_open_96 : decode cX4_open 96 = .ok (.invokevirtual 108, 3) := by decide +kernel
theorem dX4_open_99 : decode cX4_open 99 = .ok (.ireturn, 1) := by decide +kernel
set_option maxRecDepth 20000 in
theorem ggX4_vote_X4_isMember : GoodIn wsX4_vote wsX4_isMember := goodIn_r _ [11, 12, 13, 14, 10, 15, 23, 24, 25, 26, 27, 28, 29, 30, 31, 32, 33, 34, 35, 36, 37, 38, 39, 40, 41, 42, 43, 44, 45] (by decide +kernel) (by decide +kernel)
set_option maxRecDepth 20000 in
theorem gX4_vote_X4_isMember : GoodIn wsX4_vote (wsV RX4 93 RX4 yX4_isMember wsX4_isMember) := goodIn_app (goodIn_of _ (by decide +kernel)) ggX4_vote_X4_isMember
set_option maxRecDepth 20000 in
theorem ggX4_vote_X4_stands : GoodIn wsX4_vote wsX4_stands := goodIn_r _ [19, 20, 21, 22, 23, 24, 25, 26, 27, 28, 29, 30, 31, 32, 33, 34, 35, 36, 37, 38, 39, 40, 41, 42, 43, 44, 45] (by decide +kernel) (by decide +kernel)
set_option maxRecDepth 20000 in
theorem gX4_vote_X4_stands : GoodIn wsX4_vote (wsV RX4 82 RX4 yX4_stands wsX4_stands) := goodIn_app (goodIn_of _ (by decide +kernel)) ggX4_vote_X4_stands
theorem dX4_vote_0 : decode cX4_vote 0 = .ok (.aload_n 0, 1) := by decide +kernel
theorem dX4_vote_1 : decode cX4_vote 1 = .ok (.aload_n 0, 1) := by decide +kernel
theorem dX4_vote_2 : decode cX4_vote 2 = .ok (.iload_n 1, 1) := by decide +kernel
theorem dX4_vote_3 : decode cX4_vote 3 = .ok (.invokevirtual 93, 3) := by decide +kernel
theorem dX4_vote_6 : decode cX4_vote 6 = .ok (.ifCond .ne 7, 3) := by decide +kernel
theorem dX4_vote_9 : decode cX4_vote 9 = .ok (.iconst 1, 1) := by decide +kernel
theorem dX4_vote_10 : decode cX4_vote 10 = .ok (.goto 4, 3) := by decide +kernel
theorem dX4_vote_13 : decode cX4_vote 13 = .ok (.iconst 0, 1) := by decide +kernel
theorem dX4_vote_14 : decode cX4_vote 14 = .ok (.putfield 69, 3) := by decide +kernel
theorem dX4_vote_17 : decode cX4_vote 17 = .ok (.aload_n 0, 1) := by decide +kernel
theorem dX4_vote_18 : decode cX4_vote 18 = .ok (.getfield 69, 3) := by decide +kernel
theorem dX4_vote_21 : decode cX4_vote 21 = .ok (.ifCond .ne 50, 3) := by decide +kernel
theorem dX4_vote_24 : decode cX4_vote 24 = .ok (.aload_n 0, 1) := by decide +kernel
theorem dX4_vote_25 : decode cX4_vote 25 = .ok (.getfield 13, 3) := by decide +kernel
theorem dX4_vote_28 : decode cX4_vote 28 = .ok (.iload_n 1, 1) := by decide +kernel
theorem dX4_vote_29 : decode cX4_vote 29 = .ok (.iaload, 1) := by decide +kernel
theorem dX4_vote_30 : decode cX4_vote 30 = .ok (.istore_n 3, 1) := by decide +kernel
theorem dX4_vote_31 : decode cX4_vote 31 = .ok (.aload_n 0, 1) := by decide +kernel
theorem dX4_vote_32 : decode cX4_vote 32 = .ok (.aload_n 0, 1) := by decide +kernel
theorem dX4_vote_33 : decode cX4_vote 33 = .ok (.getfield 41, 3) := by decide +kernel
theorem dX4_vote_36 : decode cX4_vote 36 = .ok (.iload_n 3, 1) := by decide +kernel
theorem dX4_vote_37 : decode cX4_vote 37 = .ok (.baload, 1) := by decide +kernel
theorem dX4_vote_38 : decode cX4_vote 38 = .ok (.ifCond .eq 25, 3) := by decide +kernel
theorem dX4_vote_41 : decode cX4_vote 41 = .ok (.aload_n 0, 1) := by decide +kernel
theorem dX4_vote_42 : decode cX4_vote 42 = .ok (.iload_n 1, 1) := by decide +kernel
theorem dX4_vote_43 : decode cX4_vote 43 = .ok (.invokevirtual 82, 3) := by decide +kernel
theorem dX4_vote_46 : decode cX4_vote 46 = .ok (.ifCond .eq 17, 3) := by decide +kernel
theorem dX4_vote_49 : decode cX4_vote 49 = .ok (.aload_n 0, 1) := by decide +kernel
theorem dX4_vote_50 : decode cX4_vote 50 = .ok (.getfield 56, 3) := by decide +kernel
theorem dX4_vote_53 : decode cX4_vote 53 = .ok (.bipush 16, 2) := by decide +kernel
theorem dX4_vote_55 : decode cX4_vote 55 = .ok (.iload_n 3, 1) := by decide +kernel
theorem dX4_vote_56 : decode cX4_vote 56 = .ok (.imul, 1) := by decide +kernel
theorem dX4_vote_57 : decode cX4_vote 57 = .ok (.iload_n 1, 1) := by decide +kernel
theorem dX4_vote_58 : decode cX4_vote 58 = .ok (.iadd, 1) := by decide +kernel
theorem dX4_vote_59 : decode cX4_vote 59 = .ok (.baload, 1) := by decide +kernel
theorem dX4_vote_60 : decode cX4_vote 60 = .ok (.ifCond .eq 7, 3) := by decide +kernel
theorem dX4_vote_63 : decode cX4_vote 63 = .ok (.iconst 2, 1) := by decide +kernel
theorem dX4_vote_64 : decode cX4_vote 64 = .ok (.goto 4, 3) := by decide +kernel
theorem dX4_vote_67 : decode cX4_vote 67 = .ok (.iconst 0, 1) := by decide +kernel
theorem dX4_vote_68 : decode cX4_vote 68 = .ok (.putfield 69, 3) := by decide +kernel
theorem dX4_vote_71 : decode cX4_vote 71 = .ok (.aload_n 0, 1) := by decide +kernel
theorem dX4_vote_72 : decode cX4_vote 72 = .ok (.getfield 69, 3) := by decide +kernel
theorem dX4_vote_75 : decode cX4_vote 75 = .ok (.ifCond .le 5, 3) := by decide +kernel
theorem dX4_vote_78 : decode cX4_vote 78 = .ok (.iconst 0, 1) := by decide +kernel
theorem dX4_vote_79 : decode cX4_vote 79 = .ok (.ireturn, 1) := by decide +kernel
theorem dX4_vote_80 : decode cX4_vote 80 = .ok (.aload_n 0, 1) := by decide +kernel
theorem dX4_vote_81 : decode cX4_vote 81 = .ok (.getfield 13, 3) := by decide +kernel
theorem dX4_vote_84 : decode cX4_vote 84 = .ok (.iload_n 1, 1) := by decide +kernel
theorem dX4_vote_85 : decode cX4_vote 85 = .ok (.iaload, 1) := by decide +kernel
theorem dX4_vote_86 : decode cX4_vote 86 = .ok (.istore_n 3, 1) := by decide +kernel
theorem dX4_vote_87 : decode cX4_vote 87 = .ok (.aload_n 0, 1) := by decide +kernel
theorem dX4_vote_88 : decode cX4_vote 88 = .ok (.getfield 56, 3) := by decide +kernel
theorem dX4_vote_91 : decode cX4_vote 91 = .ok (.bipush 16, 2) := by decide +kernel
theorem dX4_vote_93 : decode cX4_vote 93 = .ok (.iload_n 3, 1) := by decide +kernel
theorem dX4_vote_94 : decode cX4_vote 94 = .ok (.imul, 1) := by decide +kernel
theorem dX4_vote_95 : decode cX4_vote 95 = .ok (.iload_n 1, 1) := by decide +kernel
theorem dX4_vote_96 : decode cX4_vote 96 = .ok (.iadd, 1) := by decide +kernel
theorem dX4_vote_97 : decode cX4_vote 97 = .ok (.iconst 1, 1) := by decide +kernel
theorem dX4_vote_98 : decode cX4_vote 98 = .ok (.bastore, 1) := by decide +kernel
theorem dX4_vote_99 : decode cX4_vote 99 = .ok (.aload_n 0, 1) := by decide +kernel
theorem dX4_vote_100 : decode cX4_vote 100 = .ok (.getfield 44, 3) := by decide +kernel
theorem dX4_vote_103 : decode cX4_vote 103 = .ok (.iload_n 3, 1) := by decide +kernel
theorem dX4_vote_104 : decode cX4_vote 104 = .ok (.dup2, 1) := by decide +kernel
theorem dX4_vote_105 : decode cX4_vote 105 = .ok (.iaload, 1) := by decide +kernel
theorem dX4_vote_106 : decode cX4_vote 106 = .ok (.iload_n 2, 1) := by decide +kernel
theorem dX4_vote_107 : decode cX4_vote 107 = .ok (.ifCond .eq 7, 3) := by decide +kernel
theorem dX4_vote_110 : decode cX4_vote 110 = .ok (.iconst 1, 1) := by decide +kernel
theorem dX4_vote_111 : decode cX4_vote 111 = .ok (.goto 4, 3) := by decide +kernel
theorem dX4_vote_114 : decode cX4_vote 114 = .ok (.iconst 0, 1) := by decide +kernel
theorem dX4_vote_115 : decode cX4_vote 115 = .ok (.iadd, 1) := by decide +kernel
theorem dX4_vote_116 : decode cX4_vote 116 = .ok (.iastore, 1) := by decide +kernel
theorem dX4_vote_117 : decode cX4_vote 117 = .ok (.aload_n 0, 1) := by decide +kernel
theorem dX4_vote_118 : decode cX4_vote 118 = .ok (.getfield 47, 3) := by decide +kernel
theorem dX4_vote_121 : decode cX4_vote 121 = .ok (.iload_n 3, 1) := by decide +kernel
theorem dX4_vote_122 : decode cX4_vote 122 = .ok (.dup2, 1) := by decide +kernel
theorem dX4_vote_123 : decode cX4_vote 123 = .ok (.iaload, 1) := by decide +kernel
theorem dX4_vote_124 : decode cX4_vote 124 = .ok (.iload_n 2, 1) := by decide +kernel
theorem dX4_vote_125 : decode cX4_vote 125 = .ok (.ifCond .eq 7, 3) := by decide +kernel
theorem dX4_vote_128 : decode cX4_vote 128 = .ok (.iconst 0, 1) := by decide +kernel
theorem dX4_vote_129 : decode cX4_vote 129 = .ok (.goto 4, 3) := by decide +kernel
theorem dX4_vote_132 : decode cX4_vote 132 = .ok (.iconst 1, 1) := by decide +kernel
theorem dX4_vote_133 : decode cX4_vote 133 = .ok (.iadd, 1) := by decide +kernel
theorem dX4_vote_134 : decode cX4_vote 134 = .ok (.iastore, 1) := by decide +kernel
theorem dX4_vote_135 : decode cX4_vote 135 = .ok (.aload_n 0, 1) := by decide +kernel
theorem dX4_vote_136 : decode cX4_vote 136 = .ok (.getfield 44, 3) := by decide +kernel
theorem dX4_vote_139 : decode cX4_vote 139 = .ok (.iload_n 3, 1) := by decide +kernel
theorem dX4_vote_140 : decode cX4_vote 140 = .ok (.iaload, 1) := by decide +kernel
theorem dX4_vote_141 : decode cX4_vote 141 = .ok (.aload_n 0, 1) := by decide +kernel
theorem dX4_vote_142 : decode cX4_vote 142 = .ok (.getfield 47, 3) := by decide +kernel
theorem dX4_vote_145 : decode cX4_vote 145 = .ok (.iload_n 3, 1) := by decide +kernel
theorem dX4_vote_146 : decode cX4_vote 146 = .ok (.iaload, 1) := by decide +kernel
theorem dX4_vote_147 : decode cX4_vote 147 = .ok (.iadd, 1) := by decide +kernel
theorem dX4_vote_148 : decode cX4_vote 148 = .ok (.ireturn, 1) := by decide +kernel
set_option maxRecDepth 20000 in
theorem ggX4_close_X4_isBranch : GoodIn wsX4_close wsX4_isBranch := goodIn_r _ [9, 10, 11, 8, 12] (by decide +kernel) (by decide +kernel)
set_option maxRecDepth 20000 in
theorem gX4_close_X4_isBranch : GoodIn wsX4_close (va_wsS RX4 90 yX4_isBranch wsX4_isBranch) := goodIn_app (goodIn_of _ (by decide +kernel)) ggX4_close_X4_isBranch
set_option maxRecDepth 20000 in
theorem ggX4_close_X4_standing : GoodIn wsX4_close wsX4_standing := goodIn_r _ [16, 17, 18, 19, 20, 21, 8, 22, 23, 24, 25, 26, 27, 28, 29, 30, 31, 32, 33, 34, 35, 36, 37, 38, 39, 40, 41, 42, 43, 44, 45, 46, 47, 48] (by decide +kernel) (by decide +kernel)
set_option maxRecDepth 20000 in
theorem gX4_close_X4_standing : GoodIn wsX4_close (wsV RX4 108 RX4 yX4_standing wsX4_standing) := goodIn_app (goodIn_of _ (by decide +kernel)) ggX4_close_X4_standing
theorem dX4_close_0 : decode cX4_close 0 = .ok (.aload_n 0, 1) := by decide +kernel
theorem dX4_close_1 : decode cX4_close 1 = .ok (.iload_n 1, 1) := by decide +kernel
theorem dX4_close_2 : decode cX4_close 2 = .ok (.invokestatic 90, 3) := by decide +kernel
theorem dX4_close_5 : decode cX4_close 5 = .ok (.ifCond .ne 7, 3) := by decide +kernel
theorem dX4_close_8 : decode cX4_close 8 = .ok (.iconst 1, 1) := by decide +kernel
theorem dX4_close_9 : decode cX4_close 9 = .ok (.goto 17, 3) := by decide +kernel
theorem dX4_close_12 : decode cX4_close 12 = .ok (.aload_n 0, 1) := by decide +kernel
theorem dX4_close_13 : decode cX4_close 13 = .ok (.getfield 41, 3) := by decide +kernel
theorem dX4_close_16 : decode cX4_close 16 = .ok (.iload_n 1, 1) := by decide +kernel
theorem dX4_close_17 : decode cX4_close 17 = .ok (.baload, 1) := by decide +kernel
theorem dX4_close_18 : decode cX4_close 18 = .ok (.ifCond .ne 7, 3) := by decide +kernel
theorem dX4_close_21 : decode cX4_close 21 = .ok (.iconst 2, 1) := by decide +kernel
theorem dX4_close_22 : decode cX4_close 22 = .ok (.goto 4, 3) := by decide +kernel
theorem dX4_close_25 : decode cX4_close 25 = .ok (.iconst 0, 1) := by decide +kernel
theorem dX4_close_26 : decode cX4_close 26 = .ok (.putfield 69, 3) := by decide +kernel
theorem dX4_close_29 : decode cX4_close 29 = .ok (.aload_n 0, 1) := by decide +kernel
theorem dX4_close_30 : decode cX4_close 30 = .ok (.getfield 69, 3) := by decide +kernel
theorem dX4_close_33 : decode cX4_close 33 = .ok (.ifCond .le 5, 3) := by decide +kernel
theorem dX4_close_36 : decode cX4_close 36 = .ok (.iconst 0, 1) := by decide +kernel
theorem dX4_close_37 : decode cX4_close 37 = .ok (.ireturn, 1) := by decide +kernel
theorem dX4_close_38 : decode cX4_close 38 = .ok (.aload_n 0, 1) := by decide +kernel
theorem dX4_close_39 : decode cX4_close 39 = .ok (.getfield 41, 3) := by decide +kernel
theorem dX4_close_42 : decode cX4_close 42 = .ok (.iload_n 1, 1) := by decide +kernel
theorem dX4_close_43 : decode cX4_close 43 = .ok (.iconst 0, 1) := by decide +kernel
theorem dX4_close_44 : decode cX4_close 44 = .ok (.bastore, 1) := by decide +kernel
theorem dX4_close_45 : decode cX4_close 45 = .ok (.aload_n 0, 1) := by decide +kernel
theorem dX4_close_46 : decode cX4_close 46 = .ok (.getfield 44, 3) := by decide +kernel
theorem dX4_close_49 : decode cX4_close 49 = .ok (.iload_n 1, 1) := by decide +kernel
theorem dX4_close_50 : decode cX4_close 50 = .ok (.iaload, 1) := by decide +kernel
theorem dX4_close_51 : decode cX4_close 51 = .ok (.aload_n 0, 1) := by decide +kernel
theorem dX4_close_52 : decode cX4_close 52 = .ok (.getfield 47, 3) := by decide +kernel
theorem dX4_close_55 : decode cX4_close 55 = .ok (.iload_n 1, 1) := by decide +kernel
theorem dX4_close_56 : decode cX4_close 56 = .ok (.iaload, 1) := by decide +kernel
theorem dX4_close_57 : decode cX4_close 57 = .ok (.if_icmp .le 30, 3) := by decide +kernel
theorem dX4_close_60 : decode cX4_close 60 = .ok (.iconst 2, 1) := by decide +kernel
theorem dX4_close_61 : decode cX4_close 61 = .ok (.aload_n 0, 1) := by decide +kernel
theorem dX4_close_62 : decode cX4_close 62 = .ok (.getfield 44, 3) := by decide +kernel
theorem dX4_close_65 : decode cX4_close 65 = .ok (.iload_n 1, 1) := by decide +kernel
theorem dX4_close_66 : decode cX4_close 66 = .ok (.iaload, 1) := by decide +kernel
theorem dX4_close_67 : decode cX4_close 67 = .ok (.aload_n 0, 1) := by decide +kernel
theorem dX4_close_68 : decode cX4_close 68 = .ok (.getfield 47, 3) := by decide +kernel
theorem dX4_close_71 : decode cX4_close 71 = .ok (.iload_n 1, 1) := by decide +kernel
theorem dX4_close_72 : decode cX4_close 72 = .ok (.iaload, 1) := by decide +kernel
theorem dX4_close_73 : decode cX4_close 73 = .ok (.iadd, 1) := by decide +kernel
theorem dX4_close_74 : decode cX4_close 74 = .ok (.imul, 1) := by decide +kernel
theorem dX4_close_75 : decode cX4_close 75 = .ok (.aload_n 0, 1) := by decide +kernel
theorem dX4_close_76 : decode cX4_close 76 = .ok (.iload_n 1, 1) := by decide +kernel
theorem dX4_close_77 : decode cX4_close 77 = .ok (.invokevirtual 108, 3) := by decide +kernel
theorem dX4_close_80 : decode cX4_close 80 = .ok (.if_icmp .lt 7, 3) := by decide +kernel
theorem dX4_close_83 : decode cX4_close 83 = .ok (.iconst 1, 1) := by decide +kernel
theorem dX4_close_84 : decode cX4_close 84 = .ok (.goto 4, 3) := by decide +kernel
theorem dX4_close_87 : decode cX4_close 87 = .ok (.iconst 0, 1) := by decide +kernel
theorem dX4_close_88 : decode cX4_close 88 = .ok (.istore_n 2, 1) := by decide +kernel
theorem dX4_close_89 : decode cX4_close 89 = .ok (.aload_n 0, 1) := by decide +kernel
theorem dX4_close_90 : decode cX4_close 90 = .ok (.getfield 50, 3) := by decide +kernel
theorem dX4_close_93 : decode cX4_close 93 = .ok (.iload_n 1, 1) := by decide +kernel
theorem dX4_close_94 : decode cX4_close 94 = .ok (.iload_n 2, 1) := by decide +kernel
theorem dX4_close_95 : decode cX4_close 95 = .ok (.bastore, 1) := by decide +kernel
theorem dX4_close_96 : decode cX4_close 96 = .ok (.iload_n 2, 1) := by decide +kernel
theorem dX4_close_97 : decode cX4_close 97 = .ok (.ireturn, 1) := by decide +kernel
set_option maxRecDepth 20000 in
theorem ggX4_strike_X4_isBranch : GoodIn wsX4_strike wsX4_isBranch := goodIn_r _ [8, 9, 10, 7, 11] (by decide +kernel) (by decide +kernel)
set_option maxRecDepth 20000 in
theorem gX4_strike_X4_isBranch : GoodIn wsX4_strike (va_wsS RX4 90 yX4_isBranch wsX4_isBranch) := goodIn_app (goodIn_of _ (by decide +kernel)) ggX4_strike_X4_isBranch
theorem dX4_strike_0 : decode cX4_strike 0 = .ok (.aload_n 0, 1) := by decide +kernel
theorem dX4_strike_1 : decode cX4_strike 1 = .ok (.iload_n 1, 1) := by decide +kernel
theorem dX4_strike_2 : decode cX4_strike 2 = .ok (.invokestatic 90, 3) := by decide +kernel
theorem dX4_strike_5 : decode cX4_strike 5 = .ok (.ifCond .ne 7, 3) := by decide +kernel
theorem dX4_strike_8 : decode cX4_strike 8 = .ok (.iconst 1, 1) := by decide +kernel
theorem dX4_strike_9 : decode cX4_strike 9 = .ok (.goto 4, 3) := by decide +kernel
theorem dX4_strike_12 : decode cX4_strike 12 = .ok (.iconst 0, 1) := by decide +kernel
theorem dX4_strike_13 : decode cX4_strike 13 = .ok (.putfield 69, 3) := by decide +kernel
theorem dX4_strike_16 : decode cX4_strike 16 = .ok (.aload_n 0, 1) := by decide +kernel
theorem dX4_strike_17 : decode cX4_strike 17 = .ok (.getfield 69, 3) := by decide +kernel
theorem dX4_strike_20 : decode cX4_strike 20 = .ok (.ifCond .ne 62, 3) := by decide +kernel
theorem dX4_strike_23 : decode cX4_strike 23 = .ok (.iload_n 2, 1) := by decide +kernel
theorem dX4_strike_24 : decode cX4_strike 24 = .ok (.ifCond .eq 38, 3) := by decide +kernel
theorem dX4_strike_27 : decode cX4_strike 27 = .ok (.aload_n 0, 1) := by decide +kernel
theorem dX4_strike_28 : decode cX4_strike 28 = .ok (.getfield 50, 3) := by decide +kernel
theorem dX4_strike_31 : decode cX4_strike 31 = .ok (.iload_n 1, 1) := by decide +kernel
theorem dX4_strike_32 : decode cX4_strike 32 = .ok (.baload, 1) := by decide +kernel
theorem dX4_strike_33 : decode cX4_strike 33 = .ok (.ifCond .eq 25, 3) := by decide +kernel
theorem dX4_strike_36 : decode cX4_strike 36 = .ok (.aload_n 0, 1) := by decide +kernel
theorem dX4_strike_37 : decode cX4_strike 37 = .ok (.getfield 53, 3) := by decide +kernel
theorem dX4_strike_40 : decode cX4_strike 40 = .ok (.iload_n 1, 1) := by decide +kernel
theorem dX4_strike_41 : decode cX4_strike 41 = .ok (.baload, 1) := by decide +kernel
theorem dX4_strike_42 : decode cX4_strike 42 = .ok (.ifCond .ne 16, 3) := by decide +kernel
theorem dX4_strike_45 : decode cX4_strike 45 = .ok (.aload_n 0, 1) := by decide +kernel
theorem dX4_strike_46 : decode cX4_strike 46 = .ok (.getfield 41, 3) := by decide +kernel
theorem dX4_strike_49 : decode cX4_strike 49 = .ok (.iload_n 1, 1) := by decide +kernel
theorem dX4_strike_50 : decode cX4_strike 50 = .ok (.baload, 1) := by decide +kernel
theorem dX4_strike_51 : decode cX4_strike 51 = .ok (.ifCond .ne 7, 3) := by decide +kernel
theorem dX4_strike_54 : decode cX4_strike 54 = .ok (.iconst 1, 1) := by decide +kernel
theorem dX4_strike_55 : decode cX4_strike 55 = .ok (.goto 13, 3) := by decide +kernel
theorem dX4_strike_58 : decode cX4_strike 58 = .ok (.iconst 0, 1) := by decide +kernel
theorem dX4_strike_59 : decode cX4_strike 59 = .ok (.goto 9, 3) := by decide +kernel
theorem dX4_strike_62 : decode cX4_strike 62 = .ok (.aload_n 0, 1) := by decide +kernel
theorem dX4_strike_63 : decode cX4_strike 63 = .ok (.getfield 53, 3) := by decide +kernel
theorem dX4_strike_66 : decode cX4_strike 66 = .ok (.iload_n 1, 1) := by decide +kernel
theorem dX4_strike_67 : decode cX4_strike 67 = .ok (.baload, 1) := by decide +kernel
theorem dX4_strike_68 : decode cX4_strike 68 = .ok (.istore_n 3, 1) := by decide +kernel
theorem dX4_strike_69 : decode cX4_strike 69 = .ok (.aload_n 0, 1) := by decide +kernel
theorem dX4_strike_70 : decode cX4_strike 70 = .ok (.iload_n 3, 1) := by decide +kernel
theorem dX4_strike_71 : decode cX4_strike 71 = .ok (.ifCond .eq 7, 3) := by decide +kernel
theorem dX4_strike_74 : decode cX4_strike 74 = .ok (.iconst 0, 1) := by decide +kernel
theorem dX4_strike_75 : decode cX4_strike 75 = .ok (.goto 4, 3) := by decide +kernel
theorem dX4_strike_78 : decode cX4_strike 78 = .ok (.iconst 2, 1) := by decide +kernel
theorem dX4_strike_79 : decode cX4_strike 79 = .ok (.putfield 69, 3) := by decide +kernel
theorem dX4_strike_82 : decode cX4_strike 82 = .ok (.aload_n 0, 1) := by decide +kernel
theorem dX4_strike_83 : decode cX4_strike 83 = .ok (.getfield 69, 3) := by decide +kernel
theorem dX4_strike_86 : decode cX4_strike 86 = .ok (.ifCond .ne 17, 3) := by decide +kernel
theorem dX4_strike_89 : decode cX4_strike 89 = .ok (.aload_n 0, 1) := by decide +kernel
theorem dX4_strike_90 : decode cX4_strike 90 = .ok (.getfield 53, 3) := by decide +kernel
theorem dX4_strike_93 : decode cX4_strike 93 = .ok (.iload_n 1, 1) := by decide +kernel
theorem dX4_strike_94 : decode cX4_strike 94 = .ok (.iload_n 2, 1) := by decide +kernel
theorem dX4_strike_95 : decode cX4_strike 95 = .ok (.bastore, 1) := by decide +kernel
theorem dX4_strike_96 : decode cX4_strike 96 = .ok (.aload_n 0, 1) := by decide +kernel
theorem dX4_strike_97 : decode cX4_strike 97 = .ok (.getfield 50, 3) := by decide +kernel
theorem dX4_strike_100 : decode cX4_strike 100 = .ok (.iload_n 1, 1) := by decide +kernel
theorem dX4_strike_101 : decode cX4_strike 101 = .ok (.iconst 0, 1) := by decide +kernel
theorem dX4_strike_102 : decode cX4_strike 102 = .ok (.bastore, 1) := by decide +kernel
theorem dX4_strike_103 : decode cX4_strike 103 = .ok (.return_, 1) := by decide +kernel
set_option maxRecDepth 20000 in
theorem ggX4_payStrikes_X4_stands : GoodIn wsX4_payStrikes wsX4_stands := goodIn_r _ [11, 12, 13, 14, 15, 16, 17, 18, 19, 20, 21, 22, 23, 24, 25, 26, 27, 28, 29, 30, 31, 32, 33, 34, 35, 36, 37] (by decide +kernel) (by decide +kernel)
set_option maxRecDepth 20000 in
theorem gX4_payStrikes_X4_stands : GoodIn wsX4_payStrikes (wsV RX4 82 RX4 yX4_stands wsX4_stands) := goodIn_app (goodIn_of _ (by decide +kernel)) ggX4_payStrikes_X4_stands
theorem dX4_payStrikes_0 : decode cX4_payStrikes 0 = .ok (.iconst 0, 1) := by decide +kernel
theorem dX4_payStrikes_1 : decode cX4_payStrikes 1 = .ok (.istore_n 1, 1) := by decide +kernel
theorem dX4_payStrikes_2 : decode cX4_payStrikes 2 = .ok (.iload_n 1, 1) := by decide +kernel
theorem dX4_payStrikes_3 : decode cX4_payStrikes 3 = .ok (.aload_n 0, 1) := by decide +kernel
theorem dX4_payStrikes_4 : decode cX4_payStrikes 4 = .ok (.getfield 72, 3) := by decide +kernel
theorem dX4_payStrikes_7 : decode cX4_payStrikes 7 = .ok (.if_icmp .ge 68, 3) := by decide +kernel
theorem dX4_payStrikes_10 : decode cX4_payStrikes 10 = .ok (.aload_n 0, 1) := by decide +kernel
theorem dX4_payStrikes_11 : decode cX4_payStrikes 11 = .ok (.getfield 53, 3) := by decide +kernel
theorem dX4_payStrikes_14 : decode cX4_payStrikes 14 = .ok (.aload_n 0, 1) := by decide +kernel
theorem dX4_payStrikes_15 : decode cX4_payStrikes 15 = .ok (.getfield 13, 3) := by decide +kernel
theorem dX4_payStrikes_18 : decode cX4_payStrikes 18 = .ok (.iload_n 1, 1) := by decide +kernel
theorem dX4_payStrikes_19 : decode cX4_payStrikes 19 = .ok (.iaload, 1) := by decide +kernel
theorem dX4_payStrikes_20 : decode cX4_payStrikes 20 = .ok (.baload, 1) := by decide +kernel
theorem dX4_payStrikes_21 : decode cX4_payStrikes 21 = .ok (.ifCond .eq 48, 3) := by decide +kernel
theorem dX4_payStrikes_24 : decode cX4_payStrikes 24 = .ok (.aload_n 0, 1) := by decide +kernel
theorem dX4_payStrikes_25 : decode cX4_payStrikes 25 = .ok (.iload_n 1, 1) := by decide +kernel
theorem dX4_payStrikes_26 : decode cX4_payStrikes 26 = .ok (.invokevirtual 82, 3) := by decide +kernel
theorem dX4_payStrikes_29 : decode cX4_payStrikes 29 = .ok (.ifCond .eq 40, 3) := by decide +kernel
theorem dX4_payStrikes_32 : decode cX4_payStrikes 32 = .ok (.aload_n 0, 1) := by decide +kernel
theorem dX4_payStrikes_33 : decode cX4_payStrikes 33 = .ok (.getfield 100, 3) := by decide +kernel
theorem dX4_payStrikes_36 : decode cX4_payStrikes 36 = .ok (.aload_n 0, 1) := by decide +kernel
theorem dX4_payStrikes_37 : decode cX4_payStrikes 37 = .ok (.getfield 62, 3) := by decide +kernel
theorem dX4_payStrikes_40 : decode cX4_payStrikes 40 = .ok (.if_icmp .lt 29, 3) := by decide +kernel
theorem dX4_payStrikes_43 : decode cX4_payStrikes 43 = .ok (.aload_n 0, 1) := by decide +kernel
theorem dX4_payStrikes_44 : decode cX4_payStrikes 44 = .ok (.dup, 1) := by decide +kernel
theorem dX4_payStrikes_45 : decode cX4_payStrikes 45 = .ok (.getfield 100, 3) := by decide +kernel
theorem dX4_payStrikes_48 : decode cX4_payStrikes 48 = .ok (.aload_n 0, 1) := by decide +kernel
theorem dX4_payStrikes_49 : decode cX4_payStrikes 49 = .ok (.getfield 62, 3) := by decide +kernel
theorem dX4_payStrikes_52 : decode cX4_payStrikes 52 = .ok (.isub, 1) := by decide +kernel
theorem dX4_payStrikes_53 : decode cX4_payStrikes 53 = .ok (.putfield 100, 3) := by decide +kernel
theorem dX4_payStrikes_56 : decode cX4_payStrikes 56 = .ok (.aload_n 0, 1) := by decide +kernel
theorem dX4_payStrikes_57 : decode cX4_payStrikes 57 = .ok (.getfield 29, 3) := by decide +kernel
theorem dX4_payStrikes_60 : decode cX4_payStrikes 60 = .ok (.iload_n 1, 1) := by decide +kernel
theorem dX4_payStrikes_61 : decode cX4_payStrikes 61 = .ok (.dup2, 1) := by decide +kernel
theorem dX4_payStrikes_62 : decode cX4_payStrikes 62 = .ok (.iaload, 1) := by decide +kernel
theorem dX4_payStrikes_63 : decode cX4_payStrikes 63 = .ok (.aload_n 0, 1) := by decide +kernel
theorem dX4_payStrikes_64 : decode cX4_payStrikes 64 = .ok (.getfield 62, 3) := by decide +kernel
theorem dX4_payStrikes_67 : decode cX4_payStrikes 67 = .ok (.iadd, 1) := by decide +kernel
theorem dX4_payStrikes_68 : decode cX4_payStrikes 68 = .ok (.iastore, 1) := by decide +kernel
theorem dX4_payStrikes_69 : decode cX4_payStrikes 69 = .ok (.iinc 1 1, 3) := by decide +kernel
theorem dX4_payStrikes_72 : decode cX4_payStrikes 72 = .ok (.goto (-70), 3) := by decide +kernel
theorem dX4_payStrikes_75 : decode cX4_payStrikes 75 = .ok (.return_, 1) := by decide +kernel
set_option maxRecDepth 20000 in
theorem ggX4_takeDues_X4_lay : GoodIn wsX4_takeDues wsX4_lay := goodIn_r _ [12, 13, 5, 14, 15, 16, 17, 18, 19, 20, 21, 22, 23, 24, 25, 26, 27, 28, 29, 30, 31, 32, 33, 34, 35, 36, 37, 38, 39, 40] (by decide +kernel) (by decide +kernel)
set_option maxRecDepth 20000 in
theorem gX4_takeDues_X4_lay : GoodIn wsX4_takeDues (wsV RX4 104 RX4 yX4_lay wsX4_lay) := goodIn_app (goodIn_of _ (by decide +kernel)) ggX4_takeDues_X4_lay
theorem dX4_takeDues_0 : decode cX4_takeDues 0 = .ok (.aload_n 0, 1) := by decide +kernel
theorem dX4_takeDues_1 : decode cX4_takeDues 1 = .ok (.getfield 79, 3) := by decide +kernel
theorem dX4_takeDues_4 : decode cX4_takeDues 4 = .ok (.bipush 30, 2) := by decide +kernel
theorem dX4_takeDues_6 : decode cX4_takeDues 6 = .ok (.idiv, 1) := by decide +kernel
theorem dX4_takeDues_7 : decode cX4_takeDues 7 = .ok (.istore_n 1, 1) := by decide +kernel
theorem dX4_takeDues_8 : decode cX4_takeDues 8 = .ok (.iconst 0, 1) := by decide +kernel
theorem dX4_takeDues_9 : decode cX4_takeDues 9 = .ok (.istore_n 2, 1) := by decide +kernel
theorem dX4_takeDues_10 : decode cX4_takeDues 10 = .ok (.iload_n 2, 1) := by decide +kernel
theorem dX4_takeDues_11 : decode cX4_takeDues 11 = .ok (.aload_n 0, 1) := by decide +kernel
theorem dX4_takeDues_12 : decode cX4_takeDues 12 = .ok (.getfield 72, 3) := by decide +kernel
theorem dX4_takeDues_15 : decode cX4_takeDues 15 = .ok (.if_icmp .ge 57, 3) := by decide +kernel
theorem dX4_takeDues_18 : decode cX4_takeDues 18 = .ok (.aload_n 0, 1) := by decide +kernel
theorem dX4_takeDues_19 : decode cX4_takeDues 19 = .ok (.getfield 19, 3) := by decide +kernel
theorem dX4_takeDues_22 : decode cX4_takeDues 22 = .ok (.iload_n 2, 1) := by decide +kernel
theorem dX4_takeDues_23 : decode cX4_takeDues 23 = .ok (.baload, 1) := by decide +kernel
theorem dX4_takeDues_24 : decode cX4_takeDues 24 = .ok (.ifCond .ne 42, 3) := by decide +kernel
theorem dX4_takeDues_27 : decode cX4_takeDues 27 = .ok (.aload_n 0, 1) := by decide +kernel
theorem dX4_takeDues_28 : decode cX4_takeDues 28 = .ok (.getfield 23, 3) := by decide +kernel
theorem dX4_takeDues_31 : decode cX4_takeDues 31 = .ok (.iload_n 2, 1) := by decide +kernel
theorem dX4_takeDues_32 : decode cX4_takeDues 32 = .ok (.baload, 1) := by decide +kernel
theorem dX4_takeDues_33 : decode cX4_takeDues 33 = .ok (.ifCond .ne 33, 3) := by decide +kernel
theorem dX4_takeDues_36 : decode cX4_takeDues 36 = .ok (.aload_n 0, 1) := by decide +kernel
theorem dX4_takeDues_37 : decode cX4_takeDues 37 = .ok (.getfield 32, 3) := by decide +kernel
theorem dX4_takeDues_40 : decode cX4_takeDues 40 = .ok (.bipush 60, 2) := by decide +kernel
theorem dX4_takeDues_42 : decode cX4_takeDues 42 = .ok (.iload_n 2, 1) := by decide +kernel
theorem dX4_takeDues_43 : decode cX4_takeDues 43 = .ok (.imul, 1) := by decide +kernel
theorem dX4_takeDues_44 : decode cX4_takeDues 44 = .ok (.iload_n 1, 1) := by decide +kernel
theorem dX4_takeDues_45 : decode cX4_takeDues 45 = .ok (.iadd, 1) := by decide +kernel
theorem dX4_takeDues_46 : decode cX4_takeDues 46 = .ok (.dup2, 1) := by decide +kernel
theorem dX4_takeDues_47 : decode cX4_takeDues 47 = .ok (.iaload, 1) := by decide +kernel
theorem dX4_takeDues_48 : decode cX4_takeDues 48 = .ok (.aload_n 0, 1) := by decide +kernel
theorem dX4_takeDues_49 : decode cX4_takeDues 49 = .ok (.getfield 7, 3) := by decide +kernel
theorem dX4_takeDues_52 : decode cX4_takeDues 52 = .ok (.aload_n 0, 1) := by decide +kernel
theorem dX4_takeDues_53 : decode cX4_takeDues 53 = .ok (.getfield 16, 3) := by decide +kernel
theorem dX4_takeDues_56 : decode cX4_takeDues 56 = .ok (.iload_n 2, 1) := by decide +kernel
theorem dX4_takeDues_57 : decode cX4_takeDues 57 = .ok (.iaload, 1) := by decide +kernel
theorem dX4_takeDues_58 : decode cX4_takeDues 58 = .ok (.iaload, 1) := by decide +kernel
theorem dX4_takeDues_59 : decode cX4_takeDues 59 = .ok (.iadd, 1) := by decide +kernel
theorem dX4_takeDues_60 : decode cX4_takeDues 60 = .ok (.iastore, 1) := by decide +kernel
theorem dX4_takeDues_61 : decode cX4_takeDues 61 = .ok (.aload_n 0, 1) := by decide +kernel
theorem dX4_takeDues_62 : decode cX4_takeDues 62 = .ok (.iload_n 2, 1) := by decide +kernel
theorem dX4_takeDues_63 : decode cX4_takeDues 63 = .ok (.invokevirtual 104, 3) := by decide +kernel
theorem dX4_takeDues_66 : decode cX4_takeDues 66 = .ok (.iinc 2 1, 3) := by decide +kernel
theorem dX4_takeDues_69 : decode cX4_takeDues 69 = .ok (.goto (-59), 3) := by decide +kernel
theorem dX4_takeDues_72 : decode cX4_takeDues 72 = .ok (.return_, 1) := by decide +kernel
set_option maxRecDepth 20000 in
theorem ggX4_advance_X4_in : GoodIn wsX4_advance wsX4_in := goodIn_r _ [7] (by decide +kernel) (by decide +kernel)
set_option maxRecDepth 20000 in
theorem gX4_advance_X4_in : GoodIn wsX4_advance (va_wsS RX4 75 yX4_in wsX4_in) := goodIn_app (goodIn_of _ (by decide +kernel)) ggX4_advance_X4_in
set_option maxRecDepth 20000 in
theorem ggX4_advance_X4_payStrikes : GoodIn wsX4_advance wsX4_payStrikes := goodIn_r _ [11, 12, 13, 14, 15, 16, 17, 18, 19, 20, 6, 21, 22, 23, 1, 42, 43, 44, 45, 46, 47, 48, 49, 50, 51, 52, 53, 54, 55, 56, 57, 58, 59, 60, 61, 62, 63, 64] (by decide +kernel) (by decide +kernel)
set_option maxRecDepth 20000 in
theorem gX4_advance_X4_payStrikes : GoodIn wsX4_advance (wsV RX4 111 RX4 yX4_payStrikes wsX4_payStrikes) := goodIn_app (goodIn_of _ (by decide +kernel)) ggX4_advance_X4_payStrikes
set_option maxRecDepth 20000 in
theorem ggX4_advance_X4_takeDues : GoodIn wsX4_advance wsX4_takeDues := goodIn_r _ [27, 1, 12, 22, 28, 23, 29, 30, 31, 32, 33, 6, 34, 35, 36, 37, 14, 15, 42, 43, 44, 45, 46, 47, 48, 49, 50, 51, 52, 53, 54, 55, 56, 57, 58, 59, 60, 61, 62, 63, 64] (by decide +kernel) (by decide +kernel)
set_option maxRecDepth 20000 in
theorem gX4_advance_X4_takeDues : GoodIn wsX4_advance (wsV RX4 114 RX4 yX4_takeDues wsX4_takeDues) := goodIn_app (goodIn_of _ (by decide +kernel)) ggX4_advance_X4_takeDues
set_option maxRecDepth 20000 in
theorem ggX4_advance_X4_standing : GoodIn wsX4_advance wsX4_standing := goodIn_r _ [41, 12, 14, 18, 19, 20, 6, 21, 22, 23, 1, 42, 43, 44, 45, 46, 47, 48, 49, 50, 51, 52, 53, 54, 55, 56, 57, 58, 59, 60, 61, 62, 63, 64] (by decide +kernel) (by decide +kernel)
set_option maxRecDepth 20000 in
theorem gX4_advance_X4_standing : GoodIn wsX4_advance (wsV RX4 108 RX4 yX4_standing wsX4_standing) := goodIn_app (goodIn_of _ (by decide +kernel)) ggX4_advance_X4_standing
theorem dX4_advance_0 : decode cX4_advance 0 = .ok (.aload_n 0, 1) := by decide +kernel
theorem dX4_advance_1 : decode cX4_advance 1 = .ok (.iload_n 1, 1) := by decide +kernel
theorem dX4_advance_2 : decode cX4_advance 2 = .ok (.iconst 1, 1) := by decide +kernel
theorem dX4_advance_3 : decode cX4_advance 3 = .ok (.bipush 100, 2) := by decide +kernel
theorem dX4_advance_5 : decode cX4_advance 5 = .ok (.invokestatic 75, 3) := by decide +kernel
theorem dX4_advance_8 : decode cX4_advance 8 = .ok (.ifCond .ne 7, 3) := by decide +kernel
theorem dX4_advance_11 : decode cX4_advance 11 = .ok (.iconst 1, 1) := by decide +kernel
theorem dX4_advance_12 : decode cX4_advance 12 = .ok (.goto 20, 3) := by decide +kernel
theorem dX4_advance_15 : decode cX4_advance 15 = .ok (.aload_n 0, 1) := by decide +kernel
theorem dX4_advance_16 : decode cX4_advance 16 = .ok (.getfield 79, 3) := by decide +kernel
theorem dX4_advance_19 : decode cX4_advance 19 = .ok (.iload_n 1, 1) := by decide +kernel
theorem dX4_advance_20 : decode cX4_advance 20 = .ok (.iadd, 1) := by decide +kernel
theorem dX4_advance_21 : decode cX4_advance 21 = .ok (.sipush 1800, 3) := by decide +kernel
theorem dX4_advance_24 : decode cX4_advance 24 = .ok (.if_icmp .le 7, 3) := by decide +kernel
theorem dX4_advance_27 : decode cX4_advance 27 = .ok (.iconst 2, 1) := by decide +kernel
theorem dX4_advance_28 : decode cX4_advance 28 = .ok (.goto 4, 3) := by decide +kernel
theorem dX4_advance_31 : decode cX4_advance 31 = .ok (.iconst 0, 1) := by decide +kernel
theorem dX4_advance_32 : decode cX4_advance 32 = .ok (.putfield 69, 3) := by decide +kernel
theorem dX4_advance_35 : decode cX4_advance 35 = .ok (.iconst 0, 1) := by decide +kernel
theorem dX4_advance_36 : decode cX4_advance 36 = .ok (.istore_n 2, 1) := by decide +kernel
theorem dX4_advance_37 : decode cX4_advance 37 = .ok (.iload_n 2, 1) := by decide +kernel
theorem dX4_advance_38 : decode cX4_advance 38 = .ok (.iload_n 1, 1) := by decide +kernel
theorem dX4_advance_39 : decode cX4_advance 39 = .ok (.if_icmp .ge 85, 3) := by decide +kernel
theorem dX4_advance_42 : decode cX4_advance 42 = .ok (.aload_n 0, 1) := by decide +kernel
theorem dX4_advance_43 : decode cX4_advance 43 = .ok (.getfield 69, 3) := by decide +kernel
theorem dX4_advance_46 : decode cX4_advance 46 = .ok (.ifCond .ne 78, 3) := by decide +kernel
theorem dX4_advance_49 : decode cX4_advance 49 = .ok (.aload_n 0, 1) := by decide +kernel
theorem dX4_advance_50 : decode cX4_advance 50 = .ok (.invokevirtual 111, 3) := by decide +kernel
theorem dX4_advance_53 : decode cX4_advance 53 = .ok (.aload_n 0, 1) := by decide +kernel
theorem dX4_advance_54 : decode cX4_advance 54 = .ok (.getfield 79, 3) := by decide +kernel
theorem dX4_advance_57 : decode cX4_advance 57 = .ok (.bipush 30, 2) := by decide +kernel
theorem dX4_advance_59 : decode cX4_advance 59 = .ok (.irem, 1) := by decide +kernel
theorem dX4_advance_60 : decode cX4_advance 60 = .ok (.bipush 29, 2) := by decide +kernel
theorem dX4_advance_62 : decode cX4_advance 62 = .ok (.if_icmp .ne 7, 3) := by decide +kernel
theorem dX4_advance_65 : decode cX4_advance 65 = .ok (.aload_n 0, 1) := by decide +kernel
theorem dX4_advance_66 : decode cX4_advance 66 = .ok (.invokevirtual 114, 3) := by decide +kernel
theorem dX4_advance_69 : decode cX4_advance 69 = .ok (.aload_n 0, 1) := by decide +kernel
theorem dX4_advance_70 : decode cX4_advance 70 = .ok (.dup, 1) := by decide +kernel
theorem dX4_advance_71 : decode cX4_advance 71 = .ok (.getfield 79, 3) := by decide +kernel
theorem dX4_advance_74 : decode cX4_advance 74 = .ok (.iconst 1, 1) := by decide +kernel
theorem dX4_advance_75 : decode cX4_advance 75 = .ok (.iadd, 1) := by decide +kernel
theorem dX4_advance_76 : decode cX4_advance 76 = .ok (.putfield 79, 3) := by decide +kernel
theorem dX4_advance_79 : decode cX4_advance 79 = .ok (.iconst 0, 1) := by decide +kernel
theorem dX4_advance_80 : decode cX4_advance 80 = .ok (.istore_n 3, 1) := by decide +kernel
theorem dX4_advance_81 : decode cX4_advance 81 = .ok (.iload_n 3, 1) := by decide +kernel
theorem dX4_advance_82 : decode cX4_advance 82 = .ok (.iconst 4, 1) := by decide +kernel
theorem dX4_advance_83 : decode cX4_advance 83 = .ok (.if_icmp .ge 35, 3) := by decide +kernel
theorem dX4_advance_86 : decode cX4_advance 86 = .ok (.aload_n 0, 1) := by decide +kernel
theorem dX4_advance_87 : decode cX4_advance 87 = .ok (.getfield 79, 3) := by decide +kernel
theorem dX4_advance_90 : decode cX4_advance 90 = .ok (.sipush 360, 3) := by decide +kernel
theorem dX4_advance_93 : decode cX4_advance 93 = .ok (.irem, 1) := by decide +kernel
theorem dX4_advance_94 : decode cX4_advance 94 = .ok (.ifCond .ne 24, 3) := by decide +kernel
theorem dX4_advance_97 : decode cX4_advance 97 = .ok (.aload_n 0, 1) := by decide +kernel
theorem dX4_advance_98 : decode cX4_advance 98 = .ok (.getfield 59, 3) := by decide +kernel
theorem dX4_advance_101 : decode cX4_advance 101 = .ok (.iload_n 3, 1) := by decide +kernel
theorem dX4_advance_102 : decode cX4_advance 102 = .ok (.aload_n 0, 1) := by decide +kernel
theorem dX4_advance_103 : decode cX4_advance 103 = .ok (.iload_n 3, 1) := by decide +kernel
theorem dX4_advance_104 : decode cX4_advance 104 = .ok (.invokevirtual 108, 3) := by decide +kernel
theorem dX4_advance_107 : decode cX4_advance 107 = .ok (.iconst 2, 1) := by decide +kernel
theorem dX4_advance_108 : decode cX4_advance 108 = .ok (.iadd, 1) := by decide +kernel
theorem dX4_advance_109 : decode cX4_advance 109 = .ok (.iconst 3, 1) := by decide +kernel
theorem dX4_advance_110 : decode cX4_advance 110 = .ok (.idiv, 1) := by decide +kernel
theorem dX4_advance_111 : decode cX4_advance 111 = .ok (.iastore, 1) := by decide +kernel
theorem dX4_advance_112 : decode cX4_advance 112 = .ok (.iinc 3 1, 3) := by decide +kernel
theorem dX4_advance_115 : decode cX4_advance 115 = .ok (.goto (-34), 3) := by decide +kernel
theorem dX4_advance_118 : decode cX4_advance 118 = .ok (.iinc 2 1, 3) := by decide +kernel
theorem dX4_advance_121 : decode cX4_advance 121 = .ok (.goto (-84), 3) := by decide +kernel
theorem dX4_advance_124 : decode cX4_advance 124 = .ok (.aload_n 0, 1) := by decide +kernel
theorem dX4_advance_125 : decode cX4_advance 125 = .ok (.getfield 69, 3) := by decide +kernel
theorem dX4_advance_128 : decode cX4_advance 128 = .ok (.ifCond .ne 10, 3) := by decide +kernel
theorem dX4_advance_131 : decode cX4_advance 131 = .ok (.aload_n 0, 1) := by decide +kernel
theorem dX4_advance_132 : decode cX4_advance 132 = .ok (.getfield 79, 3) := by decide +kernel
theorem dX4_advance_135 : decode cX4_advance 135 = .ok (.goto 4, 3) := by decide +kernel
theorem dX4_advance_138 : decode cX4_advance 138 = .ok (.iconst 0, 1) := by decide +kernel
theorem dX4_advance_139 : decode cX4_advance 139 = .ok (.ireturn, 1) := by decide +kernel
theorem dX4_hasEnded_0 : decode cX4_hasEnded 0 = .ok (.iload_n 1, 1) := by decide +kernel
theorem dX4_hasEnded_1 : decode cX4_hasEnded 1 = .ok (.ifCond .lt 20, 3) := by decide +kernel
theorem dX4_hasEnded_4 : decode cX4_hasEnded 4 = .ok (.aload_n 0, 1) := by decide +kernel
theorem dX4_hasEnded_5 : decode cX4_hasEnded 5 = .ok (.getfield 79, 3) := by decide +kernel
theorem dX4_hasEnded_8 : decode cX4_hasEnded 8 = .ok (.bipush 30, 2) := by decide +kernel
theorem dX4_hasEnded_10 : decode cX4_hasEnded 10 = .ok (.iload_n 1, 1) := by decide +kernel
theorem dX4_hasEnded_11 : decode cX4_hasEnded 11 = .ok (.iconst 1, 1) := by decide +kernel
theorem dX4_hasEnded_12 : decode cX4_hasEnded 12 = .ok (.iadd, 1) := by decide +kernel
theorem dX4_hasEnded_13 : decode cX4_hasEnded 13 = .ok (.imul, 1) := by decide +kernel
theorem dX4_hasEnded_14 : decode cX4_hasEnded 14 = .ok (.if_icmp .lt 7, 3) := by decide +kernel
theorem dX4_hasEnded_17 : decode cX4_hasEnded 17 = .ok (.iconst 1, 1) := by decide +kernel
theorem dX4_hasEnded_18 : decode cX4_hasEnded 18 = .ok (.goto 4, 3) := by decide +kernel
theorem dX4_hasEnded_21 : decode cX4_hasEnded 21 = .ok (.iconst 0, 1) := by decide +kernel
theorem dX4_hasEnded_22 : decode cX4_hasEnded 22 = .ok (.ireturn, 1) := by decide +kernel
set_option maxRecDepth 20000 in
theorem ggX4_fold_X4_hasEnded : GoodIn wsX4_fold wsX4_hasEnded := goodIn_r _ [8, 9, 10, 11, 12, 13, 14, 15, 16, 17, 18, 19, 20, 21, 22, 23, 24, 25, 26, 27, 28, 29, 30, 31, 32] (by decide +kernel) (by decide +kernel)
set_option maxRecDepth 20000 in
theorem gX4_fold_X4_hasEnded : GoodIn wsX4_fold (wsV RX4 117 RX4 yX4_hasEnded wsX4_hasEnded) := goodIn_app (goodIn_of _ (by decide +kernel)) ggX4_fold_X4_hasEnded
theorem dX4_fold_0 : decode cX4_fold 0 = .ok (.aload_n 0, 1) := by decide +kernel
theorem dX4_fold_1 : decode cX4_fold 1 = .ok (.iload_n 1, 1) := by decide +kernel
theorem dX4_fold_2 : decode cX4_fold 2 = .ok (.ifCond .lt 25, 3) := by decide +kernel
theorem dX4_fold_5 : decode cX4_fold 5 = .ok (.iload_n 1, 1) := by decide +kernel
theorem dX4_fold_6 : decode cX4_fold 6 = .ok (.bipush 60, 2) := by decide +kernel
theorem dX4_fold_8 : decode cX4_fold 8 = .ok (.if_icmp .gt 19, 3) := by decide +kernel
theorem dX4_fold_11 : decode cX4_fold 11 = .ok (.aload_n 0, 1) := by decide +kernel
theorem dX4_fold_12 : decode cX4_fold 12 = .ok (.iload_n 1, 1) := by decide +kernel
theorem dX4_fold_13 : decode cX4_fold 13 = .ok (.invokevirtual 117, 3) := by decide +kernel
theorem dX4_fold_16 : decode cX4_fold 16 = .ok (.ifCond .eq 11, 3) := by decide +kernel
theorem dX4_fold_19 : decode cX4_fold 19 = .ok (.iload_n 1, 1) := by decide +kernel
theorem dX4_fold_20 : decode cX4_fold 20 = .ok (.aload_n 0, 1) := by decide +kernel
theorem dX4_fold_21 : decode cX4_fold 21 = .ok (.getfield 66, 3) := by decide +kernel
theorem dX4_fold_24 : decode cX4_fold 24 = .ok (.if_icmp .gt 7, 3) := by decide +kernel
theorem dX4_fold_27 : decode cX4_fold 27 = .ok (.iconst 1, 1) := by decide +kernel
theorem dX4_fold_28 : decode cX4_fold 28 = .ok (.goto 4, 3) := by decide +kernel
theorem dX4_fold_31 : decode cX4_fold 31 = .ok (.iconst 0, 1) := by decide +kernel
theorem dX4_fold_32 : decode cX4_fold 32 = .ok (.putfield 69, 3) := by decide +kernel
theorem dX4_fold_35 : decode cX4_fold 35 = .ok (.aload_n 0, 1) := by decide +kernel
theorem dX4_fold_36 : decode cX4_fold 36 = .ok (.getfield 69, 3) := by decide +kernel
theorem dX4_fold_39 : decode cX4_fold 39 = .ok (.ifCond .le 5, 3) := by decide +kernel
theorem dX4_fold_42 : decode cX4_fold 42 = .ok (.iconst 0, 1) := by decide +kernel
theorem dX4_fold_43 : decode cX4_fold 43 = .ok (.ireturn, 1) := by decide +kernel
theorem dX4_fold_44 : decode cX4_fold 44 = .ok (.iconst 0, 1) := by decide +kernel
theorem dX4_fold_45 : decode cX4_fold 45 = .ok (.istore_n 2, 1) := by decide +kernel
theorem dX4_fold_46 : decode cX4_fold 46 = .ok (.iconst 0, 1) := by decide +kernel
theorem dX4_fold_47 : decode cX4_fold 47 = .ok (.istore_n 3, 1) := by decide +kernel
theorem dX4_fold_48 : decode cX4_fold 48 = .ok (.iload_n 3, 1) := by decide +kernel
theorem dX4_fold_49 : decode cX4_fold 49 = .ok (.iconst 4, 1) := by decide +kernel
theorem dX4_fold_50 : decode cX4_fold 50 = .ok (.if_icmp .ge 44, 3) := by decide +kernel
theorem dX4_fold_53 : decode cX4_fold 53 = .ok (.aload_n 0, 1) := by decide +kernel
theorem dX4_fold_54 : decode cX4_fold 54 = .ok (.getfield 66, 3) := by decide +kernel
theorem dX4_fold_57 : decode cX4_fold 57 = .ok (.iconst 1, 1) := by decide +kernel
theorem dX4_fold_58 : decode cX4_fold 58 = .ok (.iadd, 1) := by decide +kernel
theorem dX4_fold_59 : decode cX4_fold 59 = .ok (.istore 4, 2) := by decide +kernel
theorem dX4_fold_61 : decode cX4_fold 61 = .ok (.iload 4, 2) := by decide +kernel
theorem dX4_fold_63 : decode cX4_fold 63 = .ok (.iload_n 1, 1) := by decide +kernel
theorem dX4_fold_64 : decode cX4_fold 64 = .ok (.if_icmp .gt 24, 3) := by decide +kernel
theorem dX4_fold_67 : decode cX4_fold 67 = .ok (.iload_n 2, 1) := by decide +kernel
theorem dX4_fold_68 : decode cX4_fold 68 = .ok (.aload_n 0, 1) := by decide +kernel
theorem dX4_fold_69 : decode cX4_fold 69 = .ok (.getfield 38, 3) := by decide +kernel
theorem dX4_fold_72 : decode cX4_fold 72 = .ok (.bipush 60, 2) := by decide +kernel
theorem dX4_fold_74 : decode cX4_fold 74 = .ok (.iload_n 3, 1) := by decide +kernel
theorem dX4_fold_75 : decode cX4_fold 75 = .ok (.imul, 1) := by decide +kernel
theorem dX4_fold_76 : decode cX4_fold 76 = .ok (.iload 4, 2) := by decide +kernel
theorem dX4_fold_78 : decode cX4_fold 78 = .ok (.iadd, 1) := by decide +kernel
theorem dX4_fold_79 : decode cX4_fold 79 = .ok (.iaload, 1) := by decide +kernel
theorem dX4_fold_80 : decode cX4_fold 80 = .ok (.iadd, 1) := by decide +kernel
theorem dX4_fold_81 : decode cX4_fold 81 = .ok (.istore_n 2, 1) := by decide +kernel
theorem dX4_fold_82 : decode cX4_fold 82 = .ok (.iinc 4 1, 3) := by decide +kernel
theorem dX4_fold_85 : decode cX4_fold 85 = .ok (.goto (-24), 3) := by decide +kernel
theorem dX4_fold_88 : decode cX4_fold 88 = .ok (.iinc 3 1, 3) := by decide +kernel
theorem dX4_fold_91 : decode cX4_fold 91 = .ok (.goto (-43), 3) := by decide +kernel
theorem dX4_fold_94 : decode cX4_fold 94 = .ok (.aload_n 0, 1) := by decide +kernel
theorem dX4_fold_95 : decode cX4_fold 95 = .ok (.iload_n 1, 1) := by decide +kernel
theorem dX4_fold_96 : decode cX4_fold 96 = .ok (.putfield 66, 3) := by decide +kernel
theorem dX4_fold_99 : decode cX4_fold 99 = .ok (.iload_n 2, 1) := by decide +kernel
theorem dX4_fold_100 : decode cX4_fold 100 = .ok (.ireturn, 1) := by decide +kernel
theorem dX4_day_0 : decode cX4_day 0 = .ok (.aload_n 0, 1) := by decide +kernel
theorem dX4_day_1 : decode cX4_day 1 = .ok (.iconst 0, 1) := by decide +kernel
theorem dX4_day_2 : decode cX4_day 2 = .ok (.putfield 69, 3) := by decide +kernel
theorem dX4_day_5 : decode cX4_day 5 = .ok (.aload_n 0, 1) := by decide +kernel
theorem dX4_day_6 : decode cX4_day 6 = .ok (.getfield 79, 3) := by decide +kernel
theorem dX4_day_9 : decode cX4_day 9 = .ok (.ireturn, 1) := by decide +kernel
theorem dX4_fund_0 : decode cX4_fund 0 = .ok (.aload_n 0, 1) := by decide +kernel
theorem dX4_fund_1 : decode cX4_fund 1 = .ok (.iconst 0, 1) := by decide +kernel
theorem dX4_fund_2 : decode cX4_fund 2 = .ok (.putfield 69, 3) := by decide +kernel
theorem dX4_fund_5 : decode cX4_fund 5 = .ok (.aload_n 0, 1) := by decide +kernel
theorem dX4_fund_6 : decode cX4_fund 6 = .ok (.getfield 100, 3) := by decide +kernel
theorem dX4_fund_9 : decode cX4_fund 9 = .ok (.ireturn, 1) := by decide +kernel
set_option maxRecDepth 20000 in
theorem ggX4_asksFor_X4_isMember : GoodIn wsX4_asksFor wsX4_isMember := goodIn_r _ [6, 7, 8, 9, 5, 10, 11, 12, 13, 14, 15, 16, 17, 18, 19, 20, 21, 22, 23, 24, 25, 26, 27, 28, 29, 30, 31, 32, 33] (by decide +kernel) (by decide +kernel)
set_option maxRecDepth 20000 in
theorem gX4_asksFor_X4_isMember : GoodIn wsX4_asksFor (wsV RX4 93 RX4 yX4_isMember wsX4_isMember) := goodIn_app (goodIn_of _ (by decide +kernel)) ggX4_asksFor_X4_isMember
theorem dX4_asksFor_0 : decode cX4_asksFor 0 = .ok (.aload_n 0, 1) := by decide +kernel
theorem dX4_asksFor_1 : decode cX4_asksFor 1 = .ok (.aload_n 0, 1) := by decide +kernel
theorem dX4_asksFor_2 : decode cX4_asksFor 2 = .ok (.iload_n 1, 1) := by decide +kernel
theorem dX4_asksFor_3 : decode cX4_asksFor 3 = .ok (.invokevirtual 93, 3) := by decide +kernel
theorem dX4_asksFor_6 : decode cX4_asksFor 6 = .ok (.ifCond .eq 7, 3) := by decide +kernel
theorem dX4_asksFor_9 : decode cX4_asksFor 9 = .ok (.iconst 0, 1) := by decide +kernel
theorem dX4_asksFor_10 : decode cX4_asksFor 10 = .ok (.goto 4, 3) := by decide +kernel
theorem dX4_asksFor_13 : decode cX4_asksFor 13 = .ok (.iconst 1, 1) := by decide +kernel
theorem dX4_asksFor_14 : decode cX4_asksFor 14 = .ok (.putfield 69, 3) := by decide +kernel
theorem dX4_asksFor_17 : decode cX4_asksFor 17 = .ok (.aload_n 0, 1) := by decide +kernel
theorem dX4_asksFor_18 : decode cX4_asksFor 18 = .ok (.getfield 69, 3) := by decide +kernel
theorem dX4_asksFor_21 : decode cX4_asksFor 21 = .ok (.ifCond .ne 7, 3) := by decide +kernel
theorem dX4_asksFor_24 : decode cX4_asksFor 24 = .ok (.iconst 1, 1) := by decide +kernel
theorem dX4_asksFor_25 : decode cX4_asksFor 25 = .ok (.goto 4, 3) := by decide +kernel
theorem dX4_asksFor_28 : decode cX4_asksFor 28 = .ok (.iconst 0, 1) := by decide +kernel
theorem dX4_asksFor_29 : decode cX4_asksFor 29 = .ok (.ireturn, 1) := by decide +kernel
set_option maxRecDepth 20000 in
theorem ggX4_owed_X4_asksFor : GoodIn wsX4_owed wsX4_asksFor := goodIn_r _ [5, 6, 7, 8, 9, 4, 10, 11, 12, 13, 14, 20, 21, 22, 23, 24, 25, 26, 27, 28, 29, 30, 31, 32, 33, 34, 35, 36, 37, 38, 39, 40, 41, 42] (by decide +kernel) (by decide +kernel)
set_option maxRecDepth 20000 in
theorem gX4_owed_X4_asksFor : GoodIn wsX4_owed (wsV RX4 120 RX4 yX4_asksFor wsX4_asksFor) := goodIn_app (goodIn_of _ (by decide +kernel)) ggX4_owed_X4_asksFor
set_option maxRecDepth 20000 in
theorem ggX4_owed_X4_owedBy : GoodIn wsX4_owed wsX4_owedBy := goodIn_r _ [18, 19, 20, 21, 22, 23, 24, 25, 26, 27, 28, 29, 30, 31, 32, 33, 34, 35, 36, 37, 38, 39, 40, 41, 42] (by decide +kernel) (by decide +kernel)
set_option maxRecDepth 20000 in
theorem gX4_owed_X4_owedBy : GoodIn wsX4_owed (wsV RX4 96 RX4 yX4_owedBy wsX4_owedBy) := goodIn_app (goodIn_of _ (by decide +kernel)) ggX4_owed_X4_owedBy
theorem dX4_owed_0 : decode cX4_owed 0 = .ok (.aload_n 0, 1) := by decide +kernel
theorem dX4_owed_1 : decode cX4_owed 1 = .ok (.iload_n 1, 1) := by decide +kernel
theorem dX4_owed_2 : decode cX4_owed 2 = .ok (.invokevirtual 120, 3) := by decide +kernel
theorem dX4_owed_5 : decode cX4_owed 5 = .ok (.ifCond .eq 11, 3) := by decide +kernel
theorem dX4_owed_8 : decode cX4_owed 8 = .ok (.aload_n 0, 1) := by decide +kernel
theorem dX4_owed_9 : decode cX4_owed 9 = .ok (.iload_n 1, 1) := by decide +kernel
theorem dX4_owed_10 : decode cX4_owed 10 = .ok (.invokevirtual 96, 3) := by decide +kernel
theorem dX4_owed_13 : decode cX4_owed 13 = .ok (.goto 4, 3) := by decide +kernel
theorem dX4_owed_16 : decode cX4_owed 16 = .ok (.iconst 0, 1) := by decide +kernel
theorem dX4_owed_17 : decode cX4_owed 17 = .ok (.ireturn, 1) := by decide +kernel
set_option maxRecDepth 20000 in
theorem ggX4_credit_X4_asksFor : GoodIn wsX4_credit wsX4_asksFor := goodIn_r _ [6, 7, 8, 9, 10, 5, 11, 12, 13, 14, 15, 16, 17, 18, 19, 20, 21, 22, 23, 24, 25, 26, 27, 28, 29, 30, 31, 32, 33, 34, 35, 36, 37, 38] (by decide +kernel) (by decide +kernel)
set_option maxRecDepth 20000 in
theorem gX4_credit_X4_asksFor : GoodIn wsX4_credit (wsV RX4 120 RX4 yX4_asksFor wsX4_asksFor) := goodIn_app (goodIn_of _ (by decide +kernel)) ggX4_credit_X4_asksFor
theorem dX4_credit_0 : decode cX4_credit 0 = .ok (.aload_n 0, 1) := by decide +kernel
theorem dX4_credit_1 : decode cX4_credit 1 = .ok (.iload_n 1, 1) := by decide +kernel
theorem dX4_credit_2 : decode cX4_credit 2 = .ok (.invokevirtual 120, 3) := by decide +kernel
theorem dX4_credit_5 : decode cX4_credit 5 = .ok (.ifCond .eq 12, 3) := by decide +kernel
theorem dX4_credit_8 : decode cX4_credit 8 = .ok (.aload_n 0, 1) := by decide +kernel
theorem dX4_credit_9 : decode cX4_credit 9 = .ok (.getfield 26, 3) := by decide +kernel
theorem dX4_credit_12 : decode cX4_credit 12 = .ok (.iload_n 1, 1) := by decide +kernel
theorem dX4_credit_13 : decode cX4_credit 13 = .ok (.iaload, 1) := by decide +kernel
theorem dX4_credit_14 : decode cX4_credit 14 = .ok (.goto 4, 3) := by decide +kernel
theorem dX4_credit_17 : decode cX4_credit 17 = .ok (.iconst 0, 1) := by decide +kernel
theorem dX4_credit_18 : decode cX4_credit 18 = .ok (.ireturn, 1) := by decide +kernel
set_option maxRecDepth 20000 in
theorem ggX4_laid_X4_isMember : GoodIn wsX4_laid wsX4_isMember := goodIn_r _ [8, 9, 10, 11, 7, 12, 18, 19, 20, 21, 22, 23, 24, 25, 26, 27, 28, 29, 30, 31, 32, 33, 34, 35, 36, 37, 38, 39, 40] (by decide +kernel) (by decide +kernel)
set_option maxRecDepth 20000 in
theorem gX4_laid_X4_isMember : GoodIn wsX4_laid (wsV RX4 93 RX4 yX4_isMember wsX4_isMember) := goodIn_app (goodIn_of _ (by decide +kernel)) ggX4_laid_X4_isMember
set_option maxRecDepth 20000 in
theorem ggX4_laid_X4_hasEnded : GoodIn wsX4_laid wsX4_hasEnded := goodIn_r _ [16, 17, 18, 19, 20, 21, 22, 23, 24, 25, 26, 27, 28, 29, 30, 31, 32, 33, 34, 35, 36, 37, 38, 39, 40] (by decide +kernel) (by decide +kernel)
set_option maxRecDepth 20000 in
theorem gX4_laid_X4_hasEnded : GoodIn wsX4_laid (wsV RX4 117 RX4 yX4_hasEnded wsX4_hasEnded) := goodIn_app (goodIn_of _ (by decide +kernel)) ggX4_laid_X4_hasEnded
theorem dX4_laid_0 : decode cX4_laid 0 = .ok (.aload_n 0, 1) := by decide +kernel
theorem dX4_laid_1 : decode cX4_laid 1 = .ok (.aload_n 0, 1) := by decide +kernel
theorem dX4_laid_2 : decode cX4_laid 2 = .ok (.iload_n 1, 1) := by decide +kernel
theorem dX4_laid_3 : decode cX4_laid 3 = .ok (.invokevirtual 93, 3) := by decide +kernel
theorem dX4_laid_6 : decode cX4_laid 6 = .ok (.ifCond .eq 17, 3) := by decide +kernel
theorem dX4_laid_9 : decode cX4_laid 9 = .ok (.iload_n 2, 1) := by decide +kernel
theorem dX4_laid_10 : decode cX4_laid 10 = .ok (.bipush 60, 2) := by decide +kernel
theorem dX4_laid_12 : decode cX4_laid 12 = .ok (.if_icmp .gt 11, 3) := by decide +kernel
theorem dX4_laid_15 : decode cX4_laid 15 = .ok (.aload_n 0, 1) := by decide +kernel
theorem dX4_laid_16 : decode cX4_laid 16 = .ok (.iload_n 2, 1) := by decide +kernel
theorem dX4_laid_17 : decode cX4_laid 17 = .ok (.invokevirtual 117, 3) := by decide +kernel
theorem dX4_laid_20 : decode cX4_laid 20 = .ok (.ifCond .ne 7, 3) := by decide +kernel
theorem dX4_laid_23 : decode cX4_laid 23 = .ok (.iconst 1, 1) := by decide +kernel
theorem dX4_laid_24 : decode cX4_laid 24 = .ok (.goto 16, 3) := by decide +kernel
theorem dX4_laid_27 : decode cX4_laid 27 = .ok (.iload_n 2, 1) := by decide +kernel
theorem dX4_laid_28 : decode cX4_laid 28 = .ok (.aload_n 0, 1) := by decide +kernel
theorem dX4_laid_29 : decode cX4_laid 29 = .ok (.getfield 66, 3) := by decide +kernel
theorem dX4_laid_32 : decode cX4_laid 32 = .ok (.if_icmp .gt 7, 3) := by decide +kernel
theorem dX4_laid_35 : decode cX4_laid 35 = .ok (.iconst 2, 1) := by decide +kernel
theorem dX4_laid_36 : decode cX4_laid 36 = .ok (.goto 4, 3) := by decide +kernel
theorem dX4_laid_39 : decode cX4_laid 39 = .ok (.iconst 0, 1) := by decide +kernel
theorem dX4_laid_40 : decode cX4_laid 40 = .ok (.putfield 69, 3) := by decide +kernel
theorem dX4_laid_43 : decode cX4_laid 43 = .ok (.aload_n 0, 1) := by decide +kernel
theorem dX4_laid_44 : decode cX4_laid 44 = .ok (.getfield 69, 3) := by decide +kernel
theorem dX4_laid_47 : decode cX4_laid 47 = .ok (.ifCond .ne 17, 3) := by decide +kernel
theorem dX4_laid_50 : decode cX4_laid 50 = .ok (.aload_n 0, 1) := by decide +kernel
theorem dX4_laid_51 : decode cX4_laid 51 = .ok (.getfield 35, 3) := by decide +kernel
theorem dX4_laid_54 : decode cX4_laid 54 = .ok (.bipush 60, 2) := by decide +kernel
theorem dX4_laid_56 : decode cX4_laid 56 = .ok (.iload_n 1, 1) := by decide +kernel
theorem dX4_laid_57 : decode cX4_laid 57 = .ok (.imul, 1) := by decide +kernel
theorem dX4_laid_58 : decode cX4_laid 58 = .ok (.iload_n 2, 1) := by decide +kernel
theorem dX4_laid_59 : decode cX4_laid 59 = .ok (.iadd, 1) := by decide +kernel
theorem dX4_laid_60 : decode cX4_laid 60 = .ok (.iaload, 1) := by decide +kernel
theorem dX4_laid_61 : decode cX4_laid 61 = .ok (.goto 4, 3) := by decide +kernel
theorem dX4_laid_64 : decode cX4_laid 64 = .ok (.iconst 0, 1) := by decide +kernel
theorem dX4_laid_65 : decode cX4_laid 65 = .ok (.ireturn, 1) := by decide +kernel
set_option maxRecDepth 20000 in
theorem ggX4_laidFor_X4_isBranch : GoodIn wsX4_laidFor wsX4_isBranch := goodIn_r _ [6, 7, 8, 5, 9] (by decide +kernel) (by decide +kernel)
set_option maxRecDepth 20000 in
theorem gX4_laidFor_X4_isBranch : GoodIn wsX4_laidFor (va_wsS RX4 90 yX4_isBranch wsX4_isBranch) := goodIn_app (goodIn_of _ (by decide +kernel)) ggX4_laidFor_X4_isBranch
set_option maxRecDepth 20000 in
theorem ggX4_laidFor_X4_hasEnded : GoodIn wsX4_laidFor wsX4_hasEnded := goodIn_r _ [13, 14, 15, 16, 17, 18, 19, 20, 21, 22, 23, 24, 25, 26, 27, 28, 29, 30, 31, 32, 33, 34, 35, 36, 37] (by decide +kernel) (by decide +kernel)
set_option maxRecDepth 20000 in
theorem gX4_laidFor_X4_hasEnded : GoodIn wsX4_laidFor (wsV RX4 117 RX4 yX4_hasEnded wsX4_hasEnded) := goodIn_app (goodIn_of _ (by decide +kernel)) ggX4_laidFor_X4_hasEnded
theorem dX4_laidFor_0 : decode cX4_laidFor 0 = .ok (.aload_n 0, 1) := by decide +kernel
theorem dX4_laidFor_1 : decode cX4_laidFor 1 = .ok (.iload_n 1, 1) := by decide +kernel
theorem dX4_laidFor_2 : decode cX4_laidFor 2 = .ok (.invokestatic 90, 3) := by decide +kernel
theorem dX4_laidFor_5 : decode cX4_laidFor 5 = .ok (.ifCond .eq 17, 3) := by decide +kernel
theorem dX4_laidFor_8 : decode cX4_laidFor 8 = .ok (.iload_n 2, 1) := by decide +kernel
theorem dX4_laidFor_9 : decode cX4_laidFor 9 = .ok (.bipush 60, 2) := by decide +kernel
theorem dX4_laidFor_11 : decode cX4_laidFor 11 = .ok (.if_icmp .gt 11, 3) := by decide +kernel
theorem dX4_laidFor_14 : decode cX4_laidFor 14 = .ok (.aload_n 0, 1) := by decide +kernel
theorem dX4_laidFor_15 : decode cX4_laidFor 15 = .ok (.iload_n 2, 1) := by decide +kernel
theorem dX4_laidFor_16 : decode cX4_laidFor 16 = .ok (.invokevirtual 117, 3) := by decide +kernel
theorem dX4_laidFor_19 : decode cX4_laidFor 19 = .ok (.ifCond .ne 7, 3) := by decide +kernel
theorem dX4_laidFor_22 : decode cX4_laidFor 22 = .ok (.iconst 1, 1) := by decide +kernel
theorem dX4_laidFor_23 : decode cX4_laidFor 23 = .ok (.goto 4, 3) := by decide +kernel
theorem dX4_laidFor_26 : decode cX4_laidFor 26 = .ok (.iconst 0, 1) := by decide +kernel
theorem dX4_laidFor_27 : decode cX4_laidFor 27 = .ok (.putfield 69, 3) := by decide +kernel
theorem dX4_laidFor_30 : decode cX4_laidFor 30 = .ok (.aload_n 0, 1) := by decide +kernel
theorem dX4_laidFor_31 : decode cX4_laidFor 31 = .ok (.getfield 69, 3) := by decide +kernel
theorem dX4_laidFor_34 : decode cX4_laidFor 34 = .ok (.ifCond .ne 17, 3) := by decide +kernel
theorem dX4_laidFor_37 : decode cX4_laidFor 37 = .ok (.aload_n 0, 1) := by decide +kernel
theorem dX4_laidFor_38 : decode cX4_laidFor 38 = .ok (.getfield 38, 3) := by decide +kernel
theorem dX4_laidFor_41 : decode cX4_laidFor 41 = .ok (.bipush 60, 2) := by decide +kernel
theorem dX4_laidFor_43 : decode cX4_laidFor 43 = .ok (.iload_n 1, 1) := by decide +kernel
theorem dX4_laidFor_44 : decode cX4_laidFor 44 = .ok (.imul, 1) := by decide +kernel
theorem dX4_laidFor_45 : decode cX4_laidFor 45 = .ok (.iload_n 2, 1) := by decide +kernel
theorem dX4_laidFor_46 : decode cX4_laidFor 46 = .ok (.iadd, 1) := by decide +kernel
theorem dX4_laidFor_47 : decode cX4_laidFor 47 = .ok (.iaload, 1) := by decide +kernel
theorem dX4_laidFor_48 : decode cX4_laidFor 48 = .ok (.goto 4, 3) := by decide +kernel
theorem dX4_laidFor_51 : decode cX4_laidFor 51 = .ok (.iconst 0, 1) := by decide +kernel
theorem dX4_laidFor_52 : decode cX4_laidFor 52 = .ok (.ireturn, 1) := by decide +kernel
set_option maxRecDepth 20000 in
theorem ggX4_hasStanding_X4_asksFor : GoodIn wsX4_hasStanding wsX4_asksFor := goodIn_r _ [5, 6, 7, 8, 9, 4, 10, 11, 12, 13, 14, 22, 23, 24, 25, 26, 27, 28, 29, 30, 31, 32, 33, 34, 35, 36, 37, 38, 39, 40, 41, 42, 43, 44] (by decide +kernel) (by decide +kernel)
set_option maxRecDepth 20000 in
theorem gX4_hasStanding_X4_asksFor : GoodIn wsX4_hasStanding (wsV RX4 120 RX4 yX4_asksFor wsX4_asksFor) := goodIn_app (goodIn_of _ (by decide +kernel)) ggX4_hasStanding_X4_asksFor
set_option maxRecDepth 20000 in
theorem ggX4_hasStanding_X4_stands : GoodIn wsX4_hasStanding wsX4_stands := goodIn_r _ [18, 19, 20, 21, 22, 23, 24, 25, 26, 27, 28, 29, 30, 31, 32, 33, 34, 35, 36, 37, 38, 39, 40, 41, 42, 43, 44] (by decide +kernel) (by decide +kernel)
set_option maxRecDepth 20000 in
theorem gX4_hasStanding_X4_stands : GoodIn wsX4_hasStanding (wsV RX4 82 RX4 yX4_stands wsX4_stands) := goodIn_app (goodIn_of _ (by decide +kernel)) ggX4_hasStanding_X4_stands
theorem dX4_hasStanding_0 : decode cX4_hasStanding 0 = .ok (.aload_n 0, 1) := by decide +kernel
theorem dX4_hasStanding_1 : decode cX4_hasStanding 1 = .ok (.iload_n 1, 1) := by decide +kernel
theorem dX4_hasStanding_2 : decode cX4_hasStanding 2 = .ok (.invokevirtual 120, 3) := by decide +kernel
theorem dX4_hasStanding_5 : decode cX4_hasStanding 5 = .ok (.ifCond .eq 15, 3) := by decide +kernel
theorem dX4_hasStanding_8 : decode cX4_hasStanding 8 = .ok (.aload_n 0, 1) := by decide +kernel
theorem dX4_hasStanding_9 : decode cX4_hasStanding 9 = .ok (.iload_n 1, 1) := by decide +kernel
theorem dX4_hasStanding_10 : decode cX4_hasStanding 10 = .ok (.invokevirtual 82, 3) := by decide +kernel
theorem dX4_hasStanding_13 : decode cX4_hasStanding 13 = .ok (.ifCond .eq 7, 3) := by decide +kernel
theorem dX4_hasStanding_16 : decode cX4_hasStanding 16 = .ok (.iconst 1, 1) := by decide +kernel
theorem dX4_hasStanding_17 : decode cX4_hasStanding 17 = .ok (.goto 4, 3) := by decide +kernel
theorem dX4_hasStanding_20 : decode cX4_hasStanding 20 = .ok (.iconst 0, 1) := by decide +kernel
theorem dX4_hasStanding_21 : decode cX4_hasStanding 21 = .ok (.ireturn, 1) := by decide +kernel
set_option maxRecDepth 20000 in
theorem ggX4_strikePay_X4_asksFor : GoodIn wsX4_strikePay wsX4_asksFor := goodIn_r _ [6, 7, 8, 9, 10, 5, 11, 12, 13, 14, 15, 16, 17, 18, 19, 20, 21, 22, 23, 24, 25, 26, 27, 28, 29, 30, 31, 32, 33, 34, 35, 36, 37, 38] (by decide +kernel) (by decide +kernel)
set_option maxRecDepth 20000 in
theorem gX4_strikePay_X4_asksFor : GoodIn wsX4_strikePay (wsV RX4 120 RX4 yX4_asksFor wsX4_asksFor) := goodIn_app (goodIn_of _ (by decide +kernel)) ggX4_strikePay_X4_asksFor
theorem dX4_strikePay_0 : decode cX4_strikePay 0 = .ok (.aload_n 0, 1) := by decide +kernel
theorem dX4_strikePay_1 : decode cX4_strikePay 1 = .ok (.iload_n 1, 1) := by decide +kernel
theorem dX4_strikePay_2 : decode cX4_strikePay 2 = .ok (.invokevirtual 120, 3) := by decide +kernel
theorem dX4_strikePay_5 : decode cX4_strikePay 5 = .ok (.ifCond .eq 12, 3) := by decide +kernel
theorem dX4_strikePay_8 : decode cX4_strikePay 8 = .ok (.aload_n 0, 1) := by decide +kernel
theorem dX4_strikePay_9 : decode cX4_strikePay 9 = .ok (.getfield 29, 3) := by decide +kernel
theorem dX4_strikePay_12 : decode cX4_strikePay 12 = .ok (.iload_n 1, 1) := by decide +kernel
theorem dX4_strikePay_13 : decode cX4_strikePay 13 = .ok (.iaload, 1) := by decide +kernel
theorem dX4_strikePay_14 : decode cX4_strikePay 14 = .ok (.goto 4, 3) := by decide +kernel
theorem dX4_strikePay_17 : decode cX4_strikePay 17 = .ok (.iconst 0, 1) := by decide +kernel
theorem dX4_strikePay_18 : decode cX4_strikePay 18 = .ok (.ireturn, 1) := by decide +kernel
set_option maxRecDepth 20000 in
theorem ggX4_delegates_X4_isBranch : GoodIn wsX4_delegates wsX4_isBranch := goodIn_r _ [6, 7, 8, 5, 9] (by decide +kernel) (by decide +kernel)
set_option maxRecDepth 20000 in
theorem gX4_delegates_X4_isBranch : GoodIn wsX4_delegates (va_wsS RX4 90 yX4_isBranch wsX4_isBranch) := goodIn_app (goodIn_of _ (by decide +kernel)) ggX4_delegates_X4_isBranch
theorem dX4_delegates_0 : decode cX4_delegates 0 = .ok (.aload_n 0, 1) := by decide +kernel
theorem dX4_delegates_1 : decode cX4_delegates 1 = .ok (.iload_n 1, 1) := by decide +kernel
theorem dX4_delegates_2 : decode cX4_delegates 2 = .ok (.invokestatic 90, 3) := by decide +kernel
theorem dX4_delegates_5 : decode cX4_delegates 5 = .ok (.ifCond .eq 7, 3) := by decide +kernel
theorem dX4_delegates_8 : decode cX4_delegates 8 = .ok (.iconst 0, 1) := by decide +kernel
theorem dX4_delegates_9 : decode cX4_delegates 9 = .ok (.goto 4, 3) := by decide +kernel
theorem dX4_delegates_12 : decode cX4_delegates 12 = .ok (.iconst 1, 1) := by decide +kernel
theorem dX4_delegates_13 : decode cX4_delegates 13 = .ok (.putfield 69, 3) := by decide +kernel
theorem dX4_delegates_16 : decode cX4_delegates 16 = .ok (.aload_n 0, 1) := by decide +kernel
theorem dX4_delegates_17 : decode cX4_delegates 17 = .ok (.getfield 69, 3) := by decide +kernel
theorem dX4_delegates_20 : decode cX4_delegates 20 = .ok (.ifCond .ne 12, 3) := by decide +kernel
theorem dX4_delegates_23 : decode cX4_delegates 23 = .ok (.aload_n 0, 1) := by decide +kernel
theorem dX4_delegates_24 : decode cX4_delegates 24 = .ok (.getfield 59, 3) := by decide +kernel
theorem dX4_delegates_27 : decode cX4_delegates 27 = .ok (.iload_n 1, 1) := by decide +kernel
theorem dX4_delegates_28 : decode cX4_delegates 28 = .ok (.iaload, 1) := by decide +kernel
theorem dX4_delegates_29 : decode cX4_delegates 29 = .ok (.goto 4, 3) := by decide +kernel
theorem dX4_delegates_32 : decode cX4_delegates 32 = .ok (.iconst 0, 1) := by decide +kernel
theorem dX4_delegates_33 : decode cX4_delegates 33 = .ok (.ireturn, 1) := by decide +kernel
set_option maxRecDepth 20000 in
theorem ggX4_isOut_X4_isBranch : GoodIn wsX4_isOut wsX4_isBranch := goodIn_r _ [6, 7, 8, 5, 9] (by decide +kernel) (by decide +kernel)
set_option maxRecDepth 20000 in
theorem gX4_isOut_X4_isBranch : GoodIn wsX4_isOut (va_wsS RX4 90 yX4_isBranch wsX4_isBranch) := goodIn_app (goodIn_of _ (by decide +kernel)) ggX4_isOut_X4_isBranch
