theorem dX3_find_59 : decode cX3_find 59 = .ok (.iload_n 2, 1) := by decide +kernel
theorem dX3_find_60 : decode cX3_find 60 = .ok (.aload_n 0, 1) := by decide +kernel
theorem dX3_find_61 : decode cX3_find 61 = .ok (.getfield 25, 3) := by decide +kernel
theorem dX3_find_64 : decode cX3_find 64 = .ok (.iload_n 2, 1) := by decide +kernel
theorem dX3_find_65 : decode cX3_find 65 = .ok (.iaload, 1) := by decide +kernel
theorem dX3_find_66 : decode cX3_find 66 = .ok (.aload_n 0, 1) := by decide +kernel
theorem dX3_find_67 : decode cX3_find 67 = .ok (.getfield 13, 3) := by decide +kernel
theorem dX3_find_70 : decode cX3_find 70 = .ok (.iload_n 2, 1) := by decide +kernel
theorem dX3_find_71 : decode cX3_find 71 = .ok (.iaload, 1) := by decide +kernel
theorem dX3_find_72 : decode cX3_find 72 = .ok (.iadd, 1) := by decide +kernel
theorem dX3_find_73 : decode cX3_find 73 = .ok (.iastore, 1) := by decide +kernel
theorem dX3_find_74 : decode cX3_find 74 = .ok (.aload_n 0, 1) := by decide +kernel
theorem dX3_find_75 : decode cX3_find 75 = .ok (.getfield 35, 3) := by decide +kernel
theorem dX3_find_78 : decode cX3_find 78 = .ok (.bipush 96, 2) := by decide +kernel
theorem dX3_find_80 : decode cX3_find 80 = .ok (.iload_n 2, 1) := by decide +kernel
theorem dX3_find_81 : decode cX3_find 81 = .ok (.imul, 1) := by decide +kernel
theorem dX3_find_82 : decode cX3_find 82 = .ok (.iaload, 1) := by decide +kernel
theorem dX3_find_83 : decode cX3_find 83 = .ok (.aload_n 0, 1) := by decide +kernel
theorem dX3_find_84 : decode cX3_find 84 = .ok (.getfield 25, 3) := by decide +kernel
theorem dX3_find_87 : decode cX3_find 87 = .ok (.iload_n 2, 1) := by decide +kernel
theorem dX3_find_88 : decode cX3_find 88 = .ok (.iaload, 1) := by decide +kernel
theorem dX3_find_89 : decode cX3_find 89 = .ok (.if_icmp .gt 5, 3) := by decide +kernel
theorem dX3_find_92 : decode cX3_find 92 = .ok (.iload_n 2, 1) := by decide +kernel
theorem dX3_find_93 : decode cX3_find 93 = .ok (.ireturn, 1) := by decide +kernel
theorem dX3_find_94 : decode cX3_find 94 = .ok (.aload_n 0, 1) := by decide +kernel
theorem dX3_find_95 : decode cX3_find 95 = .ok (.getfield 28, 3) := by decide +kernel
theorem dX3_find_98 : decode cX3_find 98 = .ok (.iload_n 2, 1) := by decide +kernel
theorem dX3_find_99 : decode cX3_find 99 = .ok (.iconst 0, 1) := by decide +kernel
theorem dX3_find_100 : decode cX3_find 100 = .ok (.bastore, 1) := by decide +kernel
theorem dX3_find_101 : decode cX3_find 101 = .ok (.iconst 1, 1) := by decide +kernel
theorem dX3_find_102 : decode cX3_find 102 = .ok (.istore_n 3, 1) := by decide +kernel
theorem dX3_find_103 : decode cX3_find 103 = .ok (.iload_n 3, 1) := by decide +kernel
theorem dX3_find_104 : decode cX3_find 104 = .ok (.aload_n 0, 1) := by decide +kernel
theorem dX3_find_105 : decode cX3_find 105 = .ok (.getfield 53, 3) := by decide +kernel
theorem dX3_find_108 : decode cX3_find 108 = .ok (.iload_n 1, 1) := by decide +kernel
theorem dX3_find_109 : decode cX3_find 109 = .ok (.iaload, 1) := by decide +kernel
theorem dX3_find_110 : decode cX3_find 110 = .ok (.if_icmp .ge 33, 3) := by decide +kernel
theorem dX3_find_113 : decode cX3_find 113 = .ok (.aload_n 0, 1) := by decide +kernel
theorem dX3_find_114 : decode cX3_find 114 = .ok (.getfield 50, 3) := by decide +kernel
theorem dX3_find_117 : decode cX3_find 117 = .ok (.bipush 12, 2) := by decide +kernel
theorem dX3_find_119 : decode cX3_find 119 = .ok (.iload_n 1, 1) := by decide +kernel
theorem dX3_find_120 : decode cX3_find 120 = .ok (.imul, 1) := by decide +kernel
theorem dX3_find_121 : decode cX3_find 121 = .ok (.iload_n 3, 1) := by decide +kernel
theorem dX3_find_122 : decode cX3_find 122 = .ok (.iadd, 1) := by decide +kernel
theorem dX3_find_123 : decode cX3_find 123 = .ok (.iconst 1, 1) := by decide +kernel
theorem dX3_find_124 : decode cX3_find 124 = .ok (.isub, 1) := by decide +kernel
theorem dX3_find_125 : decode cX3_find 125 = .ok (.aload_n 0, 1) := by decide +kernel
theorem dX3_find_126 : decode cX3_find 126 = .ok (.getfield 50, 3) := by decide +kernel
theorem dX3_find_129 : decode cX3_find 129 = .ok (.bipush 12, 2) := by decide +kernel
theorem dX3_find_131 : decode cX3_find 131 = .ok (.iload_n 1, 1) := by decide +kernel
theorem dX3_find_132 : decode cX3_find 132 = .ok (.imul, 1) := by decide +kernel
theorem dX3_find_133 : decode cX3_find 133 = .ok (.iload_n 3, 1) := by decide +kernel
theorem dX3_find_134 : decode cX3_find 134 = .ok (.iadd, 1) := by decide +kernel
theorem dX3_find_135 : decode cX3_find 135 = .ok (.iaload, 1) := by decide +kernel
theorem dX3_find_136 : decode cX3_find 136 = .ok (.iastore, 1) := by decide +kernel
theorem dX3_find_137 : decode cX3_find 137 = .ok (.iinc 3 1, 3) := by decide +kernel
theorem dX3_find_140 : decode cX3_find 140 = .ok (.goto (-37), 3) := by decide +kernel
theorem dX3_find_143 : decode cX3_find 143 = .ok (.aload_n 0, 1) := by decide +kernel
theorem dX3_find_144 : decode cX3_find 144 = .ok (.getfield 50, 3) := by decide +kernel
theorem dX3_find_147 : decode cX3_find 147 = .ok (.bipush 12, 2) := by decide +kernel
theorem dX3_find_149 : decode cX3_find 149 = .ok (.iload_n 1, 1) := by decide +kernel
theorem dX3_find_150 : decode cX3_find 150 = .ok (.imul, 1) := by decide +kernel
theorem dX3_find_151 : decode cX3_find 151 = .ok (.aload_n 0, 1) := by decide +kernel
theorem dX3_find_152 : decode cX3_find 152 = .ok (.getfield 53, 3) := by decide +kernel
theorem dX3_find_155 : decode cX3_find 155 = .ok (.iload_n 1, 1) := by decide +kernel
theorem dX3_find_156 : decode cX3_find 156 = .ok (.iaload, 1) := by decide +kernel
theorem dX3_find_157 : decode cX3_find 157 = .ok (.iadd, 1) := by decide +kernel
theorem dX3_find_158 : decode cX3_find 158 = .ok (.iconst 1, 1) := by decide +kernel
theorem dX3_find_159 : decode cX3_find 159 = .ok (.isub, 1) := by decide +kernel
theorem dX3_find_160 : decode cX3_find 160 = .ok (.iload_n 2, 1) := by decide +kernel
theorem dX3_find_161 : decode cX3_find 161 = .ok (.iastore, 1) := by decide +kernel
theorem dX3_find_162 : decode cX3_find 162 = .ok (.goto (-133), 3) := by decide +kernel
theorem dX3_keepTurns_0 : decode cX3_keepTurns 0 = .ok (.iconst 0, 1) := by decide +kernel
theorem dX3_keepTurns_1 : decode cX3_keepTurns 1 = .ok (.istore_n 1, 1) := by decide +kernel
theorem dX3_keepTurns_2 : decode cX3_keepTurns 2 = .ok (.iload_n 1, 1) := by decide +kernel
theorem dX3_keepTurns_3 : decode cX3_keepTurns 3 = .ok (.bipush 12, 2) := by decide +kernel
theorem dX3_keepTurns_5 : decode cX3_keepTurns 5 = .ok (.if_icmp .ge 33, 3) := by decide +kernel
theorem dX3_keepTurns_8 : decode cX3_keepTurns 8 = .ok (.aload_n 0, 1) := by decide +kernel
theorem dX3_keepTurns_9 : decode cX3_keepTurns 9 = .ok (.getfield 56, 3) := by decide +kernel
theorem dX3_keepTurns_12 : decode cX3_keepTurns 12 = .ok (.iload_n 1, 1) := by decide +kernel
theorem dX3_keepTurns_13 : decode cX3_keepTurns 13 = .ok (.aload_n 0, 1) := by decide +kernel
theorem dX3_keepTurns_14 : decode cX3_keepTurns 14 = .ok (.getfield 25, 3) := by decide +kernel
theorem dX3_keepTurns_17 : decode cX3_keepTurns 17 = .ok (.iload_n 1, 1) := by decide +kernel
theorem dX3_keepTurns_18 : decode cX3_keepTurns 18 = .ok (.iaload, 1) := by decide +kernel
theorem dX3_keepTurns_19 : decode cX3_keepTurns 19 = .ok (.iastore, 1) := by decide +kernel
theorem dX3_keepTurns_20 : decode cX3_keepTurns 20 = .ok (.aload_n 0, 1) := by decide +kernel
theorem dX3_keepTurns_21 : decode cX3_keepTurns 21 = .ok (.getfield 59, 3) := by decide +kernel
theorem dX3_keepTurns_24 : decode cX3_keepTurns 24 = .ok (.iload_n 1, 1) := by decide +kernel
theorem dX3_keepTurns_25 : decode cX3_keepTurns 25 = .ok (.aload_n 0, 1) := by decide +kernel
theorem dX3_keepTurns_26 : decode cX3_keepTurns 26 = .ok (.getfield 28, 3) := by decide +kernel
theorem dX3_keepTurns_29 : decode cX3_keepTurns 29 = .ok (.iload_n 1, 1) := by decide +kernel
theorem dX3_keepTurns_30 : decode cX3_keepTurns 30 = .ok (.baload, 1) := by decide +kernel
theorem dX3_keepTurns_31 : decode cX3_keepTurns 31 = .ok (.bastore, 1) := by decide +kernel
theorem dX3_keepTurns_32 : decode cX3_keepTurns 32 = .ok (.iinc 1 1, 3) := by decide +kernel
theorem dX3_keepTurns_35 : decode cX3_keepTurns 35 = .ok (.goto (-33), 3) := by decide +kernel
theorem dX3_keepTurns_38 : decode cX3_keepTurns 38 = .ok (.iconst 0, 1) := by decide +kernel
theorem dX3_keepTurns_39 : decode cX3_keepTurns 39 = .ok (.istore_n 1, 1) := by decide +kernel
theorem dX3_keepTurns_40 : decode cX3_keepTurns 40 = .ok (.iload_n 1, 1) := by decide +kernel
theorem dX3_keepTurns_41 : decode cX3_keepTurns 41 = .ok (.bipush 48, 2) := by decide +kernel
theorem dX3_keepTurns_43 : decode cX3_keepTurns 43 = .ok (.if_icmp .ge 21, 3) := by decide +kernel
theorem dX3_keepTurns_46 : decode cX3_keepTurns 46 = .ok (.aload_n 0, 1) := by decide +kernel
theorem dX3_keepTurns_47 : decode cX3_keepTurns 47 = .ok (.getfield 62, 3) := by decide +kernel
theorem dX3_keepTurns_50 : decode cX3_keepTurns 50 = .ok (.iload_n 1, 1) := by decide +kernel
theorem dX3_keepTurns_51 : decode cX3_keepTurns 51 = .ok (.aload_n 0, 1) := by decide +kernel
theorem dX3_keepTurns_52 : decode cX3_keepTurns 52 = .ok (.getfield 50, 3) := by decide +kernel
theorem dX3_keepTurns_55 : decode cX3_keepTurns 55 = .ok (.iload_n 1, 1) := by decide +kernel
theorem dX3_keepTurns_56 : decode cX3_keepTurns 56 = .ok (.iaload, 1) := by decide +kernel
theorem dX3_keepTurns_57 : decode cX3_keepTurns 57 = .ok (.iastore, 1) := by decide +kernel
theorem dX3_keepTurns_58 : decode cX3_keepTurns 58 = .ok (.iinc 1 1, 3) := by decide +kernel
theorem dX3_keepTurns_61 : decode cX3_keepTurns 61 = .ok (.goto (-21), 3) := by decide +kernel
theorem dX3_keepTurns_64 : decode cX3_keepTurns 64 = .ok (.return_, 1) := by decide +kernel
theorem dX3_turnBack_0 : decode cX3_turnBack 0 = .ok (.iconst 0, 1) := by decide +kernel
theorem dX3_turnBack_1 : decode cX3_turnBack 1 = .ok (.istore_n 1, 1) := by decide +kernel
theorem dX3_turnBack_2 : decode cX3_turnBack 2 = .ok (.iload_n 1, 1) := by decide +kernel
theorem dX3_turnBack_3 : decode cX3_turnBack 3 = .ok (.bipush 12, 2) := by decide +kernel
theorem dX3_turnBack_5 : decode cX3_turnBack 5 = .ok (.if_icmp .ge 33, 3) := by decide +kernel
theorem dX3_turnBack_8 : decode cX3_turnBack 8 = .ok (.aload_n 0, 1) := by decide +kernel
theorem dX3_turnBack_9 : decode cX3_turnBack 9 = .ok (.getfield 25, 3) := by decide +kernel
theorem dX3_turnBack_12 : decode cX3_turnBack 12 = .ok (.iload_n 1, 1) := by decide +kernel
theorem dX3_turnBack_13 : decode cX3_turnBack 13 = .ok (.aload_n 0, 1) := by decide +kernel
theorem dX3_turnBack_14 : decode cX3_turnBack 14 = .ok (.getfield 56, 3) := by decide +kernel
theorem dX3_turnBack_17 : decode cX3_turnBack 17 = .ok (.iload_n 1, 1) := by decide +kernel
theorem dX3_turnBack_18 : decode cX3_turnBack 18 = .ok (.iaload, 1) := by decide +kernel
theorem dX3_turnBack_19 : decode cX3_turnBack 19 = .ok (.iastore, 1) := by decide +kernel
theorem dX3_turnBack_20 : decode cX3_turnBack 20 = .ok (.aload_n 0, 1) := by decide +kernel
theorem dX3_turnBack_21 : decode cX3_turnBack 21 = .ok (.getfield 28, 3) := by decide +kernel
theorem dX3_turnBack_24 : decode cX3_turnBack 24 = .ok (.iload_n 1, 1) := by decide +kernel
theorem dX3_turnBack_25 : decode cX3_turnBack 25 = .ok (.aload_n 0, 1) := by decide +kernel
theorem dX3_turnBack_26 : decode cX3_turnBack 26 = .ok (.getfield 59, 3) := by decide +kernel
theorem dX3_turnBack_29 : decode cX3_turnBack 29 = .ok (.iload_n 1, 1) := by decide +kernel
theorem dX3_turnBack_30 : decode cX3_turnBack 30 = .ok (.baload, 1) := by decide +kernel
theorem dX3_turnBack_31 : decode cX3_turnBack 31 = .ok (.bastore, 1) := by decide +kernel
theorem dX3_turnBack_32 : decode cX3_turnBack 32 = .ok (.iinc 1 1, 3) := by decide +kernel
theorem dX3_turnBack_35 : decode cX3_turnBack 35 = .ok (.goto (-33), 3) := by decide +kernel
theorem dX3_turnBack_38 : decode cX3_turnBack 38 = .ok (.iconst 0, 1) := by decide +kernel
theorem dX3_turnBack_39 : decode cX3_turnBack 39 = .ok (.istore_n 1, 1) := by decide +kernel
theorem dX3_turnBack_40 : decode cX3_turnBack 40 = .ok (.iload_n 1, 1) := by decide +kernel
theorem dX3_turnBack_41 : decode cX3_turnBack 41 = .ok (.bipush 48, 2) := by decide +kernel
theorem dX3_turnBack_43 : decode cX3_turnBack 43 = .ok (.if_icmp .ge 21, 3) := by decide +kernel
theorem dX3_turnBack_46 : decode cX3_turnBack 46 = .ok (.aload_n 0, 1) := by decide +kernel
theorem dX3_turnBack_47 : decode cX3_turnBack 47 = .ok (.getfield 50, 3) := by decide +kernel
theorem dX3_turnBack_50 : decode cX3_turnBack 50 = .ok (.iload_n 1, 1) := by decide +kernel
theorem dX3_turnBack_51 : decode cX3_turnBack 51 = .ok (.aload_n 0, 1) := by decide +kernel
theorem dX3_turnBack_52 : decode cX3_turnBack 52 = .ok (.getfield 62, 3) := by decide +kernel
theorem dX3_turnBack_55 : decode cX3_turnBack 55 = .ok (.iload_n 1, 1) := by decide +kernel
theorem dX3_turnBack_56 : decode cX3_turnBack 56 = .ok (.iaload, 1) := by decide +kernel
theorem dX3_turnBack_57 : decode cX3_turnBack 57 = .ok (.iastore, 1) := by decide +kernel
theorem dX3_turnBack_58 : decode cX3_turnBack 58 = .ok (.iinc 1 1, 3) := by decide +kernel
theorem dX3_turnBack_61 : decode cX3_turnBack 61 = .ok (.goto (-21), 3) := by decide +kernel
theorem dX3_turnBack_64 : decode cX3_turnBack 64 = .ok (.return_, 1) := by decide +kernel
set_option maxRecDepth 20000 in
theorem ggX3_take_X3_settle : GoodIn wsX3_take wsX3_settle := goodIn_r _ [12, 7, 4, 13, 14, 15, 11, 16, 17, 18, 19, 20, 21, 22, 23, 24, 25, 26, 27, 28, 29, 30, 31, 32, 33, 34, 35, 36, 37, 38, 39, 40, 41, 42, 43, 44, 45, 46] (by decide +kernel) (by decide +kernel)
set_option maxRecDepth 20000 in
theorem gX3_take_X3_settle : GoodIn wsX3_take (wsV RX3 106 RX3 yX3_settle wsX3_settle) := goodIn_app (goodIn_of _ (by decide +kernel)) ggX3_take_X3_settle
theorem dX3_take_0 : decode cX3_take 0 = .ok (.aload_n 0, 1) := by decide +kernel
theorem dX3_take_1 : decode cX3_take 1 = .ok (.getfield 35, 3) := by decide +kernel
theorem dX3_take_4 : decode cX3_take 4 = .ok (.bipush 96, 2) := by decide +kernel
theorem dX3_take_6 : decode cX3_take 6 = .ok (.iload_n 1, 1) := by decide +kernel
theorem dX3_take_7 : decode cX3_take 7 = .ok (.imul, 1) := by decide +kernel
theorem dX3_take_8 : decode cX3_take 8 = .ok (.iaload, 1) := by decide +kernel
theorem dX3_take_9 : decode cX3_take 9 = .ok (.istore_n 2, 1) := by decide +kernel
theorem dX3_take_10 : decode cX3_take 10 = .ok (.aload_n 0, 1) := by decide +kernel
theorem dX3_take_11 : decode cX3_take 11 = .ok (.aload_n 0, 1) := by decide +kernel
theorem dX3_take_12 : decode cX3_take 12 = .ok (.getfield 32, 3) := by decide +kernel
theorem dX3_take_15 : decode cX3_take 15 = .ok (.bipush 96, 2) := by decide +kernel
theorem dX3_take_17 : decode cX3_take 17 = .ok (.iload_n 1, 1) := by decide +kernel
theorem dX3_take_18 : decode cX3_take 18 = .ok (.imul, 1) := by decide +kernel
theorem dX3_take_19 : decode cX3_take 19 = .ok (.iaload, 1) := by decide +kernel
theorem dX3_take_20 : decode cX3_take 20 = .ok (.putfield 109, 3) := by decide +kernel
theorem dX3_take_23 : decode cX3_take 23 = .ok (.aload_n 0, 1) := by decide +kernel
theorem dX3_take_24 : decode cX3_take 24 = .ok (.getfield 25, 3) := by decide +kernel
theorem dX3_take_27 : decode cX3_take 27 = .ok (.iload_n 1, 1) := by decide +kernel
theorem dX3_take_28 : decode cX3_take 28 = .ok (.aload_n 0, 1) := by decide +kernel
theorem dX3_take_29 : decode cX3_take 29 = .ok (.getfield 25, 3) := by decide +kernel
theorem dX3_take_32 : decode cX3_take 32 = .ok (.iload_n 1, 1) := by decide +kernel
theorem dX3_take_33 : decode cX3_take 33 = .ok (.iaload, 1) := by decide +kernel
theorem dX3_take_34 : decode cX3_take 34 = .ok (.iload_n 2, 1) := by decide +kernel
theorem dX3_take_35 : decode cX3_take 35 = .ok (.isub, 1) := by decide +kernel
theorem dX3_take_36 : decode cX3_take 36 = .ok (.iastore, 1) := by decide +kernel
theorem dX3_take_37 : decode cX3_take 37 = .ok (.aload_n 0, 1) := by decide +kernel
theorem dX3_take_38 : decode cX3_take 38 = .ok (.getfield 44, 3) := by decide +kernel
theorem dX3_take_41 : decode cX3_take 41 = .ok (.iload_n 1, 1) := by decide +kernel
theorem dX3_take_42 : decode cX3_take 42 = .ok (.dup2, 1) := by decide +kernel
theorem dX3_take_43 : decode cX3_take 43 = .ok (.iaload, 1) := by decide +kernel
theorem dX3_take_44 : decode cX3_take 44 = .ok (.iconst 1, 1) := by decide +kernel
theorem dX3_take_45 : decode cX3_take 45 = .ok (.iadd, 1) := by decide +kernel
theorem dX3_take_46 : decode cX3_take 46 = .ok (.iastore, 1) := by decide +kernel
theorem dX3_take_47 : decode cX3_take 47 = .ok (.aload_n 0, 1) := by decide +kernel
theorem dX3_take_48 : decode cX3_take 48 = .ok (.getfield 47, 3) := by decide +kernel
theorem dX3_take_51 : decode cX3_take 51 = .ok (.iload_n 1, 1) := by decide +kernel
theorem dX3_take_52 : decode cX3_take 52 = .ok (.aload_n 0, 1) := by decide +kernel
theorem dX3_take_53 : decode cX3_take 53 = .ok (.getfield 47, 3) := by decide +kernel
theorem dX3_take_56 : decode cX3_take 56 = .ok (.iload_n 1, 1) := by decide +kernel
theorem dX3_take_57 : decode cX3_take 57 = .ok (.iaload, 1) := by decide +kernel
theorem dX3_take_58 : decode cX3_take 58 = .ok (.iload_n 2, 1) := by decide +kernel
theorem dX3_take_59 : decode cX3_take 59 = .ok (.iadd, 1) := by decide +kernel
theorem dX3_take_60 : decode cX3_take 60 = .ok (.iastore, 1) := by decide +kernel
theorem dX3_take_61 : decode cX3_take 61 = .ok (.aload_n 0, 1) := by decide +kernel
theorem dX3_take_62 : decode cX3_take 62 = .ok (.getfield 22, 3) := by decide +kernel
theorem dX3_take_65 : decode cX3_take 65 = .ok (.iload_n 1, 1) := by decide +kernel
theorem dX3_take_66 : decode cX3_take 66 = .ok (.dup2, 1) := by decide +kernel
theorem dX3_take_67 : decode cX3_take 67 = .ok (.iaload, 1) := by decide +kernel
theorem dX3_take_68 : decode cX3_take 68 = .ok (.iconst 1, 1) := by decide +kernel
theorem dX3_take_69 : decode cX3_take 69 = .ok (.isub, 1) := by decide +kernel
theorem dX3_take_70 : decode cX3_take 70 = .ok (.iastore, 1) := by decide +kernel
theorem dX3_take_71 : decode cX3_take 71 = .ok (.iconst 0, 1) := by decide +kernel
theorem dX3_take_72 : decode cX3_take 72 = .ok (.istore_n 3, 1) := by decide +kernel
theorem dX3_take_73 : decode cX3_take 73 = .ok (.iload_n 3, 1) := by decide +kernel
theorem dX3_take_74 : decode cX3_take 74 = .ok (.aload_n 0, 1) := by decide +kernel
theorem dX3_take_75 : decode cX3_take 75 = .ok (.getfield 22, 3) := by decide +kernel
theorem dX3_take_78 : decode cX3_take 78 = .ok (.iload_n 1, 1) := by decide +kernel
theorem dX3_take_79 : decode cX3_take 79 = .ok (.iaload, 1) := by decide +kernel
theorem dX3_take_80 : decode cX3_take 80 = .ok (.if_icmp .ge 57, 3) := by decide +kernel
theorem dX3_take_83 : decode cX3_take 83 = .ok (.aload_n 0, 1) := by decide +kernel
theorem dX3_take_84 : decode cX3_take 84 = .ok (.getfield 32, 3) := by decide +kernel
theorem dX3_take_87 : decode cX3_take 87 = .ok (.bipush 96, 2) := by decide +kernel
theorem dX3_take_89 : decode cX3_take 89 = .ok (.iload_n 1, 1) := by decide +kernel
theorem dX3_take_90 : decode cX3_take 90 = .ok (.imul, 1) := by decide +kernel
theorem dX3_take_91 : decode cX3_take 91 = .ok (.iload_n 3, 1) := by decide +kernel
theorem dX3_take_92 : decode cX3_take 92 = .ok (.iadd, 1) := by decide +kernel
theorem dX3_take_93 : decode cX3_take 93 = .ok (.aload_n 0, 1) := by decide +kernel
theorem dX3_take_94 : decode cX3_take 94 = .ok (.getfield 32, 3) := by decide +kernel
theorem dX3_take_97 : decode cX3_take 97 = .ok (.bipush 96, 2) := by decide +kernel
theorem dX3_take_99 : decode cX3_take 99 = .ok (.iload_n 1, 1) := by decide +kernel
theorem dX3_take_100 : decode cX3_take 100 = .ok (.imul, 1) := by decide +kernel
theorem dX3_take_101 : decode cX3_take 101 = .ok (.iload_n 3, 1) := by decide +kernel
theorem dX3_take_102 : decode cX3_take 102 = .ok (.iadd, 1) := by decide +kernel
theorem dX3_take_103 : decode cX3_take 103 = .ok (.iconst 1, 1) := by decide +kernel
theorem dX3_take_104 : decode cX3_take 104 = .ok (.iadd, 1) := by decide +kernel
theorem dX3_take_105 : decode cX3_take 105 = .ok (.iaload, 1) := by decide +kernel
theorem dX3_take_106 : decode cX3_take 106 = .ok (.iastore, 1) := by decide +kernel
theorem dX3_take_107 : decode cX3_take 107 = .ok (.aload_n 0, 1) := by decide +kernel
theorem dX3_take_108 : decode cX3_take 108 = .ok (.getfield 35, 3) := by decide +kernel
theorem dX3_take_111 : decode cX3_take 111 = .ok (.bipush 96, 2) := by decide +kernel
theorem dX3_take_113 : decode cX3_take 113 = .ok (.iload_n 1, 1) := by decide +kernel
theorem dX3_take_114 : decode cX3_take 114 = .ok (.imul, 1) := by decide +kernel
theorem dX3_take_115 : decode cX3_take 115 = .ok (.iload_n 3, 1) := by decide +kernel
theorem dX3_take_116 : decode cX3_take 116 = .ok (.iadd, 1) := by decide +kernel
theorem dX3_take_117 : decode cX3_take 117 = .ok (.aload_n 0, 1) := by decide +kernel
theorem dX3_take_118 : decode cX3_take 118 = .ok (.getfield 35, 3) := by decide +kernel
theorem dX3_take_121 : decode cX3_take 121 = .ok (.bipush 96, 2) := by decide +kernel
theorem dX3_take_123 : decode cX3_take 123 = .ok (.iload_n 1, 1) := by decide +kernel
theorem dX3_take_124 : decode cX3_take 124 = .ok (.imul, 1) := by decide +kernel
theorem dX3_take_125 : decode cX3_take 125 = .ok (.iload_n 3, 1) := by decide +kernel
theorem dX3_take_126 : decode cX3_take 126 = .ok (.iadd, 1) := by decide +kernel
theorem dX3_take_127 : decode cX3_take 127 = .ok (.iconst 1, 1) := by decide +kernel
theorem dX3_take_128 : decode cX3_take 128 = .ok (.iadd, 1) := by decide +kernel
theorem dX3_take_129 : decode cX3_take 129 = .ok (.iaload, 1) := by decide +kernel
theorem dX3_take_130 : decode cX3_take 130 = .ok (.iastore, 1) := by decide +kernel
theorem dX3_take_131 : decode cX3_take 131 = .ok (.iinc 3 1, 3) := by decide +kernel
theorem dX3_take_134 : decode cX3_take 134 = .ok (.goto (-61), 3) := by decide +kernel
theorem dX3_take_137 : decode cX3_take 137 = .ok (.aload_n 0, 1) := by decide +kernel
theorem dX3_take_138 : decode cX3_take 138 = .ok (.iload_n 1, 1) := by decide +kernel
theorem dX3_take_139 : decode cX3_take 139 = .ok (.invokevirtual 106, 3) := by decide +kernel
theorem dX3_take_142 : decode cX3_take 142 = .ok (.return_, 1) := by decide +kernel
set_option maxRecDepth 20000 in
theorem ggX3_serve_X3_find : GoodIn wsX3_serve wsX3_find := goodIn_r _ [6, 7, 8, 9, 10, 11, 12, 35, 36, 37, 38, 39, 40, 41, 42, 43, 44, 45, 46, 47, 48, 49, 50, 51, 52, 53, 54, 55, 56] (by decide +kernel) (by decide +kernel)
set_option maxRecDepth 20000 in
theorem gX3_serve_X3_find : GoodIn wsX3_serve (wsV RX3 112 RX3 yX3_find wsX3_find) := goodIn_app (goodIn_of _ (by decide +kernel)) ggX3_serve_X3_find
set_option maxRecDepth 20000 in
theorem ggX3_serve_X3_take : GoodIn wsX3_serve wsX3_take := goodIn_r _ [16, 12, 17, 18, 10, 19, 20, 21, 22, 23, 24, 5, 25, 26, 27, 28, 29, 30, 7, 8, 9, 31, 32, 33, 34, 35, 36, 37, 38, 39, 40, 41, 42, 43, 44, 45, 46, 47, 48, 49, 50, 51, 52, 53, 54, 55, 56] (by decide +kernel) (by decide +kernel)
set_option maxRecDepth 20000 in
theorem gX3_serve_X3_take : GoodIn wsX3_serve (wsV RX3 115 RX3 yX3_take wsX3_take) := goodIn_app (goodIn_of _ (by decide +kernel)) ggX3_serve_X3_take
theorem dX3_serve_0 : decode cX3_serve 0 = .ok (.aload_n 0, 1) := by decide +kernel
theorem dX3_serve_1 : decode cX3_serve 1 = .ok (.iconst 0, 1) := by decide +kernel
theorem dX3_serve_2 : decode cX3_serve 2 = .ok (.putfield 65, 3) := by decide +kernel
theorem dX3_serve_5 : decode cX3_serve 5 = .ok (.aload_n 0, 1) := by decide +kernel
theorem dX3_serve_6 : decode cX3_serve 6 = .ok (.invokevirtual 112, 3) := by decide +kernel
theorem dX3_serve_9 : decode cX3_serve 9 = .ok (.istore_n 1, 1) := by decide +kernel
theorem dX3_serve_10 : decode cX3_serve 10 = .ok (.iload_n 1, 1) := by decide +kernel
theorem dX3_serve_11 : decode cX3_serve 11 = .ok (.ifCond .lt 8, 3) := by decide +kernel
theorem dX3_serve_14 : decode cX3_serve 14 = .ok (.aload_n 0, 1) := by decide +kernel
theorem dX3_serve_15 : decode cX3_serve 15 = .ok (.iload_n 1, 1) := by decide +kernel
theorem dX3_serve_16 : decode cX3_serve 16 = .ok (.invokevirtual 115, 3) := by decide +kernel
theorem dX3_serve_19 : decode cX3_serve 19 = .ok (.iload_n 1, 1) := by decide +kernel
theorem dX3_serve_20 : decode cX3_serve 20 = .ok (.ireturn, 1) := by decide +kernel
set_option maxRecDepth 20000 in
theorem ggX3_next_X3_keepTurns : GoodIn wsX3_next wsX3_keepTurns := goodIn_r _ [6, 7, 8, 9, 10, 11, 12, 24, 25, 26, 27, 28, 29, 30, 31, 32, 33, 34, 35, 36, 37, 38, 39, 40, 41, 42, 43, 44, 45] (by decide +kernel) (by decide +kernel)
set_option maxRecDepth 20000 in
theorem gX3_next_X3_keepTurns : GoodIn wsX3_next (wsV RX3 118 RX3 yX3_keepTurns wsX3_keepTurns) := goodIn_app (goodIn_of _ (by decide +kernel)) ggX3_next_X3_keepTurns
set_option maxRecDepth 20000 in
theorem ggX3_next_X3_find : GoodIn wsX3_next wsX3_find := goodIn_r _ [16, 17, 12, 10, 8, 18, 19, 24, 25, 26, 27, 28, 29, 30, 31, 32, 33, 34, 35, 36, 37, 38, 39, 40, 41, 42, 43, 44, 45] (by decide +kernel) (by decide +kernel)
set_option maxRecDepth 20000 in
theorem gX3_next_X3_find : GoodIn wsX3_next (wsV RX3 112 RX3 yX3_find wsX3_find) := goodIn_app (goodIn_of _ (by decide +kernel)) ggX3_next_X3_find
set_option maxRecDepth 20000 in
theorem ggX3_next_X3_turnBack : GoodIn wsX3_next wsX3_turnBack := goodIn_r _ [23, 8, 7, 10, 9, 12, 11, 24, 25, 26, 27, 28, 29, 30, 31, 32, 33, 34, 35, 36, 37, 38, 39, 40, 41, 42, 43, 44, 45] (by decide +kernel) (by decide +kernel)
set_option maxRecDepth 20000 in
theorem gX3_next_X3_turnBack : GoodIn wsX3_next (wsV RX3 121 RX3 yX3_turnBack wsX3_turnBack) := goodIn_app (goodIn_of _ (by decide +kernel)) ggX3_next_X3_turnBack
theorem dX3_next_0 : decode cX3_next 0 = .ok (.aload_n 0, 1) := by decide +kernel
theorem dX3_next_1 : decode cX3_next 1 = .ok (.iconst 0, 1) := by decide +kernel
theorem dX3_next_2 : decode cX3_next 2 = .ok (.putfield 65, 3) := by decide +kernel
theorem dX3_next_5 : decode cX3_next 5 = .ok (.aload_n 0, 1) := by decide +kernel
theorem dX3_next_6 : decode cX3_next 6 = .ok (.invokevirtual 118, 3) := by decide +kernel
theorem dX3_next_9 : decode cX3_next 9 = .ok (.aload_n 0, 1) := by decide +kernel
theorem dX3_next_10 : decode cX3_next 10 = .ok (.invokevirtual 112, 3) := by decide +kernel
theorem dX3_next_13 : decode cX3_next 13 = .ok (.istore_n 1, 1) := by decide +kernel
theorem dX3_next_14 : decode cX3_next 14 = .ok (.aload_n 0, 1) := by decide +kernel
theorem dX3_next_15 : decode cX3_next 15 = .ok (.invokevirtual 121, 3) := by decide +kernel
theorem dX3_next_18 : decode cX3_next 18 = .ok (.iload_n 1, 1) := by decide +kernel
theorem dX3_next_19 : decode cX3_next 19 = .ok (.ireturn, 1) := by decide +kernel
theorem dX3_word_0 : decode cX3_word 0 = .ok (.aload_n 0, 1) := by decide +kernel
theorem dX3_word_1 : decode cX3_word 1 = .ok (.iconst 0, 1) := by decide +kernel
theorem dX3_word_2 : decode cX3_word 2 = .ok (.putfield 65, 3) := by decide +kernel
theorem dX3_word_5 : decode cX3_word 5 = .ok (.aload_n 0, 1) := by decide +kernel
theorem dX3_word_6 : decode cX3_word 6 = .ok (.getfield 109, 3) := by decide +kernel
theorem dX3_word_9 : decode cX3_word 9 = .ok (.ireturn, 1) := by decide +kernel
set_option maxRecDepth 20000 in
theorem ggX3_serveUpTo_X3_keepTurns : GoodIn wsX3_serveUpTo wsX3_keepTurns := goodIn_r _ [8, 9, 10, 11, 12, 13, 14, 47, 48, 49, 50, 51, 52, 53, 54, 55, 56, 57, 58, 59, 60, 61, 62, 63, 64, 65, 66, 67, 68] (by decide +kernel) (by decide +kernel)
set_option maxRecDepth 20000 in
theorem gX3_serveUpTo_X3_keepTurns : GoodIn wsX3_serveUpTo (wsV RX3 118 RX3 yX3_keepTurns wsX3_keepTurns) := goodIn_app (goodIn_of _ (by decide +kernel)) ggX3_serveUpTo_X3_keepTurns
set_option maxRecDepth 20000 in
theorem ggX3_serveUpTo_X3_find : GoodIn wsX3_serveUpTo wsX3_find := goodIn_r _ [18, 19, 14, 12, 10, 20, 3, 47, 48, 49, 50, 51, 52, 53, 54, 55, 56, 57, 58, 59, 60, 61, 62, 63, 64, 65, 66, 67, 68] (by decide +kernel) (by decide +kernel)
set_option maxRecDepth 20000 in
theorem gX3_serveUpTo_X3_find : GoodIn wsX3_serveUpTo (wsV RX3 112 RX3 yX3_find wsX3_find) := goodIn_app (goodIn_of _ (by decide +kernel)) ggX3_serveUpTo_X3_find
set_option maxRecDepth 20000 in
theorem ggX3_serveUpTo_X3_take : GoodIn wsX3_serveUpTo wsX3_take := goodIn_r _ [24, 3, 25, 26, 10, 27, 28, 29, 30, 31, 32, 7, 33, 34, 35, 36, 37, 38, 19, 14, 12, 39, 40, 41, 42, 47, 48, 49, 50, 51, 52, 53, 54, 55, 56, 57, 58, 59, 60, 61, 62, 63, 64, 65, 66, 67, 68] (by decide +kernel) (by decide +kernel)
set_option maxRecDepth 20000 in
theorem gX3_serveUpTo_X3_take : GoodIn wsX3_serveUpTo (wsV RX3 115 RX3 yX3_take wsX3_take) := goodIn_app (goodIn_of _ (by decide +kernel)) ggX3_serveUpTo_X3_take
set_option maxRecDepth 20000 in
theorem ggX3_serveUpTo_X3_turnBack : GoodIn wsX3_serveUpTo wsX3_turnBack := goodIn_r _ [46, 10, 9, 12, 11, 14, 13, 47, 48, 49, 50, 51, 52, 53, 54, 55, 56, 57, 58, 59, 60, 61, 62, 63, 64, 65, 66, 67, 68] (by decide +kernel) (by decide +kernel)
set_option maxRecDepth 20000 in
theorem gX3_serveUpTo_X3_turnBack : GoodIn wsX3_serveUpTo (wsV RX3 121 RX3 yX3_turnBack wsX3_turnBack) := goodIn_app (goodIn_of _ (by decide +kernel)) ggX3_serveUpTo_X3_turnBack
theorem dX3_serveUpTo_0 : decode cX3_serveUpTo 0 = .ok (.aload_n 0, 1) := by decide +kernel
theorem dX3_serveUpTo_1 : decode cX3_serveUpTo 1 = .ok (.iload_n 1, 1) := by decide +kernel
theorem dX3_serveUpTo_2 : decode cX3_serveUpTo 2 = .ok (.ifCond .lt 9, 3) := by decide +kernel
theorem dX3_serveUpTo_5 : decode cX3_serveUpTo 5 = .ok (.iload_n 1, 1) := by decide +kernel
theorem dX3_serveUpTo_6 : decode cX3_serveUpTo 6 = .ok (.ldc 124, 2) := by decide +kernel
theorem dX3_serveUpTo_8 : decode cX3_serveUpTo 8 = .ok (.if_icmp .le 7, 3) := by decide +kernel
theorem dX3_serveUpTo_11 : decode cX3_serveUpTo 11 = .ok (.iconst 1, 1) := by decide +kernel
theorem dX3_serveUpTo_12 : decode cX3_serveUpTo 12 = .ok (.goto 4, 3) := by decide +kernel
theorem dX3_serveUpTo_15 : decode cX3_serveUpTo 15 = .ok (.iconst 0, 1) := by decide +kernel
theorem dX3_serveUpTo_16 : decode cX3_serveUpTo 16 = .ok (.putfield 65, 3) := by decide +kernel
theorem dX3_serveUpTo_19 : decode cX3_serveUpTo 19 = .ok (.iconst 0, 1) := by decide +kernel
theorem dX3_serveUpTo_20 : decode cX3_serveUpTo 20 = .ok (.istore_n 2, 1) := by decide +kernel
theorem dX3_serveUpTo_21 : decode cX3_serveUpTo 21 = .ok (.iload_n 1, 1) := by decide +kernel
theorem dX3_serveUpTo_22 : decode cX3_serveUpTo 22 = .ok (.istore_n 3, 1) := by decide +kernel
theorem dX3_serveUpTo_23 : decode cX3_serveUpTo 23 = .ok (.aload_n 0, 1) := by decide +kernel
theorem dX3_serveUpTo_24 : decode cX3_serveUpTo 24 = .ok (.getfield 65, 3) := by decide +kernel
theorem dX3_serveUpTo_27 : decode cX3_serveUpTo 27 = .ok (.ifCond .ne 7, 3) := by decide +kernel
theorem dX3_serveUpTo_30 : decode cX3_serveUpTo 30 = .ok (.iconst 1, 1) := by decide +kernel
theorem dX3_serveUpTo_31 : decode cX3_serveUpTo 31 = .ok (.goto 4, 3) := by decide +kernel
theorem dX3_serveUpTo_34 : decode cX3_serveUpTo 34 = .ok (.iconst 0, 1) := by decide +kernel
theorem dX3_serveUpTo_35 : decode cX3_serveUpTo 35 = .ok (.istore 4, 2) := by decide +kernel
theorem dX3_serveUpTo_37 : decode cX3_serveUpTo 37 = .ok (.iload 4, 2) := by decide +kernel
theorem dX3_serveUpTo_39 : decode cX3_serveUpTo 39 = .ok (.ifCond .eq 76, 3) := by decide +kernel
theorem dX3_serveUpTo_42 : decode cX3_serveUpTo 42 = .ok (.aload_n 0, 1) := by decide +kernel
theorem dX3_serveUpTo_43 : decode cX3_serveUpTo 43 = .ok (.invokevirtual 118, 3) := by decide +kernel
theorem dX3_serveUpTo_46 : decode cX3_serveUpTo 46 = .ok (.aload_n 0, 1) := by decide +kernel
theorem dX3_serveUpTo_47 : decode cX3_serveUpTo 47 = .ok (.invokevirtual 112, 3) := by decide +kernel
theorem dX3_serveUpTo_50 : decode cX3_serveUpTo 50 = .ok (.istore 5, 2) := by decide +kernel
theorem dX3_serveUpTo_52 : decode cX3_serveUpTo 52 = .ok (.iload 5, 2) := by decide +kernel
theorem dX3_serveUpTo_54 : decode cX3_serveUpTo 54 = .ok (.ifCond .lt 21, 3) := by decide +kernel
theorem dX3_serveUpTo_57 : decode cX3_serveUpTo 57 = .ok (.aload_n 0, 1) := by decide +kernel
theorem dX3_serveUpTo_58 : decode cX3_serveUpTo 58 = .ok (.getfield 35, 3) := by decide +kernel
theorem dX3_serveUpTo_61 : decode cX3_serveUpTo 61 = .ok (.bipush 96, 2) := by decide +kernel
theorem dX3_serveUpTo_63 : decode cX3_serveUpTo 63 = .ok (.iload 5, 2) := by decide +kernel
theorem dX3_serveUpTo_65 : decode cX3_serveUpTo 65 = .ok (.imul, 1) := by decide +kernel
theorem dX3_serveUpTo_66 : decode cX3_serveUpTo 66 = .ok (.iaload, 1) := by decide +kernel
theorem dX3_serveUpTo_67 : decode cX3_serveUpTo 67 = .ok (.iload_n 3, 1) := by decide +kernel
theorem dX3_serveUpTo_68 : decode cX3_serveUpTo 68 = .ok (.if_icmp .gt 7, 3) := by decide +kernel
theorem dX3_serveUpTo_71 : decode cX3_serveUpTo 71 = .ok (.iconst 1, 1) := by decide +kernel
theorem dX3_serveUpTo_72 : decode cX3_serveUpTo 72 = .ok (.goto 4, 3) := by decide +kernel
theorem dX3_serveUpTo_75 : decode cX3_serveUpTo 75 = .ok (.iconst 0, 1) := by decide +kernel
theorem dX3_serveUpTo_76 : decode cX3_serveUpTo 76 = .ok (.istore 4, 2) := by decide +kernel
theorem dX3_serveUpTo_78 : decode cX3_serveUpTo 78 = .ok (.iload 4, 2) := by decide +kernel
theorem dX3_serveUpTo_80 : decode cX3_serveUpTo 80 = .ok (.ifCond .eq 28, 3) := by decide +kernel
theorem dX3_serveUpTo_83 : decode cX3_serveUpTo 83 = .ok (.iload_n 3, 1) := by decide +kernel
theorem dX3_serveUpTo_84 : decode cX3_serveUpTo 84 = .ok (.aload_n 0, 1) := by decide +kernel
theorem dX3_serveUpTo_85 : decode cX3_serveUpTo 85 = .ok (.getfield 35, 3) := by decide +kernel
theorem dX3_serveUpTo_88 : decode cX3_serveUpTo 88 = .ok (.bipush 96, 2) := by decide +kernel
theorem dX3_serveUpTo_90 : decode cX3_serveUpTo 90 = .ok (.iload 5, 2) := by decide +kernel
theorem dX3_serveUpTo_92 : decode cX3_serveUpTo 92 = .ok (.imul, 1) := by decide +kernel
theorem dX3_serveUpTo_93 : decode cX3_serveUpTo 93 = .ok (.iaload, 1) := by decide +kernel
theorem dX3_serveUpTo_94 : decode cX3_serveUpTo 94 = .ok (.isub, 1) := by decide +kernel
theorem dX3_serveUpTo_95 : decode cX3_serveUpTo 95 = .ok (.istore_n 3, 1) := by decide +kernel
theorem dX3_serveUpTo_96 : decode cX3_serveUpTo 96 = .ok (.aload_n 0, 1) := by decide +kernel
theorem dX3_serveUpTo_97 : decode cX3_serveUpTo 97 = .ok (.iload 5, 2) := by decide +kernel
theorem dX3_serveUpTo_99 : decode cX3_serveUpTo 99 = .ok (.invokevirtual 115, 3) := by decide +kernel
theorem dX3_serveUpTo_102 : decode cX3_serveUpTo 102 = .ok (.iinc 2 1, 3) := by decide +kernel
theorem dX3_serveUpTo_105 : decode cX3_serveUpTo 105 = .ok (.goto 7, 3) := by decide +kernel
theorem dX3_serveUpTo_108 : decode cX3_serveUpTo 108 = .ok (.aload_n 0, 1) := by decide +kernel
theorem dX3_serveUpTo_109 : decode cX3_serveUpTo 109 = .ok (.invokevirtual 121, 3) := by decide +kernel
theorem dX3_serveUpTo_112 : decode cX3_serveUpTo 112 = .ok (.goto (-75), 3) := by decide +kernel
theorem dX3_serveUpTo_115 : decode cX3_serveUpTo 115 = .ok (.iload_n 2, 1) := by decide +kernel
theorem dX3_serveUpTo_116 : decode cX3_serveUpTo 116 = .ok (.ireturn, 1) := by decide +kernel
set_option maxRecDepth 20000 in
theorem ggX3_empty_X3_noQueue : GoodIn wsX3_empty wsX3_noQueue := goodIn_r _ [6] (by decide +kernel) (by decide +kernel)
set_option maxRecDepth 20000 in
theorem gX3_empty_X3_noQueue : GoodIn wsX3_empty (va_wsS RX3 69 yX3_noQueue wsX3_noQueue) := goodIn_app (goodIn_of _ (by decide +kernel)) ggX3_empty_X3_noQueue
set_option maxRecDepth 20000 in
theorem ggX3_empty_X3_settle : GoodIn wsX3_empty wsX3_settle := goodIn_r _ [10, 2, 11, 12, 13, 14, 5, 15, 16, 17, 18, 19, 20, 21, 22, 23, 24, 25, 26, 27, 28, 29, 30, 31, 32, 33, 34, 35, 36, 37, 38, 39, 40, 41, 42, 43, 44, 45] (by decide +kernel) (by decide +kernel)
set_option maxRecDepth 20000 in
theorem gX3_empty_X3_settle : GoodIn wsX3_empty (wsV RX3 106 RX3 yX3_settle wsX3_settle) := goodIn_app (goodIn_of _ (by decide +kernel)) ggX3_empty_X3_settle
theorem dX3_empty_0 : decode cX3_empty 0 = .ok (.aload_n 0, 1) := by decide +kernel
theorem dX3_empty_1 : decode cX3_empty 1 = .ok (.iload_n 1, 1) := by decide +kernel
theorem dX3_empty_2 : decode cX3_empty 2 = .ok (.invokestatic 69, 3) := by decide +kernel
theorem dX3_empty_5 : decode cX3_empty 5 = .ok (.ifCond .eq 7, 3) := by decide +kernel
theorem dX3_empty_8 : decode cX3_empty 8 = .ok (.iconst 1, 1) := by decide +kernel
theorem dX3_empty_9 : decode cX3_empty 9 = .ok (.goto 4, 3) := by decide +kernel
theorem dX3_empty_12 : decode cX3_empty 12 = .ok (.iconst 0, 1) := by decide +kernel
theorem dX3_empty_13 : decode cX3_empty 13 = .ok (.putfield 65, 3) := by decide +kernel
theorem dX3_empty_16 : decode cX3_empty 16 = .ok (.aload_n 0, 1) := by decide +kernel
theorem dX3_empty_17 : decode cX3_empty 17 = .ok (.getfield 65, 3) := by decide +kernel
theorem dX3_empty_20 : decode cX3_empty 20 = .ok (.ifCond .le 5, 3) := by decide +kernel
theorem dX3_empty_23 : decode cX3_empty 23 = .ok (.iconst 0, 1) := by decide +kernel
theorem dX3_empty_24 : decode cX3_empty 24 = .ok (.ireturn, 1) := by decide +kernel
theorem dX3_empty_25 : decode cX3_empty 25 = .ok (.aload_n 0, 1) := by decide +kernel
theorem dX3_empty_26 : decode cX3_empty 26 = .ok (.getfield 22, 3) := by decide +kernel
theorem dX3_empty_29 : decode cX3_empty 29 = .ok (.iload_n 1, 1) := by decide +kernel
theorem dX3_empty_30 : decode cX3_empty 30 = .ok (.iaload, 1) := by decide +kernel
theorem dX3_empty_31 : decode cX3_empty 31 = .ok (.istore_n 2, 1) := by decide +kernel
theorem dX3_empty_32 : decode cX3_empty 32 = .ok (.aload_n 0, 1) := by decide +kernel
theorem dX3_empty_33 : decode cX3_empty 33 = .ok (.getfield 22, 3) := by decide +kernel
theorem dX3_empty_36 : decode cX3_empty 36 = .ok (.iload_n 1, 1) := by decide +kernel
theorem dX3_empty_37 : decode cX3_empty 37 = .ok (.iconst 0, 1) := by decide +kernel
theorem dX3_empty_38 : decode cX3_empty 38 = .ok (.iastore, 1) := by decide +kernel
theorem dX3_empty_39 : decode cX3_empty 39 = .ok (.aload_n 0, 1) := by decide +kernel
theorem dX3_empty_40 : decode cX3_empty 40 = .ok (.iload_n 1, 1) := by decide +kernel
theorem dX3_empty_41 : decode cX3_empty 41 = .ok (.invokevirtual 106, 3) := by decide +kernel
theorem dX3_empty_44 : decode cX3_empty 44 = .ok (.iload_n 2, 1) := by decide +kernel
theorem dX3_empty_45 : decode cX3_empty 45 = .ok (.ireturn, 1) := by decide +kernel
theorem dX3_costOf_0 : decode cX3_costOf 0 = .ok (.iconst 0, 1) := by decide +kernel
theorem dX3_costOf_1 : decode cX3_costOf 1 = .ok (.istore_n 2, 1) := by decide +kernel
theorem dX3_costOf_2 : decode cX3_costOf 2 = .ok (.iconst 0, 1) := by decide +kernel
theorem dX3_costOf_3 : decode cX3_costOf 3 = .ok (.istore_n 3, 1) := by decide +kernel
theorem dX3_costOf_4 : decode cX3_costOf 4 = .ok (.iload_n 3, 1) := by decide +kernel
theorem dX3_costOf_5 : decode cX3_costOf 5 = .ok (.aload_n 0, 1) := by decide +kernel
theorem dX3_costOf_6 : decode cX3_costOf 6 = .ok (.getfield 22, 3) := by decide +kernel
theorem dX3_costOf_9 : decode cX3_costOf 9 = .ok (.iload_n 1, 1) := by decide +kernel
theorem dX3_costOf_10 : decode cX3_costOf 10 = .ok (.iaload, 1) := by decide +kernel
theorem dX3_costOf_11 : decode cX3_costOf 11 = .ok (.if_icmp .ge 23, 3) := by decide +kernel
theorem dX3_costOf_14 : decode cX3_costOf 14 = .ok (.iload_n 2, 1) := by decide +kernel
theorem dX3_costOf_15 : decode cX3_costOf 15 = .ok (.aload_n 0, 1) := by decide +kernel
theorem dX3_costOf_16 : decode cX3_costOf 16 = .ok (.getfield 35, 3) := by decide +kernel
theorem dX3_costOf_19 : decode cX3_costOf 19 = .ok (.bipush 96, 2) := by decide +kernel
theorem dX3_costOf_21 : decode cX3_costOf 21 = .ok (.iload_n 1, 1) := by decide +kernel
theorem dX3_costOf_22 : decode cX3_costOf 22 = .ok (.imul, 1) := by decide +kernel
theorem dX3_costOf_23 : decode cX3_costOf 23 = .ok (.iload_n 3, 1) := by decide +kernel
theorem dX3_costOf_24 : decode cX3_costOf 24 = .ok (.iadd, 1) := by decide +kernel
theorem dX3_costOf_25 : decode cX3_costOf 25 = .ok (.iaload, 1) := by decide +kernel
theorem dX3_costOf_26 : decode cX3_costOf 26 = .ok (.iadd, 1) := by decide +kernel
theorem dX3_costOf_27 : decode cX3_costOf 27 = .ok (.istore_n 2, 1) := by decide +kernel
theorem dX3_costOf_28 : decode cX3_costOf 28 = .ok (.iinc 3 1, 3) := by decide +kernel
theorem dX3_costOf_31 : decode cX3_costOf 31 = .ok (.goto (-27), 3) := by decide +kernel
theorem dX3_costOf_34 : decode cX3_costOf 34 = .ok (.iload_n 2, 1) := by decide +kernel
theorem dX3_costOf_35 : decode cX3_costOf 35 = .ok (.ireturn, 1) := by decide +kernel
set_option maxRecDepth 20000 in
theorem ggX3_told_X3_noQueue : GoodIn wsX3_told wsX3_noQueue := goodIn_r _ [16] (by decide +kernel) (by decide +kernel)
set_option maxRecDepth 20000 in
theorem gX3_told_X3_noQueue : GoodIn wsX3_told (va_wsS RX3 69 yX3_noQueue wsX3_noQueue) := goodIn_app (goodIn_of _ (by decide +kernel)) ggX3_told_X3_noQueue
set_option maxRecDepth 20000 in
theorem ggX3_told_X3_placeOf : GoodIn wsX3_told wsX3_placeOf := goodIn_r _ [20, 3, 21, 22, 28, 29, 30, 31, 32, 33, 34, 35, 36, 37, 38, 39, 40, 41, 42, 43, 44, 45, 46, 47, 48, 49] (by decide +kernel) (by decide +kernel)
set_option maxRecDepth 20000 in
theorem gX3_told_X3_placeOf : GoodIn wsX3_told (wsV RX3 77 RX3 yX3_placeOf wsX3_placeOf) := goodIn_app (goodIn_of _ (by decide +kernel)) ggX3_told_X3_placeOf
set_option maxRecDepth 20000 in
theorem ggX3_told_X3_costOf : GoodIn wsX3_told wsX3_costOf := goodIn_r _ [26, 2, 27, 28, 29, 30, 31, 32, 33, 34, 35, 36, 37, 38, 39, 40, 41, 42, 43, 44, 45, 46, 47, 48, 49] (by decide +kernel) (by decide +kernel)
set_option maxRecDepth 20000 in
theorem gX3_told_X3_costOf : GoodIn wsX3_told (wsV RX3 125 RX3 yX3_costOf wsX3_costOf) := goodIn_app (goodIn_of _ (by decide +kernel)) ggX3_told_X3_costOf
theorem dX3_told_0 : decode cX3_told 0 = .ok (.aload_n 0, 1) := by decide +kernel
theorem dX3_told_1 : decode cX3_told 1 = .ok (.iload_n 1, 1) := by decide +kernel
theorem dX3_told_2 : decode cX3_told 2 = .ok (.invokestatic 69, 3) := by decide +kernel
theorem dX3_told_5 : decode cX3_told 5 = .ok (.ifCond .ne 13, 3) := by decide +kernel
theorem dX3_told_8 : decode cX3_told 8 = .ok (.iload_n 2, 1) := by decide +kernel
theorem dX3_told_9 : decode cX3_told 9 = .ok (.ifCond .lt 9, 3) := by decide +kernel
theorem dX3_told_12 : decode cX3_told 12 = .ok (.iload_n 2, 1) := by decide +kernel
theorem dX3_told_13 : decode cX3_told 13 = .ok (.bipush 12, 2) := by decide +kernel
theorem dX3_told_15 : decode cX3_told 15 = .ok (.if_icmp .le 7, 3) := by decide +kernel
theorem dX3_told_18 : decode cX3_told 18 = .ok (.iconst 1, 1) := by decide +kernel
theorem dX3_told_19 : decode cX3_told 19 = .ok (.goto 4, 3) := by decide +kernel
theorem dX3_told_22 : decode cX3_told 22 = .ok (.iconst 0, 1) := by decide +kernel
theorem dX3_told_23 : decode cX3_told 23 = .ok (.putfield 65, 3) := by decide +kernel
theorem dX3_told_26 : decode cX3_told 26 = .ok (.aload_n 0, 1) := by decide +kernel
theorem dX3_told_27 : decode cX3_told 27 = .ok (.getfield 65, 3) := by decide +kernel
theorem dX3_told_30 : decode cX3_told 30 = .ok (.ifCond .le 5, 3) := by decide +kernel
theorem dX3_told_33 : decode cX3_told 33 = .ok (.iconst 0, 1) := by decide +kernel
theorem dX3_told_34 : decode cX3_told 34 = .ok (.ireturn, 1) := by decide +kernel
theorem dX3_told_35 : decode cX3_told 35 = .ok (.iload_n 2, 1) := by decide +kernel
theorem dX3_told_36 : decode cX3_told 36 = .ok (.tableswitch 155 0 11 #[64, 71, 78, 85, 92, 99, 106, 121, 127, 134, 141, 148], 64) := by decide +kernel
theorem dX3_told_100 : decode cX3_told 100 = .ok (.aload_n 0, 1) := by decide +kernel
theorem dX3_told_101 : decode cX3_told 101 = .ok (.getfield 22, 3) := by decide +kernel
theorem dX3_told_104 : decode cX3_told 104 = .ok (.iload_n 1, 1) := by decide +kernel
theorem dX3_told_105 : decode cX3_told 105 = .ok (.iaload, 1) := by decide +kernel
theorem dX3_told_106 : decode cX3_told 106 = .ok (.ireturn, 1) := by decide +kernel
theorem dX3_told_107 : decode cX3_told 107 = .ok (.aload_n 0, 1) := by decide +kernel
theorem dX3_told_108 : decode cX3_told 108 = .ok (.getfield 7, 3) := by decide +kernel
theorem dX3_told_111 : decode cX3_told 111 = .ok (.iload_n 1, 1) := by decide +kernel
theorem dX3_told_112 : decode cX3_told 112 = .ok (.iaload, 1) := by decide +kernel
theorem dX3_told_113 : decode cX3_told 113 = .ok (.ireturn, 1) := by decide +kernel
theorem dX3_told_114 : decode cX3_told 114 = .ok (.aload_n 0, 1) := by decide +kernel
theorem dX3_told_115 : decode cX3_told 115 = .ok (.getfield 13, 3) := by decide +kernel
theorem dX3_told_118 : decode cX3_told 118 = .ok (.iload_n 1, 1) := by decide +kernel
theorem dX3_told_119 : decode cX3_told 119 = .ok (.iaload, 1) := by decide +kernel
theorem dX3_told_120 : decode cX3_told 120 = .ok (.ireturn, 1) := by decide +kernel
theorem dX3_told_121 : decode cX3_told 121 = .ok (.aload_n 0, 1) := by decide +kernel
theorem dX3_told_122 : decode cX3_told 122 = .ok (.getfield 16, 3) := by decide +kernel
theorem dX3_told_125 : decode cX3_told 125 = .ok (.iload_n 1, 1) := by decide +kernel
theorem dX3_told_126 : decode cX3_told 126 = .ok (.iaload, 1) := by decide +kernel
theorem dX3_told_127 : decode cX3_told 127 = .ok (.ireturn, 1) := by decide +kernel
theorem dX3_told_128 : decode cX3_told 128 = .ok (.aload_n 0, 1) := by decide +kernel
theorem dX3_told_129 : decode cX3_told 129 = .ok (.getfield 19, 3) := by decide +kernel
theorem dX3_told_132 : decode cX3_told 132 = .ok (.iload_n 1, 1) := by decide +kernel
theorem dX3_told_133 : decode cX3_told 133 = .ok (.iaload, 1) := by decide +kernel
theorem dX3_told_134 : decode cX3_told 134 = .ok (.ireturn, 1) := by decide +kernel
theorem dX3_told_135 : decode cX3_told 135 = .ok (.aload_n 0, 1) := by decide +kernel
theorem dX3_told_136 : decode cX3_told 136 = .ok (.getfield 25, 3) := by decide +kernel
theorem dX3_told_139 : decode cX3_told 139 = .ok (.iload_n 1, 1) := by decide +kernel
theorem dX3_told_140 : decode cX3_told 140 = .ok (.iaload, 1) := by decide +kernel
theorem dX3_told_141 : decode cX3_told 141 = .ok (.ireturn, 1) := by decide +kernel
theorem dX3_told_142 : decode cX3_told 142 = .ok (.aload_n 0, 1) := by decide +kernel
theorem dX3_told_143 : decode cX3_told 143 = .ok (.getfield 28, 3) := by decide +kernel
theorem dX3_told_146 : decode cX3_told 146 = .ok (.iload_n 1, 1) := by decide +kernel
theorem dX3_told_147 : decode cX3_told 147 = .ok (.baload, 1) := by decide +kernel
theorem dX3_told_148 : decode cX3_told 148 = .ok (.ifCond .eq 7, 3) := by decide +kernel
theorem dX3_told_151 : decode cX3_told 151 = .ok (.iconst 1, 1) := by decide +kernel
theorem dX3_told_152 : decode cX3_told 152 = .ok (.goto 4, 3) := by decide +kernel
theorem dX3_told_155 : decode cX3_told 155 = .ok (.iconst 0, 1) := by decide +kernel
theorem dX3_told_156 : decode cX3_told 156 = .ok (.ireturn, 1) := by decide +kernel
theorem dX3_told_157 : decode cX3_told 157 = .ok (.aload_n 0, 1) := by decide +kernel
theorem dX3_told_158 : decode cX3_told 158 = .ok (.iload_n 1, 1) := by decide +kernel
theorem dX3_told_159 : decode cX3_told 159 = .ok (.invokevirtual 77, 3) := by decide +kernel
theorem dX3_told_162 : decode cX3_told 162 = .ok (.ireturn, 1) := by decide +kernel
theorem dX3_told_163 : decode cX3_told 163 = .ok (.aload_n 0, 1) := by decide +kernel
theorem dX3_told_164 : decode cX3_told 164 = .ok (.getfield 38, 3) := by decide +kernel
theorem dX3_told_167 : decode cX3_told 167 = .ok (.iload_n 1, 1) := by decide +kernel
theorem dX3_told_168 : decode cX3_told 168 = .ok (.iaload, 1) := by decide +kernel
theorem dX3_told_169 : decode cX3_told 169 = .ok (.ireturn, 1) := by decide +kernel
theorem dX3_told_170 : decode cX3_told 170 = .ok (.aload_n 0, 1) := by decide +kernel
theorem dX3_told_171 : decode cX3_told 171 = .ok (.getfield 41, 3) := by decide +kernel
theorem dX3_told_174 : decode cX3_told 174 = .ok (.iload_n 1, 1) := by decide +kernel
theorem dX3_told_175 : decode cX3_told 175 = .ok (.iaload, 1) := by decide +kernel
theorem dX3_told_176 : decode cX3_told 176 = .ok (.ireturn, 1) := by decide +kernel
theorem dX3_told_177 : decode cX3_told 177 = .ok (.aload_n 0, 1) := by decide +kernel
theorem dX3_told_178 : decode cX3_told 178 = .ok (.getfield 44, 3) := by decide +kernel
theorem dX3_told_181 : decode cX3_told 181 = .ok (.iload_n 1, 1) := by decide +kernel
theorem dX3_told_182 : decode cX3_told 182 = .ok (.iaload, 1) := by decide +kernel
theorem dX3_told_183 : decode cX3_told 183 = .ok (.ireturn, 1) := by decide +kernel
theorem dX3_told_184 : decode cX3_told 184 = .ok (.aload_n 0, 1) := by decide +kernel
theorem dX3_told_185 : decode cX3_told 185 = .ok (.getfield 47, 3) := by decide +kernel
theorem dX3_told_188 : decode cX3_told 188 = .ok (.iload_n 1, 1) := by decide +kernel
theorem dX3_told_189 : decode cX3_told 189 = .ok (.iaload, 1) := by decide +kernel
theorem dX3_told_190 : decode cX3_told 190 = .ok (.ireturn, 1) := by decide +kernel
theorem dX3_told_191 : decode cX3_told 191 = .ok (.aload_n 0, 1) := by decide +kernel
theorem dX3_told_192 : decode cX3_told 192 = .ok (.iload_n 1, 1) := by decide +kernel
theorem dX3_told_193 : decode cX3_told 193 = .ok (.invokevirtual 125, 3) := by decide +kernel
theorem dX3_told_196 : decode cX3_told 196 = .ok (.ireturn, 1) := by decide +kernel
set_option maxRecDepth 20000 in
theorem ggX3_item_X3_noQueue : GoodIn wsX3_item wsX3_noQueue := goodIn_r _ [8] (by decide +kernel) (by decide +kernel)
set_option maxRecDepth 20000 in
theorem gX3_item_X3_noQueue : GoodIn wsX3_item (va_wsS RX3 69 yX3_noQueue wsX3_noQueue) := goodIn_app (goodIn_of _ (by decide +kernel)) ggX3_item_X3_noQueue
theorem dX3_item_0 : decode cX3_item 0 = .ok (.aload_n 0, 1) := by decide +kernel
theorem dX3_item_1 : decode cX3_item 1 = .ok (.iload_n 1, 1) := by decide +kernel
theorem dX3_item_2 : decode cX3_item 2 = .ok (.invokestatic 69, 3) := by decide +kernel
theorem dX3_item_5 : decode cX3_item 5 = .ok (.ifCond .ne 12, 3) := by decide +kernel
theorem dX3_item_8 : decode cX3_item 8 = .ok (.iload_n 3, 1) := by decide +kernel
theorem dX3_item_9 : decode cX3_item 9 = .ok (.ifCond .lt 8, 3) := by decide +kernel
theorem dX3_item_12 : decode cX3_item 12 = .ok (.iload_n 3, 1) := by decide +kernel
theorem dX3_item_13 : decode cX3_item 13 = .ok (.iconst 1, 1) := by decide +kernel
theorem dX3_item_14 : decode cX3_item 14 = .ok (.if_icmp .le 7, 3) := by decide +kernel
theorem dX3_item_17 : decode cX3_item 17 = .ok (.iconst 1, 1) := by decide +kernel
theorem dX3_item_18 : decode cX3_item 18 = .ok (.goto 22, 3) := by decide +kernel
theorem dX3_item_21 : decode cX3_item 21 = .ok (.iload_n 2, 1) := by decide +kernel
theorem dX3_item_22 : decode cX3_item 22 = .ok (.ifCond .lt 13, 3) := by decide +kernel
theorem dX3_item_25 : decode cX3_item 25 = .ok (.iload_n 2, 1) := by decide +kernel
theorem dX3_item_26 : decode cX3_item 26 = .ok (.aload_n 0, 1) := by decide +kernel
theorem dX3_item_27 : decode cX3_item 27 = .ok (.getfield 22, 3) := by decide +kernel
theorem dX3_item_30 : decode cX3_item 30 = .ok (.iload_n 1, 1) := by decide +kernel
theorem dX3_item_31 : decode cX3_item 31 = .ok (.iaload, 1) := by decide +kernel
theorem dX3_item_32 : decode cX3_item 32 = .ok (.if_icmp .lt 7, 3) := by decide +kernel
theorem dX3_item_35 : decode cX3_item 35 = .ok (.iconst 2, 1) := by decide +kernel
theorem dX3_item_36 : decode cX3_item 36 = .ok (.goto 4, 3) := by decide +kernel
theorem dX3_item_39 : decode cX3_item 39 = .ok (.iconst 0, 1) := by decide +kernel
theorem dX3_item_40 : decode cX3_item 40 = .ok (.putfield 65, 3) := by decide +kernel
theorem dX3_item_43 : decode cX3_item 43 = .ok (.aload_n 0, 1) := by decide +kernel
theorem dX3_item_44 : decode cX3_item 44 = .ok (.getfield 65, 3) := by decide +kernel
theorem dX3_item_47 : decode cX3_item 47 = .ok (.ifCond .le 5, 3) := by decide +kernel
theorem dX3_item_50 : decode cX3_item 50 = .ok (.iconst 0, 1) := by decide +kernel
theorem dX3_item_51 : decode cX3_item 51 = .ok (.ireturn, 1) := by decide +kernel
theorem dX3_item_52 : decode cX3_item 52 = .ok (.iload_n 3, 1) := by decide +kernel
theorem dX3_item_53 : decode cX3_item 53 = .ok (.ifCond .ne 17, 3) := by decide +kernel
theorem dX3_item_56 : decode cX3_item 56 = .ok (.aload_n 0, 1) := by decide +kernel
theorem dX3_item_57 : decode cX3_item 57 = .ok (.getfield 32, 3) := by decide +kernel
theorem dX3_item_60 : decode cX3_item 60 = .ok (.bipush 96, 2) := by decide +kernel
theorem dX3_item_62 : decode cX3_item 62 = .ok (.iload_n 1, 1) := by decide +kernel
theorem dX3_item_63 : decode cX3_item 63 = .ok (.imul, 1) := by decide +kernel
theorem dX3_item_64 : decode cX3_item 64 = .ok (.iload_n 2, 1) := by decide +kernel
theorem dX3_item_65 : decode cX3_item 65 = .ok (.iadd, 1) := by decide +kernel
theorem dX3_item_66 : decode cX3_item 66 = .ok (.iaload, 1) := by decide +kernel
theorem dX3_item_67 : decode cX3_item 67 = .ok (.goto 14, 3) := by decide +kernel
theorem dX3_item_70 : decode cX3_item 70 = .ok (.aload_n 0, 1) := by decide +kernel
theorem dX3_item_71 : decode cX3_item 71 = .ok (.getfield 35, 3) := by decide +kernel
theorem dX3_item_74 : decode cX3_item 74 = .ok (.bipush 96, 2) := by decide +kernel
theorem dX3_item_76 : decode cX3_item 76 = .ok (.iload_n 1, 1) := by decide +kernel
theorem dX3_item_77 : decode cX3_item 77 = .ok (.imul, 1) := by decide +kernel
theorem dX3_item_78 : decode cX3_item 78 = .ok (.iload_n 2, 1) := by decide +kernel
theorem dX3_item_79 : decode cX3_item 79 = .ok (.iadd, 1) := by decide +kernel
theorem dX3_item_80 : decode cX3_item 80 = .ok (.iaload, 1) := by decide +kernel
theorem dX3_item_81 : decode cX3_item 81 = .ok (.ireturn, 1) := by decide +kernel
set_option maxRecDepth 20000 in
theorem ggX3_all_X3_free : GoodIn wsX3_all wsX3_free := goodIn_r _ [10, 11, 25, 26, 27, 28, 29, 30, 31, 32, 33, 34, 35, 36, 37, 38, 39, 40, 41, 42, 43, 44, 45, 46] (by decide +kernel) (by decide +kernel)
set_option maxRecDepth 20000 in
theorem gX3_all_X3_free : GoodIn wsX3_all (wsV RX3 88 RX3 yX3_free wsX3_free) := goodIn_app (goodIn_of _ (by decide +kernel)) ggX3_all_X3_free
set_option maxRecDepth 20000 in
theorem ggX3_all_X3_open : GoodIn wsX3_all wsX3_open := goodIn_r _ [15, 6, 7, 8, 9, 10, 11, 16, 17, 18, 19, 20, 25, 26, 27, 28, 29, 30, 31, 32, 33, 34, 35, 36, 37, 38, 39, 40, 41, 42, 43, 44, 45, 46] (by decide +kernel) (by decide +kernel)
set_option maxRecDepth 20000 in
theorem gX3_all_X3_open : GoodIn wsX3_all (wsV RX3 97 RX3 yX3_open wsX3_open) := goodIn_app (goodIn_of _ (by decide +kernel)) ggX3_all_X3_open
set_option maxRecDepth 20000 in
theorem ggX3_all_X3_keptInAll : GoodIn wsX3_all wsX3_keptInAll := goodIn_r _ [24, 20, 25, 26, 27, 28, 29, 30, 31, 32, 33, 34, 35, 36, 37, 38, 39, 40, 41, 42, 43, 44, 45, 46] (by decide +kernel) (by decide +kernel)
set_option maxRecDepth 20000 in
theorem gX3_all_X3_keptInAll : GoodIn wsX3_all (wsV RX3 73 RX3 yX3_keptInAll wsX3_keptInAll) := goodIn_app (goodIn_of _ (by decide +kernel)) ggX3_all_X3_keptInAll
theorem dX3_all_0 : decode cX3_all 0 = .ok (.aload_n 0, 1) := by decide +kernel
theorem dX3_all_1 : decode cX3_all 1 = .ok (.iload_n 1, 1) := by decide +kernel
theorem dX3_all_2 : decode cX3_all 2 = .ok (.ifCond .lt 9, 3) := by decide +kernel
theorem dX3_all_5 : decode cX3_all 5 = .ok (.iload_n 1, 1) := by decide +kernel
theorem dX3_all_6 : decode cX3_all 6 = .ok (.bipush 6, 2) := by decide +kernel
theorem dX3_all_8 : decode cX3_all 8 = .ok (.if_icmp .le 7, 3) := by decide +kernel
theorem dX3_all_11 : decode cX3_all 11 = .ok (.iconst 1, 1) := by decide +kernel
theorem dX3_all_12 : decode cX3_all 12 = .ok (.goto 4, 3) := by decide +kernel
theorem dX3_all_15 : decode cX3_all 15 = .ok (.iconst 0, 1) := by decide +kernel
theorem dX3_all_16 : decode cX3_all 16 = .ok (.putfield 65, 3) := by decide +kernel
theorem dX3_all_19 : decode cX3_all 19 = .ok (.aload_n 0, 1) := by decide +kernel
theorem dX3_all_20 : decode cX3_all 20 = .ok (.getfield 65, 3) := by decide +kernel
theorem dX3_all_23 : decode cX3_all 23 = .ok (.ifCond .le 5, 3) := by decide +kernel
theorem dX3_all_26 : decode cX3_all 26 = .ok (.iconst 0, 1) := by decide +kernel
theorem dX3_all_27 : decode cX3_all 27 = .ok (.ireturn, 1) := by decide +kernel
theorem dX3_all_28 : decode cX3_all 28 = .ok (.iconst 0, 1) := by decide +kernel
theorem dX3_all_29 : decode cX3_all 29 = .ok (.istore_n 2, 1) := by decide +kernel
theorem dX3_all_30 : decode cX3_all 30 = .ok (.iconst 0, 1) := by decide +kernel
theorem dX3_all_31 : decode cX3_all 31 = .ok (.istore_n 3, 1) := by decide +kernel
theorem dX3_all_32 : decode cX3_all 32 = .ok (.iload_n 3, 1) := by decide +kernel
theorem dX3_all_33 : decode cX3_all 33 = .ok (.bipush 12, 2) := by decide +kernel
theorem dX3_all_35 : decode cX3_all 35 = .ok (.if_icmp .ge 41, 3) := by decide +kernel
theorem dX3_all_38 : decode cX3_all 38 = .ok (.iload_n 2, 1) := by decide +kernel
theorem dX3_all_39 : decode cX3_all 39 = .ok (.iload_n 1, 1) := by decide +kernel
theorem dX3_all_40 : decode cX3_all 40 = .ok (.iconst 3, 1) := by decide +kernel
theorem dX3_all_41 : decode cX3_all 41 = .ok (.if_icmp .ne 12, 3) := by decide +kernel
theorem dX3_all_44 : decode cX3_all 44 = .ok (.aload_n 0, 1) := by decide +kernel
theorem dX3_all_45 : decode cX3_all 45 = .ok (.getfield 44, 3) := by decide +kernel
theorem dX3_all_48 : decode cX3_all 48 = .ok (.iload_n 3, 1) := by decide +kernel
theorem dX3_all_49 : decode cX3_all 49 = .ok (.iaload, 1) := by decide +kernel
theorem dX3_all_50 : decode cX3_all 50 = .ok (.goto 18, 3) := by decide +kernel
theorem dX3_all_53 : decode cX3_all 53 = .ok (.iload_n 1, 1) := by decide +kernel
theorem dX3_all_54 : decode cX3_all 54 = .ok (.iconst 4, 1) := by decide +kernel
theorem dX3_all_55 : decode cX3_all 55 = .ok (.if_icmp .ne 12, 3) := by decide +kernel
theorem dX3_all_58 : decode cX3_all 58 = .ok (.aload_n 0, 1) := by decide +kernel
theorem dX3_all_59 : decode cX3_all 59 = .ok (.getfield 41, 3) := by decide +kernel
theorem dX3_all_62 : decode cX3_all 62 = .ok (.iload_n 3, 1) := by decide +kernel
theorem dX3_all_63 : decode cX3_all 63 = .ok (.iaload, 1) := by decide +kernel
theorem dX3_all_64 : decode cX3_all 64 = .ok (.goto 4, 3) := by decide +kernel
theorem dX3_all_67 : decode cX3_all 67 = .ok (.iconst 0, 1) := by decide +kernel
theorem dX3_all_68 : decode cX3_all 68 = .ok (.iadd, 1) := by decide +kernel
theorem dX3_all_69 : decode cX3_all 69 = .ok (.istore_n 2, 1) := by decide +kernel
theorem dX3_all_70 : decode cX3_all 70 = .ok (.iinc 3 1, 3) := by decide +kernel
theorem dX3_all_73 : decode cX3_all 73 = .ok (.goto (-41), 3) := by decide +kernel
theorem dX3_all_76 : decode cX3_all 76 = .ok (.iload_n 1, 1) := by decide +kernel
theorem dX3_all_77 : decode cX3_all 77 = .ok (.ifCond .ne 10, 3) := by decide +kernel
theorem dX3_all_80 : decode cX3_all 80 = .ok (.aload_n 0, 1) := by decide +kernel
theorem dX3_all_81 : decode cX3_all 81 = .ok (.invokevirtual 88, 3) := by decide +kernel
theorem dX3_all_84 : decode cX3_all 84 = .ok (.goto 52, 3) := by decide +kernel
theorem dX3_all_87 : decode cX3_all 87 = .ok (.iload_n 1, 1) := by decide +kernel
theorem dX3_all_88 : decode cX3_all 88 = .ok (.iconst 1, 1) := by decide +kernel
theorem dX3_all_89 : decode cX3_all 89 = .ok (.if_icmp .ne 10, 3) := by decide +kernel
theorem dX3_all_92 : decode cX3_all 92 = .ok (.aload_n 0, 1) := by decide +kernel
theorem dX3_all_93 : decode cX3_all 93 = .ok (.invokevirtual 97, 3) := by decide +kernel
theorem dX3_all_96 : decode cX3_all 96 = .ok (.goto 40, 3) := by decide +kernel
theorem dX3_all_99 : decode cX3_all 99 = .ok (.iload_n 1, 1) := by decide +kernel
theorem dX3_all_100 : decode cX3_all 100 = .ok (.iconst 2, 1) := by decide +kernel
theorem dX3_all_101 : decode cX3_all 101 = .ok (.if_icmp .ne 10, 3) := by decide +kernel
theorem dX3_all_104 : decode cX3_all 104 = .ok (.aload_n 0, 1) := by decide +kernel
theorem dX3_all_105 : decode cX3_all 105 = .ok (.invokevirtual 73, 3) := by decide +kernel
theorem dX3_all_108 : decode cX3_all 108 = .ok (.goto 28, 3) := by decide +kernel
theorem dX3_all_111 : decode cX3_all 111 = .ok (.iload_n 1, 1) := by decide +kernel
theorem dX3_all_112 : decode cX3_all 112 = .ok (.iconst 5, 1) := by decide +kernel
theorem dX3_all_113 : decode cX3_all 113 = .ok (.if_icmp .ge 7, 3) := by decide +kernel
theorem dX3_all_116 : decode cX3_all 116 = .ok (.iload_n 2, 1) := by decide +kernel
theorem dX3_all_117 : decode cX3_all 117 = .ok (.goto 19, 3) := by decide +kernel
theorem dX3_all_120 : decode cX3_all 120 = .ok (.iload_n 1, 1) := by decide +kernel
theorem dX3_all_121 : decode cX3_all 121 = .ok (.iconst 5, 1) := by decide +kernel
theorem dX3_all_122 : decode cX3_all 122 = .ok (.if_icmp .ne 10, 3) := by decide +kernel
theorem dX3_all_125 : decode cX3_all 125 = .ok (.aload_n 0, 1) := by decide +kernel
theorem dX3_all_126 : decode cX3_all 126 = .ok (.getfield 94, 3) := by decide +kernel
theorem dX3_all_129 : decode cX3_all 129 = .ok (.goto 7, 3) := by decide +kernel
theorem dX3_all_132 : decode cX3_all 132 = .ok (.aload_n 0, 1) := by decide +kernel
theorem dX3_all_133 : decode cX3_all 133 = .ok (.getfield 103, 3) := by decide +kernel
theorem dX3_all_136 : decode cX3_all 136 = .ok (.ireturn, 1) := by decide +kernel
theorem dJ9_floorMod_7cf53_0 : decode cJ9_floorMod_7cf53 0 = .ok (.iload_n 0, 1) := by decide +kernel
theorem dJ9_floorMod_7cf53_1 : decode cJ9_floorMod_7cf53 1 = .ok (.iload_n 1, 1) := by decide +kernel
theorem dJ9_floorMod_7cf53_2 : decode cJ9_floorMod_7cf53 2 = .ok (.irem, 1) := by decide +kernel
theorem dJ9_floorMod_7cf53_3 : decode cJ9_floorMod_7cf53 3 = .ok (.istore_n 2, 1) := by decide +kernel
theorem dJ9_floorMod_7cf53_4 : decode cJ9_floorMod_7cf53 4 = .ok (.iload_n 0, 1) := by decide +kernel
theorem dJ9_floorMod_7cf53_5 : decode cJ9_floorMod_7cf53 5 = .ok (.iload_n 1, 1) := by decide +kernel
theorem dJ9_floorMod_7cf53_6 : decode cJ9_floorMod_7cf53 6 = .ok (.ixor, 1) := by decide +kernel
theorem dJ9_floorMod_7cf53_7 : decode cJ9_floorMod_7cf53 7 = .ok (.ifCond .ge 11, 3) := by decide +kernel
theorem dJ9_floorMod_7cf53_10 : decode cJ9_floorMod_7cf53 10 = .ok (.iload_n 2, 1) := by decide +kernel
theorem dJ9_floorMod_7cf53_11 : decode cJ9_floorMod_7cf53 11 = .ok (.ifCond .eq 7, 3) := by decide +kernel
theorem dJ9_floorMod_7cf53_14 : decode cJ9_floorMod_7cf53 14 = .ok (.iload_n 2, 1) := by decide +kernel
theorem dJ9_floorMod_7cf53_15 : decode cJ9_floorMod_7cf53 15 = .ok (.iload_n 1, 1) := by decide +kernel
theorem dJ9_floorMod_7cf53_16 : decode cJ9_floorMod_7cf53 16 = .ok (.iadd, 1) := by decide +kernel
theorem dJ9_floorMod_7cf53_17 : decode cJ9_floorMod_7cf53 17 = .ok (.ireturn, 1) := by decide +kernel
theorem dJ9_floorMod_7cf53_18 : decode cJ9_floorMod_7cf53 18 = .ok (.iload_n 2, 1) := by decide +kernel
theorem dJ9_floorMod_7cf53_19 : decode cJ9_floorMod_7cf53 19 = .ok (.ireturn, 1) := by decide +kernel
theorem dJ9_min_7cf53_0 : decode cJ9_min_7cf53 0 = .ok (.iload_n 0, 1) := by decide +kernel
theorem dJ9_min_7cf53_1 : decode cJ9_min_7cf53 1 = .ok (.iload_n 1, 1) := by decide +kernel
theorem dJ9_min_7cf53_2 : decode cJ9_min_7cf53 2 = .ok (.if_icmp .gt 7, 3) := by decide +kernel
theorem dJ9_min_7cf53_5 : decode cJ9_min_7cf53 5 = .ok (.iload_n 0, 1) := by decide +kernel
theorem dJ9_min_7cf53_6 : decode cJ9_min_7cf53 6 = .ok (.goto 4, 3) := by decide +kernel
theorem dJ9_min_7cf53_9 : decode cJ9_min_7cf53 9 = .ok (.iload_n 1, 1) := by decide +kernel
theorem dJ9_min_7cf53_10 : decode cJ9_min_7cf53 10 = .ok (.ireturn, 1) := by decide +kernel
set_option maxRecDepth 20000 in
theorem ggL_quota_X2_quota : GoodIn wsL_quota wsX2_quota := goodIn_ca (goodIn_r _ [6, 7, 8, 9, 5, 10, 11, 12, 13, 14, 15, 16, 17, 18, 19, 20, 21, 22, 23, 24, 25, 26, 27, 28, 29, 30, 31, 32, 33, 34, 35, 36, 37, 38, 39, 40, 41, 42] (by decide +kernel) (by decide +kernel)) (goodIn_sub (fun _ h => List.mem_cons_of_mem _ (List.mem_append_right _ h)) (by decide +kernel))
set_option maxRecDepth 20000 in
theorem gL_quota_X2_quota : GoodIn wsL_quota (wsV RL 7 RX2 yX2_quota wsX2_quota) := goodIn_app (goodIn_of _ (by decide +kernel)) ggL_quota_X2_quota
theorem dL_quota_0 : decode cL_quota 0 = .ok (.aload 4, 2) := by decide +kernel
theorem dL_quota_2 : decode cL_quota 2 = .ok (.iconst 0, 1) := by decide +kernel
theorem dL_quota_3 : decode cL_quota 3 = .ok (.aload_n 0, 1) := by decide +kernel
theorem dL_quota_4 : decode cL_quota 4 = .ok (.iload_n 1, 1) := by decide +kernel
theorem dL_quota_5 : decode cL_quota 5 = .ok (.iload_n 2, 1) := by decide +kernel
theorem dL_quota_6 : decode cL_quota 6 = .ok (.iload_n 3, 1) := by decide +kernel
theorem dL_quota_7 : decode cL_quota 7 = .ok (.invokevirtual 7, 3) := by decide +kernel
theorem dL_quota_10 : decode cL_quota 10 = .ok (.i2l, 1) := by decide +kernel
theorem dL_quota_11 : decode cL_quota 11 = .ok (.lastore, 1) := by decide +kernel
theorem dL_quota_12 : decode cL_quota 12 = .ok (.goto 7, 3) := by decide +kernel
theorem dL_quota_15 : decode cL_quota 15 = .ok (.astore 5, 2) := by decide +kernel
theorem dL_quota_17 : decode cL_quota 17 = .ok (.iconst 1, 1) := by decide +kernel
theorem dL_quota_18 : decode cL_quota 18 = .ok (.ireturn, 1) := by decide +kernel
theorem dL_quota_19 : decode cL_quota 19 = .ok (.iconst 0, 1) := by decide +kernel
theorem dL_quota_20 : decode cL_quota 20 = .ok (.ireturn, 1) := by decide +kernel
set_option maxRecDepth 20000 in
theorem ggL_kind_X2_kind : GoodIn wsL_kind wsX2_kind := goodIn_ca (goodIn_r _ [6, 7, 8, 9, 5, 10, 11, 12, 13, 14, 15, 16, 17, 18, 19, 20, 21, 22, 23, 24, 25, 26, 27, 28, 29, 30, 31, 32, 33, 34, 35, 36, 37, 38, 39, 40, 41, 42, 43, 44, 45, 46, 47, 48, 49, 50, 51, 52, 53, 54, 55, 56, 57, 58, 59, 60, 61, 62, 63, 64] (by decide +kernel) (by decide +kernel)) (goodIn_sub (fun _ h => List.mem_cons_of_mem _ (List.mem_append_right _ h)) (by decide +kernel))
set_option maxRecDepth 20000 in
theorem gL_kind_X2_kind : GoodIn wsL_kind (wsV RL 15 RX2 yX2_kind wsX2_kind) := goodIn_app (goodIn_of _ (by decide +kernel)) ggL_kind_X2_kind
theorem dL_kind_0 : decode cL_kind 0 = .ok (.aload_n 0, 1) := by decide +kernel
theorem dL_kind_1 : decode cL_kind 1 = .ok (.iload_n 1, 1) := by decide +kernel
theorem dL_kind_2 : decode cL_kind 2 = .ok (.iload_n 2, 1) := by decide +kernel
theorem dL_kind_3 : decode cL_kind 3 = .ok (.iload_n 3, 1) := by decide +kernel
theorem dL_kind_4 : decode cL_kind 4 = .ok (.invokevirtual 15, 3) := by decide +kernel
theorem dL_kind_7 : decode cL_kind 7 = .ok (.goto 7, 3) := by decide +kernel
theorem dL_kind_10 : decode cL_kind 10 = .ok (.astore 4, 2) := by decide +kernel
theorem dL_kind_12 : decode cL_kind 12 = .ok (.iconst 1, 1) := by decide +kernel
theorem dL_kind_13 : decode cL_kind 13 = .ok (.ireturn, 1) := by decide +kernel
theorem dL_kind_14 : decode cL_kind 14 = .ok (.iconst 0, 1) := by decide +kernel
theorem dL_kind_15 : decode cL_kind 15 = .ok (.ireturn, 1) := by decide +kernel
set_option maxRecDepth 20000 in
theorem ggL_push_X2_push : GoodIn wsL_push wsX2_push := goodIn_ca (goodIn_r _ [6, 7, 8, 9, 10, 11, 12, 5, 13, 14, 15, 16, 17, 18, 19, 20, 21, 22, 23, 24, 25, 26, 27, 28, 29, 30, 31, 32, 33, 34, 35, 36, 37, 38, 39, 40, 41, 42, 43, 44, 45, 46, 47, 48, 49, 50, 51, 52, 53, 54, 55, 56, 57, 58, 59, 60, 61, 62, 63, 64, 65, 66, 67, 68, 69, 70, 71, 72, 73, 74, 75, 76, 77, 78, 79, 80, 81, 82, 83, 84, 85, 86, 87, 88, 89, 90, 91, 92, 93, 94, 95, 96, 97, 98, 99, 100, 101, 102, 103, 104, 105, 106, 107, 108, 109, 110, 111, 112, 113, 114, 115, 116, 117, 118, 119, 120, 121, 122, 123, 124, 125, 126] (by decide +kernel) (by decide +kernel)) (goodIn_sub (fun _ h => List.mem_cons_of_mem _ (List.mem_append_right _ h)) (by decide +kernel))
set_option maxRecDepth 20000 in
theorem gL_push_X2_push : GoodIn wsL_push (wsV RL 19 RX2 yX2_push wsX2_push) := goodIn_app (goodIn_of _ (by decide +kernel)) ggL_push_X2_push
theorem dL_push_0 : decode cL_push 0 = .ok (.aload 4, 2) := by decide +kernel
theorem dL_push_2 : decode cL_push 2 = .ok (.iconst 0, 1) := by decide +kernel
theorem dL_push_3 : decode cL_push 3 = .ok (.aload_n 0, 1) := by decide +kernel
theorem dL_push_4 : decode cL_push 4 = .ok (.iload_n 1, 1) := by decide +kernel
theorem dL_push_5 : decode cL_push 5 = .ok (.iload_n 2, 1) := by decide +kernel
theorem dL_push_6 : decode cL_push 6 = .ok (.iload_n 3, 1) := by decide +kernel
theorem dL_push_7 : decode cL_push 7 = .ok (.invokevirtual 19, 3) := by decide +kernel
theorem dL_push_10 : decode cL_push 10 = .ok (.i2l, 1) := by decide +kernel
theorem dL_push_11 : decode cL_push 11 = .ok (.lastore, 1) := by decide +kernel
theorem dL_push_12 : decode cL_push 12 = .ok (.goto 7, 3) := by decide +kernel
theorem dL_push_15 : decode cL_push 15 = .ok (.astore 5, 2) := by decide +kernel
theorem dL_push_17 : decode cL_push 17 = .ok (.iconst 1, 1) := by decide +kernel
theorem dL_push_18 : decode cL_push 18 = .ok (.ireturn, 1) := by decide +kernel
theorem dL_push_19 : decode cL_push 19 = .ok (.iconst 0, 1) := by decide +kernel
theorem dL_push_20 : decode cL_push 20 = .ok (.ireturn, 1) := by decide +kernel
set_option maxRecDepth 20000 in
theorem ggL_serveUpTo_X2_serveUpTo : GoodIn wsL_serveUpTo wsX2_serveUpTo := goodIn_ca (goodIn_r _ [6, 7, 8, 9, 10, 5, 11, 12, 13, 14, 15, 16, 17, 18, 19, 20, 21, 22, 23, 24, 25, 26, 27, 28, 29, 30, 31, 32, 33, 34, 35, 36, 37, 38, 39, 40, 41, 42, 43, 44, 45, 46, 47, 48, 49, 50, 51, 52, 53, 54, 55, 56, 57, 58, 59, 60, 61, 62, 63, 64, 65, 66, 67, 68, 69, 70, 71, 72, 73, 74, 75, 76, 77, 78, 79, 80, 81, 82, 83, 84, 85, 86, 87, 88, 89, 90, 91, 92, 93, 94, 95, 96, 97, 98, 99, 100, 101, 102, 103, 104, 105, 106, 107, 108, 109, 110, 111, 112, 113, 114, 115, 116, 117, 118, 119, 120, 121, 122, 123, 124, 125, 126, 127, 128, 129, 130, 131, 132, 133, 134, 135, 136, 137, 138] (by decide +kernel) (by decide +kernel)) (goodIn_sub (fun _ h => List.mem_cons_of_mem _ (List.mem_append_right _ h)) (by decide +kernel))
set_option maxRecDepth 20000 in
theorem gL_serveUpTo_X2_serveUpTo : GoodIn wsL_serveUpTo (wsV RL 22 RX2 yX2_serveUpTo wsX2_serveUpTo) := goodIn_app (goodIn_of _ (by decide +kernel)) ggL_serveUpTo_X2_serveUpTo
theorem dL_serveUpTo_0 : decode cL_serveUpTo 0 = .ok (.aload_n 2, 1) := by decide +kernel
theorem dL_serveUpTo_1 : decode cL_serveUpTo 1 = .ok (.iconst 0, 1) := by decide +kernel
theorem dL_serveUpTo_2 : decode cL_serveUpTo 2 = .ok (.aload_n 0, 1) := by decide +kernel
theorem dL_serveUpTo_3 : decode cL_serveUpTo 3 = .ok (.iload_n 1, 1) := by decide +kernel
theorem dL_serveUpTo_4 : decode cL_serveUpTo 4 = .ok (.invokevirtual 22, 3) := by decide +kernel
theorem dL_serveUpTo_7 : decode cL_serveUpTo 7 = .ok (.i2l, 1) := by decide +kernel
theorem dL_serveUpTo_8 : decode cL_serveUpTo 8 = .ok (.lastore, 1) := by decide +kernel
theorem dL_serveUpTo_9 : decode cL_serveUpTo 9 = .ok (.goto 6, 3) := by decide +kernel
theorem dL_serveUpTo_12 : decode cL_serveUpTo 12 = .ok (.astore_n 3, 1) := by decide +kernel
theorem dL_serveUpTo_13 : decode cL_serveUpTo 13 = .ok (.iconst 1, 1) := by decide +kernel
theorem dL_serveUpTo_14 : decode cL_serveUpTo 14 = .ok (.ireturn, 1) := by decide +kernel
theorem dL_serveUpTo_15 : decode cL_serveUpTo 15 = .ok (.iconst 0, 1) := by decide +kernel
theorem dL_serveUpTo_16 : decode cL_serveUpTo 16 = .ok (.ireturn, 1) := by decide +kernel
set_option maxRecDepth 20000 in
theorem ggL_empty_X2_empty : GoodIn wsL_empty wsX2_empty := goodIn_ca (goodIn_r _ [6, 7, 8, 9, 5, 10, 11, 12, 13, 14, 15, 16, 17, 18, 19, 20, 21, 22, 23, 24, 25, 26, 27, 28, 29, 30, 31, 32, 33, 34, 35, 36, 37, 38, 39, 40, 41, 42, 43, 44, 45, 46, 47, 48, 49, 50, 51, 52, 53, 54, 55, 56, 57, 58, 59, 60, 61, 62, 63, 64] (by decide +kernel) (by decide +kernel)) (goodIn_sub (fun _ h => List.mem_cons_of_mem _ (List.mem_append_right _ h)) (by decide +kernel))
set_option maxRecDepth 20000 in
theorem gL_empty_X2_empty : GoodIn wsL_empty (wsV RL 26 RX2 yX2_empty wsX2_empty) := goodIn_app (goodIn_of _ (by decide +kernel)) ggL_empty_X2_empty
theorem dL_empty_0 : decode cL_empty 0 = .ok (.aload_n 2, 1) := by decide +kernel
theorem dL_empty_1 : decode cL_empty 1 = .ok (.iconst 0, 1) := by decide +kernel
theorem dL_empty_2 : decode cL_empty 2 = .ok (.aload_n 0, 1) := by decide +kernel
theorem dL_empty_3 : decode cL_empty 3 = .ok (.iload_n 1, 1) := by decide +kernel
theorem dL_empty_4 : decode cL_empty 4 = .ok (.invokevirtual 26, 3) := by decide +kernel
theorem dL_empty_7 : decode cL_empty 7 = .ok (.i2l, 1) := by decide +kernel
theorem dL_empty_8 : decode cL_empty 8 = .ok (.lastore, 1) := by decide +kernel
theorem dL_empty_9 : decode cL_empty 9 = .ok (.goto 6, 3) := by decide +kernel
theorem dL_empty_12 : decode cL_empty 12 = .ok (.astore_n 3, 1) := by decide +kernel
theorem dL_empty_13 : decode cL_empty 13 = .ok (.iconst 1, 1) := by decide +kernel
theorem dL_empty_14 : decode cL_empty 14 = .ok (.ireturn, 1) := by decide +kernel
theorem dL_empty_15 : decode cL_empty 15 = .ok (.iconst 0, 1) := by decide +kernel
theorem dL_empty_16 : decode cL_empty 16 = .ok (.ireturn, 1) := by decide +kernel
set_option maxRecDepth 20000 in
theorem ggL_told_X2_told : GoodIn wsL_told wsX2_told := goodIn_ca (goodIn_r _ [6, 7, 8, 9, 10, 11, 12, 5, 13, 14, 15, 16, 17, 18, 19, 20, 21, 22, 23, 24, 25, 26, 27, 28, 29, 30, 31, 32, 33, 34, 35, 36, 37, 38, 39, 40, 41, 42, 43, 44, 45] (by decide +kernel) (by decide +kernel)) (goodIn_sub (fun _ h => List.mem_cons_of_mem _ (List.mem_append_right _ h)) (by decide +kernel))
set_option maxRecDepth 20000 in
theorem gL_told_X2_told : GoodIn wsL_told (wsV RL 29 RX2 yX2_told wsX2_told) := goodIn_app (goodIn_of _ (by decide +kernel)) ggL_told_X2_told
theorem dL_told_0 : decode cL_told 0 = .ok (.aload_n 3, 1) := by decide +kernel
theorem dL_told_1 : decode cL_told 1 = .ok (.iconst 0, 1) := by decide +kernel
theorem dL_told_2 : decode cL_told 2 = .ok (.aload_n 0, 1) := by decide +kernel
theorem dL_told_3 : decode cL_told 3 = .ok (.iload_n 1, 1) := by decide +kernel
theorem dL_told_4 : decode cL_told 4 = .ok (.iload_n 2, 1) := by decide +kernel
theorem dL_told_5 : decode cL_told 5 = .ok (.invokevirtual 29, 3) := by decide +kernel
theorem dL_told_8 : decode cL_told 8 = .ok (.i2l, 1) := by decide +kernel
theorem dL_told_9 : decode cL_told 9 = .ok (.lastore, 1) := by decide +kernel
theorem dL_told_10 : decode cL_told 10 = .ok (.goto 7, 3) := by decide +kernel
theorem dL_told_13 : decode cL_told 13 = .ok (.astore 4, 2) := by decide +kernel
theorem dL_told_15 : decode cL_told 15 = .ok (.iconst 1, 1) := by decide +kernel
theorem dL_told_16 : decode cL_told 16 = .ok (.ireturn, 1) := by decide +kernel
theorem dL_told_17 : decode cL_told 17 = .ok (.iconst 0, 1) := by decide +kernel
theorem dL_told_18 : decode cL_told 18 = .ok (.ireturn, 1) := by decide +kernel
set_option maxRecDepth 20000 in
theorem ggL_item_X2_item : GoodIn wsL_item wsX2_item := goodIn_ca (goodIn_ca (goodIn_r _ [7, 8, 9, 10, 11, 12, 6, 13, 14, 15, 16, 17, 18, 19, 20, 21, 22, 23, 24, 25, 26, 27, 28, 29, 30, 31, 32, 33, 34, 35, 36, 37, 38, 39, 40, 41, 42, 43, 44, 45, 46, 47, 48, 49, 50, 51, 52, 53, 54, 55, 56, 57, 58, 59, 60, 61] (by decide +kernel) (by decide +kernel)) (goodIn_sub (fun _ h => List.mem_cons_of_mem _ (List.mem_append_left _ (List.mem_append_right _ h))) (by decide +kernel))) (goodIn_sub (fun _ h => List.mem_cons_of_mem _ (List.mem_append_right _ h)) (by decide +kernel))
set_option maxRecDepth 20000 in
theorem gL_item_X2_item : GoodIn wsL_item (wsV RL 33 RX2 yX2_item wsX2_item) := goodIn_app (goodIn_of _ (by decide +kernel)) ggL_item_X2_item
theorem dL_item_0 : decode cL_item 0 = .ok (.aload 4, 2) := by decide +kernel
theorem dL_item_2 : decode cL_item 2 = .ok (.iconst 0, 1) := by decide +kernel
theorem dL_item_3 : decode cL_item 3 = .ok (.aload_n 0, 1) := by decide +kernel
theorem dL_item_4 : decode cL_item 4 = .ok (.iload_n 1, 1) := by decide +kernel
theorem dL_item_5 : decode cL_item 5 = .ok (.iload_n 2, 1) := by decide +kernel
theorem dL_item_6 : decode cL_item 6 = .ok (.iload_n 3, 1) := by decide +kernel
theorem dL_item_7 : decode cL_item 7 = .ok (.invokevirtual 33, 3) := by decide +kernel
theorem dL_item_10 : decode cL_item 10 = .ok (.i2l, 1) := by decide +kernel
theorem dL_item_11 : decode cL_item 11 = .ok (.lastore, 1) := by decide +kernel
theorem dL_item_12 : decode cL_item 12 = .ok (.goto 11, 3) := by decide +kernel
theorem dL_item_15 : decode cL_item 15 = .ok (.astore 5, 2) := by decide +kernel
theorem dL_item_17 : decode cL_item 17 = .ok (.iconst 1, 1) := by decide +kernel
theorem dL_item_18 : decode cL_item 18 = .ok (.ireturn, 1) := by decide +kernel
theorem dL_item_19 : decode cL_item 19 = .ok (.astore 5, 2) := by decide +kernel
theorem dL_item_21 : decode cL_item 21 = .ok (.iconst 2, 1) := by decide +kernel
theorem dL_item_22 : decode cL_item 22 = .ok (.ireturn, 1) := by decide +kernel
theorem dL_item_23 : decode cL_item 23 = .ok (.iconst 0, 1) := by decide +kernel
theorem dL_item_24 : decode cL_item 24 = .ok (.ireturn, 1) := by decide +kernel
set_option maxRecDepth 20000 in
theorem ggL_all_X2_all : GoodIn wsL_all wsX2_all := goodIn_ca (goodIn_r _ [6, 7, 8, 9, 10, 11, 12, 13, 14, 15, 5, 16, 17, 18, 19, 20, 21, 22, 23, 24, 25, 26, 27, 28, 29, 30, 31, 32, 33, 34, 35, 36, 37, 38, 39, 40, 41, 42, 43, 44, 45, 46, 47, 48, 49, 50, 51, 52, 53, 54, 55, 56, 57, 58] (by decide +kernel) (by decide +kernel)) (goodIn_sub (fun _ h => List.mem_cons_of_mem _ (List.mem_append_right _ h)) (by decide +kernel))
set_option maxRecDepth 20000 in
theorem gL_all_X2_all : GoodIn wsL_all (wsV RL 38 RX2 yX2_all wsX2_all) := goodIn_app (goodIn_of _ (by decide +kernel)) ggL_all_X2_all
theorem dL_all_0 : decode cL_all 0 = .ok (.aload_n 2, 1) := by decide +kernel
theorem dL_all_1 : decode cL_all 1 = .ok (.iconst 0, 1) := by decide +kernel
theorem dL_all_2 : decode cL_all 2 = .ok (.aload_n 0, 1) := by decide +kernel
theorem dL_all_3 : decode cL_all 3 = .ok (.iload_n 1, 1) := by decide +kernel
theorem dL_all_4 : decode cL_all 4 = .ok (.invokevirtual 38, 3) := by decide +kernel
theorem dL_all_7 : decode cL_all 7 = .ok (.i2l, 1) := by decide +kernel
theorem dL_all_8 : decode cL_all 8 = .ok (.lastore, 1) := by decide +kernel
theorem dL_all_9 : decode cL_all 9 = .ok (.goto 6, 3) := by decide +kernel
theorem dL_all_12 : decode cL_all 12 = .ok (.astore_n 3, 1) := by decide +kernel
theorem dL_all_13 : decode cL_all 13 = .ok (.iconst 1, 1) := by decide +kernel
theorem dL_all_14 : decode cL_all 14 = .ok (.ireturn, 1) := by decide +kernel
theorem dL_all_15 : decode cL_all 15 = .ok (.iconst 0, 1) := by decide +kernel
theorem dL_all_16 : decode cL_all 16 = .ok (.ireturn, 1) := by decide +kernel
set_option maxRecDepth 20000 in
theorem ggL_law_X2_init : GoodIn wsL_law wsX2_init := goodIn_r _ [9, 10, 11, 12, 13, 14, 15, 16, 17, 18, 19, 20, 21, 22, 23, 24, 25, 26, 27, 28, 29, 30, 31, 32, 402, 403, 404, 405, 406, 407, 408, 431, 432, 433, 434, 435, 436, 437, 438, 439, 440, 441, 442, 443, 444, 445, 446, 447] (by decide +kernel) (by decide +kernel)
set_option maxRecDepth 20000 in
theorem gL_law_X2_init : GoodIn wsL_law (wsX2_init) := ggL_law_X2_init
set_option maxRecDepth 20000 in
theorem ggL_law_X3_init : GoodIn wsL_law wsX3_init := goodIn_r _ [35, 36, 11, 12, 24, 37, 38, 39, 40, 41, 42, 43, 44, 45, 46, 47, 48, 49, 50, 51, 52, 53, 54, 55, 409, 410, 411, 412, 413, 414, 415, 416, 417, 418, 419, 420, 421, 422, 423, 424, 425, 426, 427, 428, 429, 430] (by decide +kernel) (by decide +kernel)
set_option maxRecDepth 20000 in
theorem gL_law_X3_init : GoodIn wsL_law (wsX3_init) := ggL_law_X3_init
set_option maxRecDepth 20000 in
theorem ggL_law_L_quota : GoodIn wsL_law wsL_quota := goodIn_ca (goodIn_r _ [59, 60, 61, 62, 63, 2, 64, 65, 66, 67, 68, 69, 70, 14, 71, 72, 73, 74, 75, 76, 77, 431, 432, 433, 434, 435, 436, 437, 438, 439, 440, 441, 442, 443, 444, 445, 402, 403, 404, 405, 406, 407, 408] (by decide +kernel) (by decide +kernel)) (goodIn_sub (fun _ h => List.mem_append_left _ (List.mem_append_right _ h)) (by decide +kernel))
set_option maxRecDepth 20000 in
theorem gL_law_L_quota : GoodIn wsL_law (va_wsS RL 45 yL_quota wsL_quota) := goodIn_app (goodIn_of _ (by decide +kernel)) ggL_law_L_quota
set_option maxRecDepth 20000 in
theorem ggL_law_X3_quota : GoodIn wsL_law wsX3_quota := goodIn_r _ [81, 82, 40, 39, 83, 84, 5, 85, 86, 87, 88, 89, 409, 410, 411, 412, 413, 414, 415, 416, 417, 418, 419, 420, 421, 422, 423, 424, 425, 426, 427, 428, 429, 430] (by decide +kernel) (by decide +kernel)
set_option maxRecDepth 20000 in
theorem gL_law_X3_quota : GoodIn wsL_law (wsV RL 50 RX3 yX3_quota wsX3_quota) := goodIn_app (goodIn_of _ (by decide +kernel)) ggL_law_X3_quota
set_option maxRecDepth 20000 in
theorem ggL_law_X3_thrown : GoodIn wsL_law wsX3_thrown := goodIn_r _ [93, 82, 409, 410, 411, 412, 413, 414, 415, 416, 417, 418, 419, 420, 421, 422, 423, 424, 425, 426, 427, 428, 429, 430] (by decide +kernel) (by decide +kernel)
set_option maxRecDepth 20000 in
theorem gL_law_X3_thrown : GoodIn wsL_law (wsV RL 51 RX3 yX3_thrown wsX3_thrown) := goodIn_app (goodIn_of _ (by decide +kernel)) ggL_law_X3_thrown
set_option maxRecDepth 20000 in
theorem ggL_law_L_kind : GoodIn wsL_law wsL_kind := goodIn_ca (goodIn_r _ [96, 60, 97, 98, 99, 2, 100, 65, 66, 67, 68, 69, 70, 14, 71, 72, 73, 101, 102, 103, 104, 16, 105, 106, 107, 20, 108, 109, 32, 110, 111, 112, 113, 114, 115, 116, 117, 118, 119, 120, 121, 431, 432, 433, 434, 435, 436, 437, 438, 439, 440, 441, 442, 443, 444, 445, 402, 403, 404, 405, 406, 407, 408, 446, 447] (by decide +kernel) (by decide +kernel)) (goodIn_sub (fun _ h => List.mem_append_left _ (List.mem_append_right _ h)) (by decide +kernel))
set_option maxRecDepth 20000 in
theorem gL_law_L_kind : GoodIn wsL_law (va_wsS RL 55 yL_kind wsL_kind) := goodIn_app (goodIn_of _ (by decide +kernel)) ggL_law_L_kind
set_option maxRecDepth 20000 in
theorem ggL_law_X3_kind : GoodIn wsL_law wsX3_kind := goodIn_r _ [125, 82, 38, 37, 41, 83, 84, 5, 85, 126, 127, 128, 129, 52, 51, 44, 130, 131, 132, 133, 134, 135, 136, 137, 409, 410, 411, 412, 413, 414, 415, 416, 417, 418, 419, 420, 421, 422, 423, 424, 425, 426, 427, 428, 429, 430] (by decide +kernel) (by decide +kernel)
set_option maxRecDepth 20000 in
theorem gL_law_X3_kind : GoodIn wsL_law (wsV RL 58 RX3 yX3_kind wsX3_kind) := goodIn_app (goodIn_of _ (by decide +kernel)) ggL_law_X3_kind
set_option maxRecDepth 20000 in
theorem ggL_law_L_push : GoodIn wsL_law wsL_push := goodIn_ca (goodIn_r _ [140, 60, 141, 142, 143, 2, 144, 145, 14, 146, 65, 66, 67, 68, 69, 70, 71, 72, 73, 147, 148, 149, 150, 151, 152, 153, 154, 155, 156, 157, 18, 158, 159, 160, 161, 162, 163, 164, 165, 166, 167, 168, 169, 170, 171, 172, 16, 173, 174, 175, 176, 25, 26, 177, 178, 179, 180, 181, 182, 183, 184, 185, 186, 118, 119, 120, 20, 121, 109, 32, 187, 188, 189, 190, 191, 192, 193, 194, 195, 196, 197, 198, 199, 200, 201, 202, 203, 204, 205, 206, 207, 105, 106, 107, 108, 110, 111, 112, 113, 114, 115, 116, 117, 431, 432, 433, 434, 435, 436, 437, 438, 439, 440, 441, 442, 443, 444, 445, 402, 403, 404, 405, 406, 407, 408, 446, 447] (by decide +kernel) (by decide +kernel)) (goodIn_sub (fun _ h => List.mem_append_left _ (List.mem_append_right _ h)) (by decide +kernel))
set_option maxRecDepth 20000 in
theorem gL_law_L_push : GoodIn wsL_law (va_wsS RL 59 yL_push wsL_push) := goodIn_app (goodIn_of _ (by decide +kernel)) ggL_law_L_push
set_option maxRecDepth 20000 in
theorem ggL_law_X3_push : GoodIn wsL_law wsX3_push := goodIn_r _ [211, 82, 41, 39, 212, 213, 48, 45, 46, 47, 42, 83, 84, 5, 85, 214, 215, 216, 217, 218, 219, 220, 221, 40, 222, 223, 224, 225, 226, 227, 228, 229, 230, 231, 232, 233, 126, 127, 128, 129, 37, 52, 51, 44, 130, 131, 132, 133, 134, 135, 136, 137, 409, 410, 411, 412, 413, 414, 415, 416, 417, 418, 419, 420, 421, 422, 423, 424, 425, 426, 427, 428, 429, 430] (by decide +kernel) (by decide +kernel)
set_option maxRecDepth 20000 in
theorem gL_law_X3_push : GoodIn wsL_law (wsV RL 61 RX3 yX3_push wsX3_push) := goodIn_app (goodIn_of _ (by decide +kernel)) ggL_law_X3_push
set_option maxRecDepth 20000 in
theorem ggL_law_X2_serve : GoodIn wsL_law wsX2_serve := goodIn_r _ [237, 238, 239, 240, 2, 241, 16, 242, 243, 244, 245, 14, 246, 247, 248, 20, 249, 32, 250, 251, 252, 18, 253, 254, 255, 27, 256, 257, 258, 259, 26, 182, 260, 261, 262, 263, 264, 265, 266, 267, 268, 269, 270, 271, 272, 106, 107, 108, 109, 110, 111, 112, 113, 114, 115, 116, 117, 273, 119, 120, 121, 274, 275, 276, 277, 278, 279, 280, 281, 282, 283, 284, 285, 286, 287, 288, 25, 178, 179, 180, 181, 183, 184, 185, 186, 289, 290, 291, 292, 177, 159, 204, 205, 206, 207, 105, 402, 403, 404, 405, 406, 407, 408, 446, 447, 431, 432, 433, 434, 435, 436, 437, 438, 439, 440, 441, 442, 443, 444, 445] (by decide +kernel) (by decide +kernel)
set_option maxRecDepth 20000 in
theorem gL_law_X2_serve : GoodIn wsL_law (wsV RL 62 RX2 yX2_serve wsX2_serve) := goodIn_app (goodIn_of _ (by decide +kernel)) ggL_law_X2_serve
set_option maxRecDepth 20000 in
theorem ggL_law_X3_serve : GoodIn wsL_law wsX3_serve := goodIn_r _ [296, 82, 297, 298, 299, 5, 300, 52, 51, 44, 42, 38, 46, 301, 302, 303, 304, 45, 305, 49, 50, 41, 230, 231, 232, 233, 126, 127, 128, 129, 37, 130, 131, 132, 133, 409, 410, 411, 412, 413, 414, 415, 416, 417, 418, 419, 420, 421, 422, 423, 424, 425, 426, 427, 428, 429, 430] (by decide +kernel) (by decide +kernel)
set_option maxRecDepth 20000 in
theorem gL_law_X3_serve : GoodIn wsL_law (wsV RL 65 RX3 yX3_serve wsX3_serve) := goodIn_app (goodIn_of _ (by decide +kernel)) ggL_law_X3_serve
set_option maxRecDepth 20000 in
theorem ggL_law_X2_next : GoodIn wsL_law wsX2_next := goodIn_r _ [309, 238, 239, 240, 2, 241, 16, 242, 243, 244, 245, 14, 246, 247, 248, 20, 249, 32, 250, 251, 252, 18, 253, 254, 255, 27, 256, 257, 258, 259, 26, 182, 402, 403, 404, 405, 406, 407, 408, 446, 447, 431, 432, 433, 434, 435, 436, 437, 438, 439, 440, 441, 442, 443, 444, 445] (by decide +kernel) (by decide +kernel)
set_option maxRecDepth 20000 in
theorem gL_law_X2_next : GoodIn wsL_law (wsV RL 66 RX2 yX2_next wsX2_next) := goodIn_app (goodIn_of _ (by decide +kernel)) ggL_law_X2_next
set_option maxRecDepth 20000 in
theorem ggL_law_X3_next : GoodIn wsL_law wsX3_next := goodIn_r _ [313, 82, 314, 315, 316, 5, 317, 53, 42, 54, 44, 55, 51, 297, 298, 299, 300, 52, 38, 46, 318, 319, 320, 321, 409, 410, 411, 412, 413, 414, 415, 416, 417, 418, 419, 420, 421, 422, 423, 424, 425, 426, 427, 428, 429, 430] (by decide +kernel) (by decide +kernel)
set_option maxRecDepth 20000 in
theorem gL_law_X3_next : GoodIn wsL_law (wsV RL 69 RX3 yX3_next wsX3_next) := goodIn_app (goodIn_of _ (by decide +kernel)) ggL_law_X3_next
set_option maxRecDepth 20000 in
theorem ggL_law_X2_word : GoodIn wsL_law wsX2_word := goodIn_r _ [325, 278, 402, 403, 404, 405, 406, 407, 408] (by decide +kernel) (by decide +kernel)
set_option maxRecDepth 20000 in
theorem gL_law_X2_word : GoodIn wsL_law (wsV RL 70 RX2 yX2_word wsX2_word) := goodIn_app (goodIn_of _ (by decide +kernel)) ggL_law_X2_word
set_option maxRecDepth 20000 in
theorem ggL_law_X3_word : GoodIn wsL_law wsX3_word := goodIn_r _ [329, 82, 305, 409, 410, 411, 412, 413, 414, 415, 416, 417, 418, 419, 420, 421, 422, 423, 424, 425, 426, 427, 428, 429, 430] (by decide +kernel) (by decide +kernel)
set_option maxRecDepth 20000 in
theorem gL_law_X3_word : GoodIn wsL_law (wsV RL 73 RX3 yX3_word wsX3_word) := goodIn_app (goodIn_of _ (by decide +kernel)) ggL_law_X3_word
set_option maxRecDepth 20000 in
theorem ggL_law_L_serveUpTo : GoodIn wsL_law wsL_serveUpTo := goodIn_ca (goodIn_r _ [332, 60, 333, 334, 335, 2, 336, 337, 14, 71, 72, 73, 69, 70, 338, 307, 308, 309, 238, 239, 240, 241, 16, 242, 243, 244, 245, 246, 247, 248, 20, 249, 32, 250, 251, 252, 18, 253, 254, 255, 27, 256, 257, 258, 259, 26, 182, 284, 339, 235, 236, 237, 260, 261, 262, 263, 264, 265, 266, 267, 268, 269, 270, 271, 272, 106, 107, 108, 109, 110, 111, 112, 113, 114, 115, 116, 117, 273, 119, 120, 121, 274, 275, 276, 277, 278, 279, 280, 281, 282, 283, 285, 286, 287, 288, 25, 178, 179, 180, 181, 183, 184, 185, 186, 289, 290, 291, 292, 177, 159, 204, 205, 206, 207, 105, 402, 403, 404, 405, 406, 407, 408, 446, 447, 431, 432, 433, 434, 435, 436, 437, 438, 439, 440, 441, 442, 443, 444, 445] (by decide +kernel) (by decide +kernel)) (goodIn_sub (fun _ h => List.mem_append_left _ (List.mem_append_right _ h)) (by decide +kernel))
set_option maxRecDepth 20000 in
theorem gL_law_L_serveUpTo : GoodIn wsL_law (va_wsS RL 74 yL_serveUpTo wsL_serveUpTo) := goodIn_app (goodIn_of _ (by decide +kernel)) ggL_law_L_serveUpTo
set_option maxRecDepth 20000 in
theorem ggL_law_X3_serveUpTo : GoodIn wsL_law wsX3_serveUpTo := goodIn_r _ [343, 344, 82, 46, 314, 315, 316, 5, 317, 53, 42, 54, 44, 55, 51, 297, 298, 299, 300, 52, 38, 301, 302, 303, 304, 45, 305, 49, 50, 41, 230, 231, 232, 233, 126, 127, 128, 129, 37, 130, 131, 132, 133, 318, 319, 320, 321, 409, 410, 411, 412, 413, 414, 415, 416, 417, 418, 419, 420, 421, 422, 423, 424, 425, 426, 427, 428, 429, 430] (by decide +kernel) (by decide +kernel)
set_option maxRecDepth 20000 in
theorem gL_law_X3_serveUpTo : GoodIn wsL_law (wsV RL 77 RX3 yX3_serveUpTo wsX3_serveUpTo) := goodIn_app (goodIn_of _ (by decide +kernel)) ggL_law_X3_serveUpTo
set_option maxRecDepth 20000 in
theorem ggL_law_L_empty : GoodIn wsL_law wsL_empty := goodIn_ca (goodIn_r _ [347, 60, 348, 349, 350, 2, 351, 65, 66, 67, 68, 69, 70, 14, 352, 353, 354, 18, 355, 177, 159, 204, 205, 206, 207, 16, 105, 106, 107, 20, 108, 109, 32, 110, 111, 112, 113, 114, 115, 116, 117, 431, 432, 433, 434, 435, 436, 437, 438, 439, 440, 441, 442, 443, 444, 445, 402, 403, 404, 405, 406, 407, 408, 446, 447] (by decide +kernel) (by decide +kernel)) (goodIn_sub (fun _ h => List.mem_append_left _ (List.mem_append_right _ h)) (by decide +kernel))
set_option maxRecDepth 20000 in
theorem gL_law_L_empty : GoodIn wsL_law (va_wsS RL 78 yL_empty wsL_empty) := goodIn_app (goodIn_of _ (by decide +kernel)) ggL_law_L_empty
set_option maxRecDepth 20000 in
theorem ggL_law_X3_empty : GoodIn wsL_law wsX3_empty := goodIn_r _ [359, 82, 41, 83, 84, 5, 85, 230, 231, 232, 233, 42, 126, 127, 128, 129, 37, 52, 51, 44, 130, 131, 132, 133, 409, 410, 411, 412, 413, 414, 415, 416, 417, 418, 419, 420, 421, 422, 423, 424, 425, 426, 427, 428, 429, 430] (by decide +kernel) (by decide +kernel)
set_option maxRecDepth 20000 in
theorem gL_law_X3_empty : GoodIn wsL_law (wsV RL 80 RX3 yX3_empty wsX3_empty) := goodIn_app (goodIn_of _ (by decide +kernel)) ggL_law_X3_empty
set_option maxRecDepth 20000 in
theorem ggL_law_L_told : GoodIn wsL_law wsL_told := goodIn_ca (goodIn_r _ [362, 60, 363, 364, 365, 2, 366, 69, 70, 16, 65, 66, 67, 68, 14, 367, 115, 116, 20, 117, 109, 32, 431, 432, 433, 434, 435, 436, 437, 438, 439, 440, 441, 442, 443, 444, 445, 402, 403, 404, 405, 406, 407, 408, 446, 447] (by decide +kernel) (by decide +kernel)) (goodIn_sub (fun _ h => List.mem_append_left _ (List.mem_append_right _ h)) (by decide +kernel))
set_option maxRecDepth 20000 in
theorem gL_law_L_told : GoodIn wsL_law (va_wsS RL 81 yL_told wsL_told) := goodIn_app (goodIn_of _ (by decide +kernel)) ggL_law_L_told
set_option maxRecDepth 20000 in
theorem ggL_law_X3_told : GoodIn wsL_law wsX3_told := goodIn_r _ [371, 82, 41, 37, 38, 39, 40, 42, 44, 47, 48, 49, 50, 83, 84, 5, 85, 130, 131, 132, 133, 52, 51, 372, 373, 374, 375, 46, 409, 410, 411, 412, 413, 414, 415, 416, 417, 418, 419, 420, 421, 422, 423, 424, 425, 426, 427, 428, 429, 430] (by decide +kernel) (by decide +kernel)
set_option maxRecDepth 20000 in
theorem gL_law_X3_told : GoodIn wsL_law (wsV RL 84 RX3 yX3_told wsX3_told) := goodIn_app (goodIn_of _ (by decide +kernel)) ggL_law_X3_told
set_option maxRecDepth 20000 in
theorem ggL_law_L_item : GoodIn wsL_law wsL_item := goodIn_ca (goodIn_ca (goodIn_r _ [378, 60, 379, 380, 381, 382, 2, 383, 384, 385, 65, 66, 67, 68, 69, 70, 14, 71, 72, 73, 285, 286, 287, 18, 288, 25, 178, 179, 180, 181, 182, 183, 184, 185, 186, 386, 201, 202, 203, 26, 431, 432, 433, 434, 435, 436, 437, 438, 439, 440, 441, 442, 443, 444, 445, 402, 403, 404, 405, 406, 407, 408] (by decide +kernel) (by decide +kernel)) (goodIn_sub (fun _ h => List.mem_append_right _ h) (by decide +kernel))) (goodIn_sub (fun _ h => List.mem_append_left _ (List.mem_append_right _ h)) (by decide +kernel))
set_option maxRecDepth 20000 in
theorem gL_law_L_item : GoodIn wsL_law (va_wsS RL 85 yL_item wsL_item) := goodIn_app (goodIn_of _ (by decide +kernel)) ggL_law_L_item
set_option maxRecDepth 20000 in
theorem ggL_law_X3_item : GoodIn wsL_law wsX3_item := goodIn_r _ [390, 41, 82, 45, 46, 83, 84, 5, 85, 409, 410, 411, 412, 413, 414, 415, 416, 417, 418, 419, 420, 421, 422, 423, 424, 425, 426, 427, 428, 429, 430] (by decide +kernel) (by decide +kernel)
set_option maxRecDepth 20000 in
theorem gL_law_X3_item : GoodIn wsL_law (wsV RL 87 RX3 yX3_item wsX3_item) := goodIn_app (goodIn_of _ (by decide +kernel)) ggL_law_X3_item
set_option maxRecDepth 20000 in
theorem ggL_law_L_all : GoodIn wsL_law wsL_all := goodIn_ca (goodIn_r _ [393, 60, 394, 395, 396, 2, 397, 69, 70, 279, 195, 145, 146, 151, 152, 153, 154, 14, 161, 162, 163, 164, 165, 166, 167, 168, 155, 156, 157, 18, 158, 159, 160, 74, 75, 76, 77, 402, 403, 404, 405, 406, 407, 408, 431, 432, 433, 434, 435, 436, 437, 438, 439, 440, 441, 442, 443, 444, 445] (by decide +kernel) (by decide +kernel)) (goodIn_sub (fun _ h => List.mem_append_left _ (List.mem_append_right _ h)) (by decide +kernel))
set_option maxRecDepth 20000 in
theorem gL_law_L_all : GoodIn wsL_law (va_wsS RL 88 yL_all wsL_all) := goodIn_app (goodIn_of _ (by decide +kernel)) ggL_law_L_all
set_option maxRecDepth 20000 in
theorem ggL_law_X3_all : GoodIn wsL_law wsX3_all := goodIn_r _ [401, 82, 49, 48, 212, 213, 214, 215, 216, 5, 217, 41, 222, 223, 224, 225, 218, 219, 220, 221, 40, 86, 87, 88, 89, 409, 410, 411, 412, 413, 414, 415, 416, 417, 418, 419, 420, 421, 422, 423, 424, 425, 426, 427, 428, 429, 430] (by decide +kernel) (by decide +kernel)
set_option maxRecDepth 20000 in
theorem gL_law_X3_all : GoodIn wsL_law (wsV RL 90 RX3 yX3_all wsX3_all) := goodIn_app (goodIn_of _ (by decide +kernel)) ggL_law_X3_all
theorem dL_law_0 : decode cL_law 0 = .ok (.new 8, 3) := by decide +kernel
theorem dL_law_3 : decode cL_law 3 = .ok (.dup, 1) := by decide +kernel
theorem dL_law_4 : decode cL_law 4 = .ok (.invokespecial 41, 3) := by decide +kernel
theorem dL_law_7 : decode cL_law 7 = .ok (.astore_n 1, 1) := by decide +kernel
theorem dL_law_8 : decode cL_law 8 = .ok (.new 42, 3) := by decide +kernel
theorem dL_law_11 : decode cL_law 11 = .ok (.dup, 1) := by decide +kernel
theorem dL_law_12 : decode cL_law 12 = .ok (.invokespecial 44, 3) := by decide +kernel
theorem dL_law_15 : decode cL_law 15 = .ok (.astore_n 2, 1) := by decide +kernel
theorem dL_law_16 : decode cL_law 16 = .ok (.iconst 1, 1) := by decide +kernel
theorem dL_law_17 : decode cL_law 17 = .ok (.newarray .long, 2) := by decide +kernel
theorem dL_law_19 : decode cL_law 19 = .ok (.astore_n 3, 1) := by decide +kernel
theorem dL_law_20 : decode cL_law 20 = .ok (.iconst 0, 1) := by decide +kernel
theorem dL_law_21 : decode cL_law 21 = .ok (.istore 4, 2) := by decide +kernel
theorem dL_law_23 : decode cL_law 23 = .ok (.iload 4, 2) := by decide +kernel
theorem dL_law_25 : decode cL_law 25 = .ok (.aload_n 0, 1) := by decide +kernel
theorem dL_law_26 : decode cL_law 26 = .ok (.arraylength, 1) := by decide +kernel
theorem dL_law_27 : decode cL_law 27 = .ok (.iconst 4, 1) := by decide +kernel
theorem dL_law_28 : decode cL_law 28 = .ok (.isub, 1) := by decide +kernel
theorem dL_law_29 : decode cL_law 29 = .ok (.if_icmp .gt 648, 3) := by decide +kernel
theorem dL_law_32 : decode cL_law 32 = .ok (.aload_n 0, 1) := by decide +kernel
theorem dL_law_33 : decode cL_law 33 = .ok (.iload 4, 2) := by decide +kernel
theorem dL_law_35 : decode cL_law 35 = .ok (.iaload, 1) := by decide +kernel
theorem dL_law_36 : decode cL_law 36 = .ok (.bipush 15, 2) := by decide +kernel
theorem dL_law_38 : decode cL_law 38 = .ok (.iand, 1) := by decide +kernel
theorem dL_law_39 : decode cL_law 39 = .ok (.tableswitch 632 0 10 #[57, 137, 197, 277, 290, 303, 316, 372, 428, 496, 576], 57) := by decide +kernel
theorem dL_law_96 : decode cL_law 96 = .ok (.aload_n 1, 1) := by decide +kernel
theorem dL_law_97 : decode cL_law 97 = .ok (.aload_n 0, 1) := by decide +kernel
theorem dL_law_98 : decode cL_law 98 = .ok (.iload 4, 2) := by decide +kernel
theorem dL_law_100 : decode cL_law 100 = .ok (.iconst 1, 1) := by decide +kernel
theorem dL_law_101 : decode cL_law 101 = .ok (.iadd, 1) := by decide +kernel
theorem dL_law_102 : decode cL_law 102 = .ok (.iaload, 1) := by decide +kernel
theorem dL_law_103 : decode cL_law 103 = .ok (.aload_n 0, 1) := by decide +kernel
theorem dL_law_104 : decode cL_law 104 = .ok (.iload 4, 2) := by decide +kernel
theorem dL_law_106 : decode cL_law 106 = .ok (.iconst 2, 1) := by decide +kernel
theorem dL_law_107 : decode cL_law 107 = .ok (.iadd, 1) := by decide +kernel
theorem dL_law_108 : decode cL_law 108 = .ok (.iaload, 1) := by decide +kernel
theorem dL_law_109 : decode cL_law 109 = .ok (.aload_n 0, 1) := by decide +kernel
theorem dL_law_110 : decode cL_law 110 = .ok (.iload 4, 2) := by decide +kernel
theorem dL_law_112 : decode cL_law 112 = .ok (.iconst 3, 1) := by decide +kernel
theorem dL_law_113 : decode cL_law 113 = .ok (.iadd, 1) := by decide +kernel
theorem dL_law_114 : decode cL_law 114 = .ok (.iaload, 1) := by decide +kernel
theorem dL_law_115 : decode cL_law 115 = .ok (.aload_n 3, 1) := by decide +kernel
theorem dL_law_116 : decode cL_law 116 = .ok (.invokestatic 45, 3) := by decide +kernel
theorem dL_law_119 : decode cL_law 119 = .ok (.istore 5, 2) := by decide +kernel
theorem dL_law_121 : decode cL_law 121 = .ok (.aload_n 2, 1) := by decide +kernel
theorem dL_law_122 : decode cL_law 122 = .ok (.aload_n 0, 1) := by decide +kernel
theorem dL_law_123 : decode cL_law 123 = .ok (.iload 4, 2) := by decide +kernel
theorem dL_law_125 : decode cL_law 125 = .ok (.iconst 1, 1) := by decide +kernel
theorem dL_law_126 : decode cL_law 126 = .ok (.iadd, 1) := by decide +kernel
theorem dL_law_127 : decode cL_law 127 = .ok (.iaload, 1) := by decide +kernel
theorem dL_law_128 : decode cL_law 128 = .ok (.aload_n 0, 1) := by decide +kernel
theorem dL_law_129 : decode cL_law 129 = .ok (.iload 4, 2) := by decide +kernel
theorem dL_law_131 : decode cL_law 131 = .ok (.iconst 2, 1) := by decide +kernel
theorem dL_law_132 : decode cL_law 132 = .ok (.iadd, 1) := by decide +kernel
theorem dL_law_133 : decode cL_law 133 = .ok (.iaload, 1) := by decide +kernel
theorem dL_law_134 : decode cL_law 134 = .ok (.aload_n 0, 1) := by decide +kernel
theorem dL_law_135 : decode cL_law 135 = .ok (.iload 4, 2) := by decide +kernel
theorem dL_law_137 : decode cL_law 137 = .ok (.iconst 3, 1) := by decide +kernel
theorem dL_law_138 : decode cL_law 138 = .ok (.iadd, 1) := by decide +kernel
theorem dL_law_139 : decode cL_law 139 = .ok (.iaload, 1) := by decide +kernel
theorem dL_law_140 : decode cL_law 140 = .ok (.invokevirtual 50, 3) := by decide +kernel
theorem dL_law_143 : decode cL_law 143 = .ok (.istore 6, 2) := by decide +kernel
theorem dL_law_145 : decode cL_law 145 = .ok (.aload_n 2, 1) := by decide +kernel
theorem dL_law_146 : decode cL_law 146 = .ok (.invokevirtual 51, 3) := by decide +kernel
theorem dL_law_149 : decode cL_law 149 = .ok (.iload 5, 2) := by decide +kernel
theorem dL_law_151 : decode cL_law 151 = .ok (.if_icmp .eq 5, 3) := by decide +kernel
theorem dL_law_154 : decode cL_law 154 = .ok (.iconst 0, 1) := by decide +kernel
theorem dL_law_155 : decode cL_law 155 = .ok (.ireturn, 1) := by decide +kernel
theorem dL_law_156 : decode cL_law 156 = .ok (.iload 5, 2) := by decide +kernel
theorem dL_law_158 : decode cL_law 158 = .ok (.ifCond .ne 15, 3) := by decide +kernel
theorem dL_law_161 : decode cL_law 161 = .ok (.aload_n 3, 1) := by decide +kernel
theorem dL_law_162 : decode cL_law 162 = .ok (.iconst 0, 1) := by decide +kernel
theorem dL_law_163 : decode cL_law 163 = .ok (.laload, 1) := by decide +kernel
theorem dL_law_164 : decode cL_law 164 = .ok (.iload 6, 2) := by decide +kernel
theorem dL_law_166 : decode cL_law 166 = .ok (.i2l, 1) := by decide +kernel
theorem dL_law_167 : decode cL_law 167 = .ok (.lcmp, 1) := by decide +kernel
theorem dL_law_168 : decode cL_law 168 = .ok (.ifCond .eq 5, 3) := by decide +kernel
theorem dL_law_171 : decode cL_law 171 = .ok (.iconst 0, 1) := by decide +kernel
theorem dL_law_172 : decode cL_law 172 = .ok (.ireturn, 1) := by decide +kernel
theorem dL_law_173 : decode cL_law 173 = .ok (.goto 498, 3) := by decide +kernel
theorem dL_law_176 : decode cL_law 176 = .ok (.aload_n 1, 1) := by decide +kernel
theorem dL_law_177 : decode cL_law 177 = .ok (.aload_n 0, 1) := by decide +kernel
theorem dL_law_178 : decode cL_law 178 = .ok (.iload 4, 2) := by decide +kernel
theorem dL_law_180 : decode cL_law 180 = .ok (.iconst 1, 1) := by decide +kernel
theorem dL_law_181 : decode cL_law 181 = .ok (.iadd, 1) := by decide +kernel
theorem dL_law_182 : decode cL_law 182 = .ok (.iaload, 1) := by decide +kernel
theorem dL_law_183 : decode cL_law 183 = .ok (.aload_n 0, 1) := by decide +kernel
theorem dL_law_184 : decode cL_law 184 = .ok (.iload 4, 2) := by decide +kernel
theorem dL_law_186 : decode cL_law 186 = .ok (.iconst 2, 1) := by decide +kernel
theorem dL_law_187 : decode cL_law 187 = .ok (.iadd, 1) := by decide +kernel
theorem dL_law_188 : decode cL_law 188 = .ok (.iaload, 1) := by decide +kernel
theorem dL_law_189 : decode cL_law 189 = .ok (.aload_n 0, 1) := by decide +kernel
theorem dL_law_190 : decode cL_law 190 = .ok (.iload 4, 2) := by decide +kernel
theorem dL_law_192 : decode cL_law 192 = .ok (.iconst 3, 1) := by decide +kernel
theorem dL_law_193 : decode cL_law 193 = .ok (.iadd, 1) := by decide +kernel
theorem dL_law_194 : decode cL_law 194 = .ok (.iaload, 1) := by decide +kernel
theorem dL_law_195 : decode cL_law 195 = .ok (.invokestatic 55, 3) := by decide +kernel
theorem dL_law_198 : decode cL_law 198 = .ok (.istore 5, 2) := by decide +kernel
theorem dL_law_200 : decode cL_law 200 = .ok (.aload_n 2, 1) := by decide +kernel
theorem dL_law_201 : decode cL_law 201 = .ok (.aload_n 0, 1) := by decide +kernel
theorem dL_law_202 : decode cL_law 202 = .ok (.iload 4, 2) := by decide +kernel
theorem dL_law_204 : decode cL_law 204 = .ok (.iconst 1, 1) := by decide +kernel
theorem dL_law_205 : decode cL_law 205 = .ok (.iadd, 1) := by decide +kernel
theorem dL_law_206 : decode cL_law 206 = .ok (.iaload, 1) := by decide +kernel
theorem dL_law_207 : decode cL_law 207 = .ok (.aload_n 0, 1) := by decide +kernel
theorem dL_law_208 : decode cL_law 208 = .ok (.iload 4, 2) := by decide +kernel
theorem dL_law_210 : decode cL_law 210 = .ok (.iconst 2, 1) := by decide +kernel
theorem dL_law_211 : decode cL_law 211 = .ok (.iadd, 1) := by decide +kernel
theorem dL_law_212 : decode cL_law 212 = .ok (.iaload, 1) := by decide +kernel
theorem dL_law_213 : decode cL_law 213 = .ok (.aload_n 0, 1) := by decide +kernel
theorem dL_law_214 : decode cL_law 214 = .ok (.iload 4, 2) := by decide +kernel
theorem dL_law_216 : decode cL_law 216 = .ok (.iconst 3, 1) := by decide +kernel
theorem dL_law_217 : decode cL_law 217 = .ok (.iadd, 1) := by decide +kernel
theorem dL_law_218 : decode cL_law 218 = .ok (.iaload, 1) := by decide +kernel
theorem dL_law_219 : decode cL_law 219 = .ok (.invokevirtual 58, 3) := by decide +kernel
theorem dL_law_222 : decode cL_law 222 = .ok (.aload_n 2, 1) := by decide +kernel
theorem dL_law_223 : decode cL_law 223 = .ok (.invokevirtual 51, 3) := by decide +kernel
theorem dL_law_226 : decode cL_law 226 = .ok (.iload 5, 2) := by decide +kernel
theorem dL_law_228 : decode cL_law 228 = .ok (.if_icmp .eq 5, 3) := by decide +kernel
theorem dL_law_231 : decode cL_law 231 = .ok (.iconst 0, 1) := by decide +kernel
theorem dL_law_232 : decode cL_law 232 = .ok (.ireturn, 1) := by decide +kernel
theorem dL_law_233 : decode cL_law 233 = .ok (.goto 438, 3) := by decide +kernel
theorem dL_law_236 : decode cL_law 236 = .ok (.aload_n 1, 1) := by decide +kernel
theorem dL_law_237 : decode cL_law 237 = .ok (.aload_n 0, 1) := by decide +kernel
theorem dL_law_238 : decode cL_law 238 = .ok (.iload 4, 2) := by decide +kernel
theorem dL_law_240 : decode cL_law 240 = .ok (.iconst 1, 1) := by decide +kernel
theorem dL_law_241 : decode cL_law 241 = .ok (.iadd, 1) := by decide +kernel
theorem dL_law_242 : decode cL_law 242 = .ok (.iaload, 1) := by decide +kernel
theorem dL_law_243 : decode cL_law 243 = .ok (.aload_n 0, 1) := by decide +kernel
theorem dL_law_244 : decode cL_law 244 = .ok (.iload 4, 2) := by decide +kernel
theorem dL_law_246 : decode cL_law 246 = .ok (.iconst 2, 1) := by decide +kernel
theorem dL_law_247 : decode cL_law 247 = .ok (.iadd, 1) := by decide +kernel
theorem dL_law_248 : decode cL_law 248 = .ok (.iaload, 1) := by decide +kernel
theorem dL_law_249 : decode cL_law 249 = .ok (.aload_n 0, 1) := by decide +kernel
theorem dL_law_250 : decode cL_law 250 = .ok (.iload 4, 2) := by decide +kernel
theorem dL_law_252 : decode cL_law 252 = .ok (.iconst 3, 1) := by decide +kernel
theorem dL_law_253 : decode cL_law 253 = .ok (.iadd, 1) := by decide +kernel
theorem dL_law_254 : decode cL_law 254 = .ok (.iaload, 1) := by decide +kernel
theorem dL_law_255 : decode cL_law 255 = .ok (.aload_n 3, 1) := by decide +kernel
theorem dL_law_256 : decode cL_law 256 = .ok (.invokestatic 59, 3) := by decide +kernel
theorem dL_law_259 : decode cL_law 259 = .ok (.istore 5, 2) := by decide +kernel
theorem dL_law_261 : decode cL_law 261 = .ok (.aload_n 2, 1) := by decide +kernel
theorem dL_law_262 : decode cL_law 262 = .ok (.aload_n 0, 1) := by decide +kernel
theorem dL_law_263 : decode cL_law 263 = .ok (.iload 4, 2) := by decide +kernel
theorem dL_law_265 : decode cL_law 265 = .ok (.iconst 1, 1) := by decide +kernel
theorem dL_law_266 : decode cL_law 266 = .ok (.iadd, 1) := by decide +kernel
theorem dL_law_267 : decode cL_law 267 = .ok (.iaload, 1) := by decide +kernel
theorem dL_law_268 : decode cL_law 268 = .ok (.aload_n 0, 1) := by decide +kernel
theorem dL_law_269 : decode cL_law 269 = .ok (.iload 4, 2) := by decide +kernel
theorem dL_law_271 : decode cL_law 271 = .ok (.iconst 2, 1) := by decide +kernel
theorem dL_law_272 : decode cL_law 272 = .ok (.iadd, 1) := by decide +kernel
theorem dL_law_273 : decode cL_law 273 = .ok (.iaload, 1) := by decide +kernel
theorem dL_law_274 : decode cL_law 274 = .ok (.aload_n 0, 1) := by decide +kernel
theorem dL_law_275 : decode cL_law 275 = .ok (.iload 4, 2) := by decide +kernel
theorem dL_law_277 : decode cL_law 277 = .ok (.iconst 3, 1) := by decide +kernel
theorem dL_law_278 : decode cL_law 278 = .ok (.iadd, 1) := by decide +kernel
theorem dL_law_279 : decode cL_law 279 = .ok (.iaload, 1) := by decide +kernel
theorem dL_law_280 : decode cL_law 280 = .ok (.invokevirtual 61, 3) := by decide +kernel
theorem dL_law_283 : decode cL_law 283 = .ok (.istore 6, 2) := by decide +kernel
theorem dL_law_285 : decode cL_law 285 = .ok (.aload_n 2, 1) := by decide +kernel
theorem dL_law_286 : decode cL_law 286 = .ok (.invokevirtual 51, 3) := by decide +kernel
theorem dL_law_289 : decode cL_law 289 = .ok (.iload 5, 2) := by decide +kernel
theorem dL_law_291 : decode cL_law 291 = .ok (.if_icmp .eq 5, 3) := by decide +kernel
theorem dL_law_294 : decode cL_law 294 = .ok (.iconst 0, 1) := by decide +kernel
theorem dL_law_295 : decode cL_law 295 = .ok (.ireturn, 1) := by decide +kernel
theorem dL_law_296 : decode cL_law 296 = .ok (.iload 5, 2) := by decide +kernel
theorem dL_law_298 : decode cL_law 298 = .ok (.ifCond .ne 15, 3) := by decide +kernel
theorem dL_law_301 : decode cL_law 301 = .ok (.aload_n 3, 1) := by decide +kernel
theorem dL_law_302 : decode cL_law 302 = .ok (.iconst 0, 1) := by decide +kernel
theorem dL_law_303 : decode cL_law 303 = .ok (.laload, 1) := by decide +kernel
theorem dL_law_304 : decode cL_law 304 = .ok (.iload 6, 2) := by decide +kernel
theorem dL_law_306 : decode cL_law 306 = .ok (.i2l, 1) := by decide +kernel
theorem dL_law_307 : decode cL_law 307 = .ok (.lcmp, 1) := by decide +kernel
theorem dL_law_308 : decode cL_law 308 = .ok (.ifCond .eq 5, 3) := by decide +kernel
theorem dL_law_311 : decode cL_law 311 = .ok (.iconst 0, 1) := by decide +kernel
theorem dL_law_312 : decode cL_law 312 = .ok (.ireturn, 1) := by decide +kernel
theorem dL_law_313 : decode cL_law 313 = .ok (.goto 358, 3) := by decide +kernel
theorem dL_law_316 : decode cL_law 316 = .ok (.aload_n 1, 1) := by decide +kernel
theorem dL_law_317 : decode cL_law 317 = .ok (.invokevirtual 62, 3) := by decide +kernel
theorem dL_law_320 : decode cL_law 320 = .ok (.aload_n 2, 1) := by decide +kernel
theorem dL_law_321 : decode cL_law 321 = .ok (.invokevirtual 65, 3) := by decide +kernel
theorem dL_law_324 : decode cL_law 324 = .ok (.if_icmp .eq 347, 3) := by decide +kernel
theorem dL_law_327 : decode cL_law 327 = .ok (.iconst 0, 1) := by decide +kernel
theorem dL_law_328 : decode cL_law 328 = .ok (.ireturn, 1) := by decide +kernel
theorem dL_law_329 : decode cL_law 329 = .ok (.aload_n 1, 1) := by decide +kernel
theorem dL_law_330 : decode cL_law 330 = .ok (.invokevirtual 66, 3) := by decide +kernel
theorem dL_law_333 : decode cL_law 333 = .ok (.aload_n 2, 1) := by decide +kernel
theorem dL_law_334 : decode cL_law 334 = .ok (.invokevirtual 69, 3) := by decide +kernel
theorem dL_law_337 : decode cL_law 337 = .ok (.if_icmp .eq 334, 3) := by decide +kernel
theorem dL_law_340 : decode cL_law 340 = .ok (.iconst 0, 1) := by decide +kernel
theorem dL_law_341 : decode cL_law 341 = .ok (.ireturn, 1) := by decide +kernel
theorem dL_law_342 : decode cL_law 342 = .ok (.aload_n 1, 1) := by decide +kernel
theorem dL_law_343 : decode cL_law 343 = .ok (.invokevirtual 70, 3) := by decide +kernel
theorem dL_law_346 : decode cL_law 346 = .ok (.aload_n 2, 1) := by decide +kernel
theorem dL_law_347 : decode cL_law 347 = .ok (.invokevirtual 73, 3) := by decide +kernel
theorem dL_law_350 : decode cL_law 350 = .ok (.if_icmp .eq 321, 3) := by decide +kernel
theorem dL_law_353 : decode cL_law 353 = .ok (.iconst 0, 1) := by decide +kernel
theorem dL_law_354 : decode cL_law 354 = .ok (.ireturn, 1) := by decide +kernel
theorem dL_law_355 : decode cL_law 355 = .ok (.aload_n 1, 1) := by decide +kernel
theorem dL_law_356 : decode cL_law 356 = .ok (.aload_n 0, 1) := by decide +kernel
theorem dL_law_357 : decode cL_law 357 = .ok (.iload 4, 2) := by decide +kernel
theorem dL_law_359 : decode cL_law 359 = .ok (.iconst 1, 1) := by decide +kernel
theorem dL_law_360 : decode cL_law 360 = .ok (.iadd, 1) := by decide +kernel
theorem dL_law_361 : decode cL_law 361 = .ok (.iaload, 1) := by decide +kernel
theorem dL_law_362 : decode cL_law 362 = .ok (.aload_n 3, 1) := by decide +kernel
theorem dL_law_363 : decode cL_law 363 = .ok (.invokestatic 74, 3) := by decide +kernel
theorem dL_law_366 : decode cL_law 366 = .ok (.istore 5, 2) := by decide +kernel
theorem dL_law_368 : decode cL_law 368 = .ok (.aload_n 2, 1) := by decide +kernel
theorem dL_law_369 : decode cL_law 369 = .ok (.aload_n 0, 1) := by decide +kernel
theorem dL_law_370 : decode cL_law 370 = .ok (.iload 4, 2) := by decide +kernel
theorem dL_law_372 : decode cL_law 372 = .ok (.iconst 1, 1) := by decide +kernel
theorem dL_law_373 : decode cL_law 373 = .ok (.iadd, 1) := by decide +kernel
theorem dL_law_374 : decode cL_law 374 = .ok (.iaload, 1) := by decide +kernel
theorem dL_law_375 : decode cL_law 375 = .ok (.invokevirtual 77, 3) := by decide +kernel
theorem dL_law_378 : decode cL_law 378 = .ok (.istore 6, 2) := by decide +kernel
theorem dL_law_380 : decode cL_law 380 = .ok (.aload_n 2, 1) := by decide +kernel
theorem dL_law_381 : decode cL_law 381 = .ok (.invokevirtual 51, 3) := by decide +kernel
theorem dL_law_384 : decode cL_law 384 = .ok (.iload 5, 2) := by decide +kernel
theorem dL_law_386 : decode cL_law 386 = .ok (.if_icmp .eq 5, 3) := by decide +kernel
theorem dL_law_389 : decode cL_law 389 = .ok (.iconst 0, 1) := by decide +kernel
theorem dL_law_390 : decode cL_law 390 = .ok (.ireturn, 1) := by decide +kernel
theorem dL_law_391 : decode cL_law 391 = .ok (.iload 5, 2) := by decide +kernel
theorem dL_law_393 : decode cL_law 393 = .ok (.ifCond .ne 15, 3) := by decide +kernel
theorem dL_law_396 : decode cL_law 396 = .ok (.aload_n 3, 1) := by decide +kernel
theorem dL_law_397 : decode cL_law 397 = .ok (.iconst 0, 1) := by decide +kernel
theorem dL_law_398 : decode cL_law 398 = .ok (.laload, 1) := by decide +kernel
theorem dL_law_399 : decode cL_law 399 = .ok (.iload 6, 2) := by decide +kernel
theorem dL_law_401 : decode cL_law 401 = .ok (.i2l, 1) := by decide +kernel
theorem dL_law_402 : decode cL_law 402 = .ok (.lcmp, 1) := by decide +kernel
theorem dL_law_403 : decode cL_law 403 = .ok (.ifCond .eq 5, 3) := by decide +kernel
theorem dL_law_406 : decode cL_law 406 = .ok (.iconst 0, 1) := by decide +kernel
theorem dL_law_407 : decode cL_law 407 = .ok (.ireturn, 1) := by decide +kernel
theorem dL_law_408 : decode cL_law 408 = .ok (.goto 263, 3) := by decide +kernel
theorem dL_law_411 : decode cL_law 411 = .ok (.aload_n 1, 1) := by decide +kernel
theorem dL_law_412 : decode cL_law 412 = .ok (.aload_n 0, 1) := by decide +kernel
theorem dL_law_413 : decode cL_law 413 = .ok (.iload 4, 2) := by decide +kernel
theorem dL_law_415 : decode cL_law 415 = .ok (.iconst 1, 1) := by decide +kernel
theorem dL_law_416 : decode cL_law 416 = .ok (.iadd, 1) := by decide +kernel
theorem dL_law_417 : decode cL_law 417 = .ok (.iaload, 1) := by decide +kernel
theorem dL_law_418 : decode cL_law 418 = .ok (.aload_n 3, 1) := by decide +kernel
theorem dL_law_419 : decode cL_law 419 = .ok (.invokestatic 78, 3) := by decide +kernel
theorem dL_law_422 : decode cL_law 422 = .ok (.istore 5, 2) := by decide +kernel
theorem dL_law_424 : decode cL_law 424 = .ok (.aload_n 2, 1) := by decide +kernel
theorem dL_law_425 : decode cL_law 425 = .ok (.aload_n 0, 1) := by decide +kernel
theorem dL_law_426 : decode cL_law 426 = .ok (.iload 4, 2) := by decide +kernel
theorem dL_law_428 : decode cL_law 428 = .ok (.iconst 1, 1) := by decide +kernel
theorem dL_law_429 : decode cL_law 429 = .ok (.iadd, 1) := by decide +kernel
theorem dL_law_430 : decode cL_law 430 = .ok (.iaload, 1) := by decide +kernel
theorem dL_law_431 : decode cL_law 431 = .ok (.invokevirtual 80, 3) := by decide +kernel
theorem dL_law_434 : decode cL_law 434 = .ok (.istore 6, 2) := by decide +kernel
theorem dL_law_436 : decode cL_law 436 = .ok (.aload_n 2, 1) := by decide +kernel
theorem dL_law_437 : decode cL_law 437 = .ok (.invokevirtual 51, 3) := by decide +kernel
theorem dL_law_440 : decode cL_law 440 = .ok (.iload 5, 2) := by decide +kernel
theorem dL_law_442 : decode cL_law 442 = .ok (.if_icmp .eq 5, 3) := by decide +kernel
theorem dL_law_445 : decode cL_law 445 = .ok (.iconst 0, 1) := by decide +kernel
theorem dL_law_446 : decode cL_law 446 = .ok (.ireturn, 1) := by decide +kernel
theorem dL_law_447 : decode cL_law 447 = .ok (.iload 5, 2) := by decide +kernel
theorem dL_law_449 : decode cL_law 449 = .ok (.ifCond .ne 15, 3) := by decide +kernel
theorem dL_law_452 : decode cL_law 452 = .ok (.aload_n 3, 1) := by decide +kernel
theorem dL_law_453 : decode cL_law 453 = .ok (.iconst 0, 1) := by decide +kernel
theorem dL_law_454 : decode cL_law 454 = .ok (.laload, 1) := by decide +kernel
theorem dL_law_455 : decode cL_law 455 = .ok (.iload 6, 2) := by decide +kernel
theorem dL_law_457 : decode cL_law 457 = .ok (.i2l, 1) := by decide +kernel
theorem dL_law_458 : decode cL_law 458 = .ok (.lcmp, 1) := by decide +kernel
theorem dL_law_459 : decode cL_law 459 = .ok (.ifCond .eq 5, 3) := by decide +kernel
theorem dL_law_462 : decode cL_law 462 = .ok (.iconst 0, 1) := by decide +kernel
theorem dL_law_463 : decode cL_law 463 = .ok (.ireturn, 1) := by decide +kernel
theorem dL_law_464 : decode cL_law 464 = .ok (.goto 207, 3) := by decide +kernel
theorem dL_law_467 : decode cL_law 467 = .ok (.aload_n 1, 1) := by decide +kernel
theorem dL_law_468 : decode cL_law 468 = .ok (.aload_n 0, 1) := by decide +kernel
theorem dL_law_469 : decode cL_law 469 = .ok (.iload 4, 2) := by decide +kernel
theorem dL_law_471 : decode cL_law 471 = .ok (.iconst 1, 1) := by decide +kernel
theorem dL_law_472 : decode cL_law 472 = .ok (.iadd, 1) := by decide +kernel
theorem dL_law_473 : decode cL_law 473 = .ok (.iaload, 1) := by decide +kernel
theorem dL_law_474 : decode cL_law 474 = .ok (.aload_n 0, 1) := by decide +kernel
theorem dL_law_475 : decode cL_law 475 = .ok (.iload 4, 2) := by decide +kernel
theorem dL_law_477 : decode cL_law 477 = .ok (.iconst 2, 1) := by decide +kernel
theorem dL_law_478 : decode cL_law 478 = .ok (.iadd, 1) := by decide +kernel
theorem dL_law_479 : decode cL_law 479 = .ok (.iaload, 1) := by decide +kernel
theorem dL_law_480 : decode cL_law 480 = .ok (.aload_n 3, 1) := by decide +kernel
theorem dL_law_481 : decode cL_law 481 = .ok (.invokestatic 81, 3) := by decide +kernel
theorem dL_law_484 : decode cL_law 484 = .ok (.istore 5, 2) := by decide +kernel
theorem dL_law_486 : decode cL_law 486 = .ok (.aload_n 2, 1) := by decide +kernel
theorem dL_law_487 : decode cL_law 487 = .ok (.aload_n 0, 1) := by decide +kernel
theorem dL_law_488 : decode cL_law 488 = .ok (.iload 4, 2) := by decide +kernel
theorem dL_law_490 : decode cL_law 490 = .ok (.iconst 1, 1) := by decide +kernel
theorem dL_law_491 : decode cL_law 491 = .ok (.iadd, 1) := by decide +kernel
theorem dL_law_492 : decode cL_law 492 = .ok (.iaload, 1) := by decide +kernel
theorem dL_law_493 : decode cL_law 493 = .ok (.aload_n 0, 1) := by decide +kernel
theorem dL_law_494 : decode cL_law 494 = .ok (.iload 4, 2) := by decide +kernel
theorem dL_law_496 : decode cL_law 496 = .ok (.iconst 2, 1) := by decide +kernel
theorem dL_law_497 : decode cL_law 497 = .ok (.iadd, 1) := by decide +kernel
theorem dL_law_498 : decode cL_law 498 = .ok (.iaload, 1) := by decide +kernel
theorem dL_law_499 : decode cL_law 499 = .ok (.invokevirtual 84, 3) := by decide +kernel
theorem dL_law_502 : decode cL_law 502 = .ok (.istore 6, 2) := by decide +kernel
theorem dL_law_504 : decode cL_law 504 = .ok (.aload_n 2, 1) := by decide +kernel
theorem dL_law_505 : decode cL_law 505 = .ok (.invokevirtual 51, 3) := by decide +kernel
theorem dL_law_508 : decode cL_law 508 = .ok (.iload 5, 2) := by decide +kernel
theorem dL_law_510 : decode cL_law 510 = .ok (.if_icmp .eq 5, 3) := by decide +kernel
theorem dL_law_513 : decode cL_law 513 = .ok (.iconst 0, 1) := by decide +kernel
theorem dL_law_514 : decode cL_law 514 = .ok (.ireturn, 1) := by decide +kernel
theorem dL_law_515 : decode cL_law 515 = .ok (.iload 5, 2) := by decide +kernel
theorem dL_law_517 : decode cL_law 517 = .ok (.ifCond .ne 15, 3) := by decide +kernel
theorem dL_law_520 : decode cL_law 520 = .ok (.aload_n 3, 1) := by decide +kernel
theorem dL_law_521 : decode cL_law 521 = .ok (.iconst 0, 1) := by decide +kernel
theorem dL_law_522 : decode cL_law 522 = .ok (.laload, 1) := by decide +kernel
theorem dL_law_523 : decode cL_law 523 = .ok (.iload 6, 2) := by decide +kernel
theorem dL_law_525 : decode cL_law 525 = .ok (.i2l, 1) := by decide +kernel
theorem dL_law_526 : decode cL_law 526 = .ok (.lcmp, 1) := by decide +kernel
theorem dL_law_527 : decode cL_law 527 = .ok (.ifCond .eq 5, 3) := by decide +kernel
theorem dL_law_530 : decode cL_law 530 = .ok (.iconst 0, 1) := by decide +kernel
theorem dL_law_531 : decode cL_law 531 = .ok (.ireturn, 1) := by decide +kernel
theorem dL_law_532 : decode cL_law 532 = .ok (.goto 139, 3) := by decide +kernel
theorem dL_law_535 : decode cL_law 535 = .ok (.aload_n 1, 1) := by decide +kernel
theorem dL_law_536 : decode cL_law 536 = .ok (.aload_n 0, 1) := by decide +kernel
theorem dL_law_537 : decode cL_law 537 = .ok (.iload 4, 2) := by decide +kernel
theorem dL_law_539 : decode cL_law 539 = .ok (.iconst 1, 1) := by decide +kernel
theorem dL_law_540 : decode cL_law 540 = .ok (.iadd, 1) := by decide +kernel
theorem dL_law_541 : decode cL_law 541 = .ok (.iaload, 1) := by decide +kernel
theorem dL_law_542 : decode cL_law 542 = .ok (.aload_n 0, 1) := by decide +kernel
theorem dL_law_543 : decode cL_law 543 = .ok (.iload 4, 2) := by decide +kernel
theorem dL_law_545 : decode cL_law 545 = .ok (.iconst 2, 1) := by decide +kernel
theorem dL_law_546 : decode cL_law 546 = .ok (.iadd, 1) := by decide +kernel
theorem dL_law_547 : decode cL_law 547 = .ok (.iaload, 1) := by decide +kernel
theorem dL_law_548 : decode cL_law 548 = .ok (.aload_n 0, 1) := by decide +kernel
theorem dL_law_549 : decode cL_law 549 = .ok (.iload 4, 2) := by decide +kernel
theorem dL_law_551 : decode cL_law 551 = .ok (.iconst 3, 1) := by decide +kernel
theorem dL_law_552 : decode cL_law 552 = .ok (.iadd, 1) := by decide +kernel
theorem dL_law_553 : decode cL_law 553 = .ok (.iaload, 1) := by decide +kernel
theorem dL_law_554 : decode cL_law 554 = .ok (.aload_n 3, 1) := by decide +kernel
theorem dL_law_555 : decode cL_law 555 = .ok (.invokestatic 85, 3) := by decide +kernel
theorem dL_law_558 : decode cL_law 558 = .ok (.istore 5, 2) := by decide +kernel
theorem dL_law_560 : decode cL_law 560 = .ok (.aload_n 2, 1) := by decide +kernel
theorem dL_law_561 : decode cL_law 561 = .ok (.aload_n 0, 1) := by decide +kernel
theorem dL_law_562 : decode cL_law 562 = .ok (.iload 4, 2) := by decide +kernel
theorem dL_law_564 : decode cL_law 564 = .ok (.iconst 1, 1) := by decide +kernel
theorem dL_law_565 : decode cL_law 565 = .ok (.iadd, 1) := by decide +kernel
theorem dL_law_566 : decode cL_law 566 = .ok (.iaload, 1) := by decide +kernel
theorem dL_law_567 : decode cL_law 567 = .ok (.aload_n 0, 1) := by decide +kernel
theorem dL_law_568 : decode cL_law 568 = .ok (.iload 4, 2) := by decide +kernel
theorem dL_law_570 : decode cL_law 570 = .ok (.iconst 2, 1) := by decide +kernel
theorem dL_law_571 : decode cL_law 571 = .ok (.iadd, 1) := by decide +kernel
theorem dL_law_572 : decode cL_law 572 = .ok (.iaload, 1) := by decide +kernel
theorem dL_law_573 : decode cL_law 573 = .ok (.aload_n 0, 1) := by decide +kernel
theorem dL_law_574 : decode cL_law 574 = .ok (.iload 4, 2) := by decide +kernel
theorem dL_law_576 : decode cL_law 576 = .ok (.iconst 3, 1) := by decide +kernel
theorem dL_law_577 : decode cL_law 577 = .ok (.iadd, 1) := by decide +kernel
theorem dL_law_578 : decode cL_law 578 = .ok (.iaload, 1) := by decide +kernel
theorem dL_law_579 : decode cL_law 579 = .ok (.invokevirtual 87, 3) := by decide +kernel
theorem dL_law_582 : decode cL_law 582 = .ok (.istore 6, 2) := by decide +kernel
theorem dL_law_584 : decode cL_law 584 = .ok (.aload_n 2, 1) := by decide +kernel
theorem dL_law_585 : decode cL_law 585 = .ok (.invokevirtual 51, 3) := by decide +kernel
theorem dL_law_588 : decode cL_law 588 = .ok (.iload 5, 2) := by decide +kernel
theorem dL_law_590 : decode cL_law 590 = .ok (.if_icmp .eq 5, 3) := by decide +kernel
theorem dL_law_593 : decode cL_law 593 = .ok (.iconst 0, 1) := by decide +kernel
theorem dL_law_594 : decode cL_law 594 = .ok (.ireturn, 1) := by decide +kernel
theorem dL_law_595 : decode cL_law 595 = .ok (.iload 5, 2) := by decide +kernel
theorem dL_law_597 : decode cL_law 597 = .ok (.ifCond .ne 15, 3) := by decide +kernel
theorem dL_law_600 : decode cL_law 600 = .ok (.aload_n 3, 1) := by decide +kernel
theorem dL_law_601 : decode cL_law 601 = .ok (.iconst 0, 1) := by decide +kernel
theorem dL_law_602 : decode cL_law 602 = .ok (.laload, 1) := by decide +kernel
theorem dL_law_603 : decode cL_law 603 = .ok (.iload 6, 2) := by decide +kernel
theorem dL_law_605 : decode cL_law 605 = .ok (.i2l, 1) := by decide +kernel
theorem dL_law_606 : decode cL_law 606 = .ok (.lcmp, 1) := by decide +kernel
theorem dL_law_607 : decode cL_law 607 = .ok (.ifCond .eq 5, 3) := by decide +kernel
theorem dL_law_610 : decode cL_law 610 = .ok (.iconst 0, 1) := by decide +kernel
theorem dL_law_611 : decode cL_law 611 = .ok (.ireturn, 1) := by decide +kernel
theorem dL_law_612 : decode cL_law 612 = .ok (.goto 59, 3) := by decide +kernel
theorem dL_law_615 : decode cL_law 615 = .ok (.aload_n 1, 1) := by decide +kernel
theorem dL_law_616 : decode cL_law 616 = .ok (.aload_n 0, 1) := by decide +kernel
theorem dL_law_617 : decode cL_law 617 = .ok (.iload 4, 2) := by decide +kernel
theorem dL_law_619 : decode cL_law 619 = .ok (.iconst 1, 1) := by decide +kernel
theorem dL_law_620 : decode cL_law 620 = .ok (.iadd, 1) := by decide +kernel
theorem dL_law_621 : decode cL_law 621 = .ok (.iaload, 1) := by decide +kernel
theorem dL_law_622 : decode cL_law 622 = .ok (.aload_n 3, 1) := by decide +kernel
theorem dL_law_623 : decode cL_law 623 = .ok (.invokestatic 88, 3) := by decide +kernel
theorem dL_law_626 : decode cL_law 626 = .ok (.istore 5, 2) := by decide +kernel
theorem dL_law_628 : decode cL_law 628 = .ok (.aload_n 2, 1) := by decide +kernel
theorem dL_law_629 : decode cL_law 629 = .ok (.aload_n 0, 1) := by decide +kernel
theorem dL_law_630 : decode cL_law 630 = .ok (.iload 4, 2) := by decide +kernel
theorem dL_law_632 : decode cL_law 632 = .ok (.iconst 1, 1) := by decide +kernel
theorem dL_law_633 : decode cL_law 633 = .ok (.iadd, 1) := by decide +kernel
theorem dL_law_634 : decode cL_law 634 = .ok (.iaload, 1) := by decide +kernel
theorem dL_law_635 : decode cL_law 635 = .ok (.invokevirtual 90, 3) := by decide +kernel
theorem dL_law_638 : decode cL_law 638 = .ok (.istore 6, 2) := by decide +kernel
theorem dL_law_640 : decode cL_law 640 = .ok (.aload_n 2, 1) := by decide +kernel
theorem dL_law_641 : decode cL_law 641 = .ok (.invokevirtual 51, 3) := by decide +kernel
theorem dL_law_644 : decode cL_law 644 = .ok (.iload 5, 2) := by decide +kernel
theorem dL_law_646 : decode cL_law 646 = .ok (.if_icmp .eq 5, 3) := by decide +kernel
theorem dL_law_649 : decode cL_law 649 = .ok (.iconst 0, 1) := by decide +kernel
theorem dL_law_650 : decode cL_law 650 = .ok (.ireturn, 1) := by decide +kernel
theorem dL_law_651 : decode cL_law 651 = .ok (.iload 5, 2) := by decide +kernel
theorem dL_law_653 : decode cL_law 653 = .ok (.ifCond .ne 15, 3) := by decide +kernel
theorem dL_law_656 : decode cL_law 656 = .ok (.aload_n 3, 1) := by decide +kernel
theorem dL_law_657 : decode cL_law 657 = .ok (.iconst 0, 1) := by decide +kernel
theorem dL_law_658 : decode cL_law 658 = .ok (.laload, 1) := by decide +kernel
theorem dL_law_659 : decode cL_law 659 = .ok (.iload 6, 2) := by decide +kernel
theorem dL_law_661 : decode cL_law 661 = .ok (.i2l, 1) := by decide +kernel
theorem dL_law_662 : decode cL_law 662 = .ok (.lcmp, 1) := by decide +kernel
theorem dL_law_663 : decode cL_law 663 = .ok (.ifCond .eq 5, 3) := by decide +kernel
theorem dL_law_666 : decode cL_law 666 = .ok (.iconst 0, 1) := by decide +kernel
theorem dL_law_667 : decode cL_law 667 = .ok (.ireturn, 1) := by decide +kernel
theorem dL_law_668 : decode cL_law 668 = .ok (.goto 3, 3) := by decide +kernel
theorem dL_law_671 : decode cL_law 671 = .ok (.iinc 4 4, 3) := by decide +kernel
theorem dL_law_674 : decode cL_law 674 = .ok (.goto (-651), 3) := by decide +kernel
theorem dL_law_677 : decode cL_law 677 = .ok (.iconst 1, 1) := by decide +kernel
theorem dL_law_678 : decode cL_law 678 = .ok (.ireturn, 1) := by decide +kernel
abbrev vwCl : List vw_C := [(RX0, TX0, 15), (RX1, TX1, 2), (RX2, TX2, 7), (RX3, TX3, 22)]
