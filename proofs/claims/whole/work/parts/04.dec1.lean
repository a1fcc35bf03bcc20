theorem dX0_init_0 : decode cX0_init 0 = .ok (.aload_n 0, 1) := by decide +kernel
theorem dX0_init_1 : decode cX0_init 1 = .ok (.invokespecial 3, 3) := by decide +kernel
theorem dX0_init_4 : decode cX0_init 4 = .ok (.aload_n 0, 1) := by decide +kernel
theorem dX0_init_5 : decode cX0_init 5 = .ok (.bipush 96, 2) := by decide +kernel
theorem dX0_init_7 : decode cX0_init 7 = .ok (.newarray .int, 2) := by decide +kernel
theorem dX0_init_9 : decode cX0_init 9 = .ok (.putfield 9, 3) := by decide +kernel
theorem dX0_init_12 : decode cX0_init 12 = .ok (.aload_n 0, 1) := by decide +kernel
theorem dX0_init_13 : decode cX0_init 13 = .ok (.bipush 96, 2) := by decide +kernel
theorem dX0_init_15 : decode cX0_init 15 = .ok (.newarray .int, 2) := by decide +kernel
theorem dX0_init_17 : decode cX0_init 17 = .ok (.putfield 15, 3) := by decide +kernel
theorem dX0_init_20 : decode cX0_init 20 = .ok (.aload_n 0, 1) := by decide +kernel
theorem dX0_init_21 : decode cX0_init 21 = .ok (.iconst 1, 1) := by decide +kernel
theorem dX0_init_22 : decode cX0_init 22 = .ok (.putfield 18, 3) := by decide +kernel
theorem dX0_init_25 : decode cX0_init 25 = .ok (.aload_n 0, 1) := by decide +kernel
theorem dX0_init_26 : decode cX0_init 26 = .ok (.bipush 96, 2) := by decide +kernel
theorem dX0_init_28 : decode cX0_init 28 = .ok (.putfield 22, 3) := by decide +kernel
theorem dX0_init_31 : decode cX0_init 31 = .ok (.return_, 1) := by decide +kernel
theorem dX0_excess_0 : decode cX0_excess 0 = .ok (.aload_n 0, 1) := by decide +kernel
theorem dX0_excess_1 : decode cX0_excess 1 = .ok (.getfield 25, 3) := by decide +kernel
theorem dX0_excess_4 : decode cX0_excess 4 = .ok (.aload_n 0, 1) := by decide +kernel
theorem dX0_excess_5 : decode cX0_excess 5 = .ok (.getfield 28, 3) := by decide +kernel
theorem dX0_excess_8 : decode cX0_excess 8 = .ok (.isub, 1) := by decide +kernel
theorem dX0_excess_9 : decode cX0_excess 9 = .ok (.ireturn, 1) := by decide +kernel
set_option maxRecDepth 20000 in
theorem ggX0_wordAt_X0_cellOf : GoodIn wsX0_wordAt wsX0_cellOf := goodIn_r _ [6, 7, 8, 9, 10, 11, 12, 13, 14, 15, 16, 17, 18, 19, 20, 21, 22, 23, 24, 25, 26] (by decide +kernel) (by decide +kernel)
set_option maxRecDepth 20000 in
theorem gX0_wordAt_X0_cellOf : GoodIn wsX0_wordAt (wsV RX0 31 RX0 yX0_cellOf wsX0_cellOf) := goodIn_app (goodIn_of _ (by decide +kernel)) ggX0_wordAt_X0_cellOf
theorem dX0_wordAt_0 : decode cX0_wordAt 0 = .ok (.aload_n 0, 1) := by decide +kernel
theorem dX0_wordAt_1 : decode cX0_wordAt 1 = .ok (.getfield 9, 3) := by decide +kernel
theorem dX0_wordAt_4 : decode cX0_wordAt 4 = .ok (.aload_n 0, 1) := by decide +kernel
theorem dX0_wordAt_5 : decode cX0_wordAt 5 = .ok (.iload_n 1, 1) := by decide +kernel
theorem dX0_wordAt_6 : decode cX0_wordAt 6 = .ok (.invokevirtual 31, 3) := by decide +kernel
theorem dX0_wordAt_9 : decode cX0_wordAt 9 = .ok (.iaload, 1) := by decide +kernel
theorem dX0_wordAt_10 : decode cX0_wordAt 10 = .ok (.ireturn, 1) := by decide +kernel
set_option maxRecDepth 20000 in
theorem ggX0_costAt_X0_cellOf : GoodIn wsX0_costAt wsX0_cellOf := goodIn_r _ [6, 7, 8, 9, 10, 11, 12, 13, 14, 15, 16, 17, 18, 19, 20, 21, 22, 23, 24, 25, 26] (by decide +kernel) (by decide +kernel)
set_option maxRecDepth 20000 in
theorem gX0_costAt_X0_cellOf : GoodIn wsX0_costAt (wsV RX0 31 RX0 yX0_cellOf wsX0_cellOf) := goodIn_app (goodIn_of _ (by decide +kernel)) ggX0_costAt_X0_cellOf
theorem dX0_costAt_0 : decode cX0_costAt 0 = .ok (.aload_n 0, 1) := by decide +kernel
theorem dX0_costAt_1 : decode cX0_costAt 1 = .ok (.getfield 15, 3) := by decide +kernel
theorem dX0_costAt_4 : decode cX0_costAt 4 = .ok (.aload_n 0, 1) := by decide +kernel
theorem dX0_costAt_5 : decode cX0_costAt 5 = .ok (.iload_n 1, 1) := by decide +kernel
theorem dX0_costAt_6 : decode cX0_costAt 6 = .ok (.invokevirtual 31, 3) := by decide +kernel
theorem dX0_costAt_9 : decode cX0_costAt 9 = .ok (.iaload, 1) := by decide +kernel
theorem dX0_costAt_10 : decode cX0_costAt 10 = .ok (.ireturn, 1) := by decide +kernel
theorem dX0_firstCost_0 : decode cX0_firstCost 0 = .ok (.aload_n 0, 1) := by decide +kernel
theorem dX0_firstCost_1 : decode cX0_firstCost 1 = .ok (.getfield 15, 3) := by decide +kernel
theorem dX0_firstCost_4 : decode cX0_firstCost 4 = .ok (.aload_n 0, 1) := by decide +kernel
theorem dX0_firstCost_5 : decode cX0_firstCost 5 = .ok (.getfield 35, 3) := by decide +kernel
theorem dX0_firstCost_8 : decode cX0_firstCost 8 = .ok (.iaload, 1) := by decide +kernel
theorem dX0_firstCost_9 : decode cX0_firstCost 9 = .ok (.ireturn, 1) := by decide +kernel
set_option maxRecDepth 20000 in
theorem ggX0_putLast_X0_cellOf : GoodIn wsX0_putLast wsX0_cellOf := goodIn_r _ [9, 10, 11, 12, 13, 14, 15, 16, 17, 18, 19, 20, 21, 22, 23, 24, 25, 26, 27, 28, 29] (by decide +kernel) (by decide +kernel)
set_option maxRecDepth 20000 in
theorem gX0_putLast_X0_cellOf : GoodIn wsX0_putLast (wsV RX0 31 RX0 yX0_cellOf wsX0_cellOf) := goodIn_app (goodIn_of _ (by decide +kernel)) ggX0_putLast_X0_cellOf
theorem dX0_putLast_0 : decode cX0_putLast 0 = .ok (.aload_n 0, 1) := by decide +kernel
theorem dX0_putLast_1 : decode cX0_putLast 1 = .ok (.aload_n 0, 1) := by decide +kernel
theorem dX0_putLast_2 : decode cX0_putLast 2 = .ok (.getfield 25, 3) := by decide +kernel
theorem dX0_putLast_5 : decode cX0_putLast 5 = .ok (.invokevirtual 31, 3) := by decide +kernel
theorem dX0_putLast_8 : decode cX0_putLast 8 = .ok (.istore_n 3, 1) := by decide +kernel
theorem dX0_putLast_9 : decode cX0_putLast 9 = .ok (.aload_n 0, 1) := by decide +kernel
theorem dX0_putLast_10 : decode cX0_putLast 10 = .ok (.getfield 9, 3) := by decide +kernel
theorem dX0_putLast_13 : decode cX0_putLast 13 = .ok (.iload_n 3, 1) := by decide +kernel
theorem dX0_putLast_14 : decode cX0_putLast 14 = .ok (.iload_n 1, 1) := by decide +kernel
theorem dX0_putLast_15 : decode cX0_putLast 15 = .ok (.iastore, 1) := by decide +kernel
theorem dX0_putLast_16 : decode cX0_putLast 16 = .ok (.aload_n 0, 1) := by decide +kernel
theorem dX0_putLast_17 : decode cX0_putLast 17 = .ok (.getfield 15, 3) := by decide +kernel
theorem dX0_putLast_20 : decode cX0_putLast 20 = .ok (.iload_n 3, 1) := by decide +kernel
theorem dX0_putLast_21 : decode cX0_putLast 21 = .ok (.iload_n 2, 1) := by decide +kernel
theorem dX0_putLast_22 : decode cX0_putLast 22 = .ok (.iastore, 1) := by decide +kernel
theorem dX0_putLast_23 : decode cX0_putLast 23 = .ok (.aload_n 0, 1) := by decide +kernel
theorem dX0_putLast_24 : decode cX0_putLast 24 = .ok (.dup, 1) := by decide +kernel
theorem dX0_putLast_25 : decode cX0_putLast 25 = .ok (.getfield 38, 3) := by decide +kernel
theorem dX0_putLast_28 : decode cX0_putLast 28 = .ok (.iload_n 2, 1) := by decide +kernel
theorem dX0_putLast_29 : decode cX0_putLast 29 = .ok (.iadd, 1) := by decide +kernel
theorem dX0_putLast_30 : decode cX0_putLast 30 = .ok (.putfield 38, 3) := by decide +kernel
theorem dX0_putLast_33 : decode cX0_putLast 33 = .ok (.aload_n 0, 1) := by decide +kernel
theorem dX0_putLast_34 : decode cX0_putLast 34 = .ok (.dup, 1) := by decide +kernel
theorem dX0_putLast_35 : decode cX0_putLast 35 = .ok (.getfield 25, 3) := by decide +kernel
theorem dX0_putLast_38 : decode cX0_putLast 38 = .ok (.iconst 1, 1) := by decide +kernel
theorem dX0_putLast_39 : decode cX0_putLast 39 = .ok (.iadd, 1) := by decide +kernel
theorem dX0_putLast_40 : decode cX0_putLast 40 = .ok (.putfield 25, 3) := by decide +kernel
theorem dX0_putLast_43 : decode cX0_putLast 43 = .ok (.return_, 1) := by decide +kernel
set_option maxRecDepth 20000 in
theorem ggX0_dropFirst_X0_firstCost : GoodIn wsX0_dropFirst wsX0_firstCost := goodIn_r _ [8, 9, 2, 18, 19, 20, 21, 22, 23, 24, 25, 26, 27, 28, 29, 30, 31, 32] (by decide +kernel) (by decide +kernel)
set_option maxRecDepth 20000 in
theorem gX0_dropFirst_X0_firstCost : GoodIn wsX0_dropFirst (wsV RX0 41 RX0 yX0_firstCost wsX0_firstCost) := goodIn_app (goodIn_of _ (by decide +kernel)) ggX0_dropFirst_X0_firstCost
set_option maxRecDepth 20000 in
theorem ggX0_dropFirst_X0_cellOf : GoodIn wsX0_dropFirst wsX0_cellOf := goodIn_r _ [13, 2, 14, 15, 16, 17, 18, 19, 20, 21, 22, 23, 24, 25, 26, 27, 28, 29, 30, 31, 32] (by decide +kernel) (by decide +kernel)
set_option maxRecDepth 20000 in
theorem gX0_dropFirst_X0_cellOf : GoodIn wsX0_dropFirst (wsV RX0 31 RX0 yX0_cellOf wsX0_cellOf) := goodIn_app (goodIn_of _ (by decide +kernel)) ggX0_dropFirst_X0_cellOf
theorem dX0_dropFirst_0 : decode cX0_dropFirst 0 = .ok (.aload_n 0, 1) := by decide +kernel
theorem dX0_dropFirst_1 : decode cX0_dropFirst 1 = .ok (.dup, 1) := by decide +kernel
theorem dX0_dropFirst_2 : decode cX0_dropFirst 2 = .ok (.getfield 38, 3) := by decide +kernel
theorem dX0_dropFirst_5 : decode cX0_dropFirst 5 = .ok (.aload_n 0, 1) := by decide +kernel
theorem dX0_dropFirst_6 : decode cX0_dropFirst 6 = .ok (.invokevirtual 41, 3) := by decide +kernel
theorem dX0_dropFirst_9 : decode cX0_dropFirst 9 = .ok (.isub, 1) := by decide +kernel
theorem dX0_dropFirst_10 : decode cX0_dropFirst 10 = .ok (.putfield 38, 3) := by decide +kernel
theorem dX0_dropFirst_13 : decode cX0_dropFirst 13 = .ok (.aload_n 0, 1) := by decide +kernel
theorem dX0_dropFirst_14 : decode cX0_dropFirst 14 = .ok (.aload_n 0, 1) := by decide +kernel
theorem dX0_dropFirst_15 : decode cX0_dropFirst 15 = .ok (.iconst 1, 1) := by decide +kernel
theorem dX0_dropFirst_16 : decode cX0_dropFirst 16 = .ok (.invokevirtual 31, 3) := by decide +kernel
theorem dX0_dropFirst_19 : decode cX0_dropFirst 19 = .ok (.putfield 35, 3) := by decide +kernel
theorem dX0_dropFirst_22 : decode cX0_dropFirst 22 = .ok (.aload_n 0, 1) := by decide +kernel
theorem dX0_dropFirst_23 : decode cX0_dropFirst 23 = .ok (.dup, 1) := by decide +kernel
theorem dX0_dropFirst_24 : decode cX0_dropFirst 24 = .ok (.getfield 25, 3) := by decide +kernel
theorem dX0_dropFirst_27 : decode cX0_dropFirst 27 = .ok (.iconst 1, 1) := by decide +kernel
theorem dX0_dropFirst_28 : decode cX0_dropFirst 28 = .ok (.isub, 1) := by decide +kernel
theorem dX0_dropFirst_29 : decode cX0_dropFirst 29 = .ok (.putfield 25, 3) := by decide +kernel
theorem dX0_dropFirst_32 : decode cX0_dropFirst 32 = .ok (.return_, 1) := by decide +kernel
set_option maxRecDepth 20000 in
theorem ggX0_dropLast_X0_costAt : GoodIn wsX0_dropLast wsX0_costAt := goodIn_r _ [7, 8, 9, 10, 11, 6, 12, 13, 14, 15, 16, 17, 18, 19, 20, 21, 22, 23, 24, 25, 26, 27, 28, 29, 30, 31, 32] (by decide +kernel) (by decide +kernel)
set_option maxRecDepth 20000 in
theorem gX0_dropLast_X0_costAt : GoodIn wsX0_dropLast (wsV RX0 45 RX0 yX0_costAt wsX0_costAt) := goodIn_app (goodIn_of _ (by decide +kernel)) ggX0_dropLast_X0_costAt
theorem dX0_dropLast_0 : decode cX0_dropLast 0 = .ok (.aload_n 0, 1) := by decide +kernel
theorem dX0_dropLast_1 : decode cX0_dropLast 1 = .ok (.dup, 1) := by decide +kernel
theorem dX0_dropLast_2 : decode cX0_dropLast 2 = .ok (.getfield 38, 3) := by decide +kernel
theorem dX0_dropLast_5 : decode cX0_dropLast 5 = .ok (.aload_n 0, 1) := by decide +kernel
theorem dX0_dropLast_6 : decode cX0_dropLast 6 = .ok (.aload_n 0, 1) := by decide +kernel
theorem dX0_dropLast_7 : decode cX0_dropLast 7 = .ok (.getfield 25, 3) := by decide +kernel
theorem dX0_dropLast_10 : decode cX0_dropLast 10 = .ok (.iconst 1, 1) := by decide +kernel
theorem dX0_dropLast_11 : decode cX0_dropLast 11 = .ok (.isub, 1) := by decide +kernel
theorem dX0_dropLast_12 : decode cX0_dropLast 12 = .ok (.invokevirtual 45, 3) := by decide +kernel
theorem dX0_dropLast_15 : decode cX0_dropLast 15 = .ok (.isub, 1) := by decide +kernel
theorem dX0_dropLast_16 : decode cX0_dropLast 16 = .ok (.putfield 38, 3) := by decide +kernel
theorem dX0_dropLast_19 : decode cX0_dropLast 19 = .ok (.aload_n 0, 1) := by decide +kernel
theorem dX0_dropLast_20 : decode cX0_dropLast 20 = .ok (.dup, 1) := by decide +kernel
theorem dX0_dropLast_21 : decode cX0_dropLast 21 = .ok (.getfield 25, 3) := by decide +kernel
theorem dX0_dropLast_24 : decode cX0_dropLast 24 = .ok (.iconst 1, 1) := by decide +kernel
theorem dX0_dropLast_25 : decode cX0_dropLast 25 = .ok (.isub, 1) := by decide +kernel
theorem dX0_dropLast_26 : decode cX0_dropLast 26 = .ok (.putfield 25, 3) := by decide +kernel
theorem dX0_dropLast_29 : decode cX0_dropLast 29 = .ok (.return_, 1) := by decide +kernel
theorem dX0_dropAll_0 : decode cX0_dropAll 0 = .ok (.aload_n 0, 1) := by decide +kernel
theorem dX0_dropAll_1 : decode cX0_dropAll 1 = .ok (.iconst 0, 1) := by decide +kernel
theorem dX0_dropAll_2 : decode cX0_dropAll 2 = .ok (.putfield 38, 3) := by decide +kernel
theorem dX0_dropAll_5 : decode cX0_dropAll 5 = .ok (.aload_n 0, 1) := by decide +kernel
theorem dX0_dropAll_6 : decode cX0_dropAll 6 = .ok (.iconst 0, 1) := by decide +kernel
theorem dX0_dropAll_7 : decode cX0_dropAll 7 = .ok (.putfield 25, 3) := by decide +kernel
theorem dX0_dropAll_10 : decode cX0_dropAll 10 = .ok (.return_, 1) := by decide +kernel
set_option maxRecDepth 20000 in
theorem ggX0_looksInVain_X0_firstCost : GoodIn wsX0_looksInVain wsX0_firstCost := goodIn_r _ [8, 9, 10, 11, 12, 13, 14, 15, 16, 17, 18, 19, 20, 21, 22, 23, 24, 25] (by decide +kernel) (by decide +kernel)
set_option maxRecDepth 20000 in
theorem gX0_looksInVain_X0_firstCost : GoodIn wsX0_looksInVain (wsV RX0 41 RX0 yX0_firstCost wsX0_firstCost) := goodIn_app (goodIn_of _ (by decide +kernel)) ggX0_looksInVain_X0_firstCost
theorem dX0_looksInVain_0 : decode cX0_looksInVain 0 = .ok (.aload_n 0, 1) := by decide +kernel
theorem dX0_looksInVain_1 : decode cX0_looksInVain 1 = .ok (.getfield 48, 3) := by decide +kernel
theorem dX0_looksInVain_4 : decode cX0_looksInVain 4 = .ok (.ifCond .eq 10, 3) := by decide +kernel
theorem dX0_looksInVain_7 : decode cX0_looksInVain 7 = .ok (.aload_n 0, 1) := by decide +kernel
theorem dX0_looksInVain_8 : decode cX0_looksInVain 8 = .ok (.getfield 52, 3) := by decide +kernel
theorem dX0_looksInVain_11 : decode cX0_looksInVain 11 = .ok (.goto 12, 3) := by decide +kernel
theorem dX0_looksInVain_14 : decode cX0_looksInVain 14 = .ok (.aload_n 0, 1) := by decide +kernel
theorem dX0_looksInVain_15 : decode cX0_looksInVain 15 = .ok (.getfield 52, 3) := by decide +kernel
theorem dX0_looksInVain_18 : decode cX0_looksInVain 18 = .ok (.aload_n 0, 1) := by decide +kernel
theorem dX0_looksInVain_19 : decode cX0_looksInVain 19 = .ok (.getfield 18, 3) := by decide +kernel
theorem dX0_looksInVain_22 : decode cX0_looksInVain 22 = .ok (.iadd, 1) := by decide +kernel
theorem dX0_looksInVain_23 : decode cX0_looksInVain 23 = .ok (.istore_n 1, 1) := by decide +kernel
theorem dX0_looksInVain_24 : decode cX0_looksInVain 24 = .ok (.aload_n 0, 1) := by decide +kernel
theorem dX0_looksInVain_25 : decode cX0_looksInVain 25 = .ok (.invokevirtual 41, 3) := by decide +kernel
theorem dX0_looksInVain_28 : decode cX0_looksInVain 28 = .ok (.iload_n 1, 1) := by decide +kernel
theorem dX0_looksInVain_29 : decode cX0_looksInVain 29 = .ok (.isub, 1) := by decide +kernel
theorem dX0_looksInVain_30 : decode cX0_looksInVain 30 = .ok (.istore_n 2, 1) := by decide +kernel
theorem dX0_looksInVain_31 : decode cX0_looksInVain 31 = .ok (.iload_n 2, 1) := by decide +kernel
theorem dX0_looksInVain_32 : decode cX0_looksInVain 32 = .ok (.ifCond .le 10, 3) := by decide +kernel
theorem dX0_looksInVain_35 : decode cX0_looksInVain 35 = .ok (.aload_n 0, 1) := by decide +kernel
theorem dX0_looksInVain_36 : decode cX0_looksInVain 36 = .ok (.getfield 18, 3) := by decide +kernel
theorem dX0_looksInVain_39 : decode cX0_looksInVain 39 = .ok (.ifCond .gt 5, 3) := by decide +kernel
theorem dX0_looksInVain_42 : decode cX0_looksInVain 42 = .ok (.iconst 0, 1) := by decide +kernel
theorem dX0_looksInVain_43 : decode cX0_looksInVain 43 = .ok (.ireturn, 1) := by decide +kernel
theorem dX0_looksInVain_44 : decode cX0_looksInVain 44 = .ok (.iload_n 2, 1) := by decide +kernel
theorem dX0_looksInVain_45 : decode cX0_looksInVain 45 = .ok (.aload_n 0, 1) := by decide +kernel
theorem dX0_looksInVain_46 : decode cX0_looksInVain 46 = .ok (.getfield 18, 3) := by decide +kernel
theorem dX0_looksInVain_49 : decode cX0_looksInVain 49 = .ok (.iadd, 1) := by decide +kernel
theorem dX0_looksInVain_50 : decode cX0_looksInVain 50 = .ok (.iconst 1, 1) := by decide +kernel
theorem dX0_looksInVain_51 : decode cX0_looksInVain 51 = .ok (.isub, 1) := by decide +kernel
theorem dX0_looksInVain_52 : decode cX0_looksInVain 52 = .ok (.aload_n 0, 1) := by decide +kernel
theorem dX0_looksInVain_53 : decode cX0_looksInVain 53 = .ok (.getfield 18, 3) := by decide +kernel
theorem dX0_looksInVain_56 : decode cX0_looksInVain 56 = .ok (.idiv, 1) := by decide +kernel
theorem dX0_looksInVain_57 : decode cX0_looksInVain 57 = .ok (.ireturn, 1) := by decide +kernel
theorem dX0_lookInVain_0 : decode cX0_lookInVain 0 = .ok (.iload_n 1, 1) := by decide +kernel
theorem dX0_lookInVain_1 : decode cX0_lookInVain 1 = .ok (.ifCond .le 38, 3) := by decide +kernel
theorem dX0_lookInVain_4 : decode cX0_lookInVain 4 = .ok (.aload_n 0, 1) := by decide +kernel
theorem dX0_lookInVain_5 : decode cX0_lookInVain 5 = .ok (.getfield 48, 3) := by decide +kernel
theorem dX0_lookInVain_8 : decode cX0_lookInVain 8 = .ok (.ifCond .eq 9, 3) := by decide +kernel
theorem dX0_lookInVain_11 : decode cX0_lookInVain 11 = .ok (.iload_n 1, 1) := by decide +kernel
theorem dX0_lookInVain_12 : decode cX0_lookInVain 12 = .ok (.iconst 1, 1) := by decide +kernel
theorem dX0_lookInVain_13 : decode cX0_lookInVain 13 = .ok (.isub, 1) := by decide +kernel
theorem dX0_lookInVain_14 : decode cX0_lookInVain 14 = .ok (.goto 4, 3) := by decide +kernel
theorem dX0_lookInVain_17 : decode cX0_lookInVain 17 = .ok (.iload_n 1, 1) := by decide +kernel
theorem dX0_lookInVain_18 : decode cX0_lookInVain 18 = .ok (.istore_n 2, 1) := by decide +kernel
theorem dX0_lookInVain_19 : decode cX0_lookInVain 19 = .ok (.aload_n 0, 1) := by decide +kernel
theorem dX0_lookInVain_20 : decode cX0_lookInVain 20 = .ok (.dup, 1) := by decide +kernel
theorem dX0_lookInVain_21 : decode cX0_lookInVain 21 = .ok (.getfield 52, 3) := by decide +kernel
theorem dX0_lookInVain_24 : decode cX0_lookInVain 24 = .ok (.iload_n 2, 1) := by decide +kernel
theorem dX0_lookInVain_25 : decode cX0_lookInVain 25 = .ok (.aload_n 0, 1) := by decide +kernel
theorem dX0_lookInVain_26 : decode cX0_lookInVain 26 = .ok (.getfield 18, 3) := by decide +kernel
theorem dX0_lookInVain_29 : decode cX0_lookInVain 29 = .ok (.imul, 1) := by decide +kernel
theorem dX0_lookInVain_30 : decode cX0_lookInVain 30 = .ok (.iadd, 1) := by decide +kernel
theorem dX0_lookInVain_31 : decode cX0_lookInVain 31 = .ok (.putfield 52, 3) := by decide +kernel
theorem dX0_lookInVain_34 : decode cX0_lookInVain 34 = .ok (.aload_n 0, 1) := by decide +kernel
theorem dX0_lookInVain_35 : decode cX0_lookInVain 35 = .ok (.iconst 0, 1) := by decide +kernel
theorem dX0_lookInVain_36 : decode cX0_lookInVain 36 = .ok (.putfield 48, 3) := by decide +kernel
theorem dX0_lookInVain_39 : decode cX0_lookInVain 39 = .ok (.return_, 1) := by decide +kernel
theorem dX0_takeTurn_0 : decode cX0_takeTurn 0 = .ok (.aload_n 0, 1) := by decide +kernel
theorem dX0_takeTurn_1 : decode cX0_takeTurn 1 = .ok (.getfield 48, 3) := by decide +kernel
theorem dX0_takeTurn_4 : decode cX0_takeTurn 4 = .ok (.ifCond .ne 21, 3) := by decide +kernel
theorem dX0_takeTurn_7 : decode cX0_takeTurn 7 = .ok (.aload_n 0, 1) := by decide +kernel
theorem dX0_takeTurn_8 : decode cX0_takeTurn 8 = .ok (.iconst 1, 1) := by decide +kernel
theorem dX0_takeTurn_9 : decode cX0_takeTurn 9 = .ok (.putfield 48, 3) := by decide +kernel
theorem dX0_takeTurn_12 : decode cX0_takeTurn 12 = .ok (.aload_n 0, 1) := by decide +kernel
theorem dX0_takeTurn_13 : decode cX0_takeTurn 13 = .ok (.dup, 1) := by decide +kernel
theorem dX0_takeTurn_14 : decode cX0_takeTurn 14 = .ok (.getfield 52, 3) := by decide +kernel
theorem dX0_takeTurn_17 : decode cX0_takeTurn 17 = .ok (.aload_n 0, 1) := by decide +kernel
theorem dX0_takeTurn_18 : decode cX0_takeTurn 18 = .ok (.getfield 18, 3) := by decide +kernel
theorem dX0_takeTurn_21 : decode cX0_takeTurn 21 = .ok (.iadd, 1) := by decide +kernel
theorem dX0_takeTurn_22 : decode cX0_takeTurn 22 = .ok (.putfield 52, 3) := by decide +kernel
theorem dX0_takeTurn_25 : decode cX0_takeTurn 25 = .ok (.return_, 1) := by decide +kernel
set_option maxRecDepth 20000 in
theorem ggX0_cellOf_J9_floorMod_7cf53 : GoodIn wsX0_cellOf wsJ9_floorMod_7cf53 := goodIn_r _ [5] (by decide +kernel) (by decide +kernel)
set_option maxRecDepth 20000 in
theorem gX0_cellOf_J9_floorMod_7cf53 : GoodIn wsX0_cellOf (va_wsS RX0 55 yJ9_floorMod_7cf53 wsJ9_floorMod_7cf53) := goodIn_app (goodIn_of _ (by decide +kernel)) ggX0_cellOf_J9_floorMod_7cf53
theorem dX0_cellOf_0 : decode cX0_cellOf 0 = .ok (.aload_n 0, 1) := by decide +kernel
theorem dX0_cellOf_1 : decode cX0_cellOf 1 = .ok (.getfield 35, 3) := by decide +kernel
theorem dX0_cellOf_4 : decode cX0_cellOf 4 = .ok (.iload_n 1, 1) := by decide +kernel
theorem dX0_cellOf_5 : decode cX0_cellOf 5 = .ok (.iadd, 1) := by decide +kernel
theorem dX0_cellOf_6 : decode cX0_cellOf 6 = .ok (.bipush 96, 2) := by decide +kernel
theorem dX0_cellOf_8 : decode cX0_cellOf 8 = .ok (.invokestatic 55, 3) := by decide +kernel
theorem dX0_cellOf_11 : decode cX0_cellOf 11 = .ok (.ireturn, 1) := by decide +kernel
theorem dX1_init_0 : decode cX1_init 0 = .ok (.aload_n 0, 1) := by decide +kernel
theorem dX1_init_1 : decode cX1_init 1 = .ok (.invokespecial 3, 3) := by decide +kernel
theorem dX1_init_4 : decode cX1_init 4 = .ok (.aload_n 0, 1) := by decide +kernel
theorem dX1_init_5 : decode cX1_init 5 = .ok (.bipush 12, 2) := by decide +kernel
theorem dX1_init_7 : decode cX1_init 7 = .ok (.newarray .int, 2) := by decide +kernel
theorem dX1_init_9 : decode cX1_init 9 = .ok (.putfield 9, 3) := by decide +kernel
theorem dX1_init_12 : decode cX1_init 12 = .ok (.return_, 1) := by decide +kernel
theorem dX1_queueAt_0 : decode cX1_queueAt 0 = .ok (.aload_n 0, 1) := by decide +kernel
theorem dX1_queueAt_1 : decode cX1_queueAt 1 = .ok (.getfield 9, 3) := by decide +kernel
theorem dX1_queueAt_4 : decode cX1_queueAt 4 = .ok (.iload_n 1, 1) := by decide +kernel
theorem dX1_queueAt_5 : decode cX1_queueAt 5 = .ok (.iaload, 1) := by decide +kernel
theorem dX1_queueAt_6 : decode cX1_queueAt 6 = .ok (.ireturn, 1) := by decide +kernel
theorem dX1_placeOf_0 : decode cX1_placeOf 0 = .ok (.iconst 0, 1) := by decide +kernel
theorem dX1_placeOf_1 : decode cX1_placeOf 1 = .ok (.istore_n 2, 1) := by decide +kernel
theorem dX1_placeOf_2 : decode cX1_placeOf 2 = .ok (.iload_n 2, 1) := by decide +kernel
theorem dX1_placeOf_3 : decode cX1_placeOf 3 = .ok (.aload_n 0, 1) := by decide +kernel
theorem dX1_placeOf_4 : decode cX1_placeOf 4 = .ok (.getfield 15, 3) := by decide +kernel
theorem dX1_placeOf_7 : decode cX1_placeOf 7 = .ok (.if_icmp .ge 21, 3) := by decide +kernel
theorem dX1_placeOf_10 : decode cX1_placeOf 10 = .ok (.aload_n 0, 1) := by decide +kernel
theorem dX1_placeOf_11 : decode cX1_placeOf 11 = .ok (.getfield 9, 3) := by decide +kernel
theorem dX1_placeOf_14 : decode cX1_placeOf 14 = .ok (.iload_n 2, 1) := by decide +kernel
theorem dX1_placeOf_15 : decode cX1_placeOf 15 = .ok (.iaload, 1) := by decide +kernel
theorem dX1_placeOf_16 : decode cX1_placeOf 16 = .ok (.iload_n 1, 1) := by decide +kernel
theorem dX1_placeOf_17 : decode cX1_placeOf 17 = .ok (.if_icmp .ne 5, 3) := by decide +kernel
theorem dX1_placeOf_20 : decode cX1_placeOf 20 = .ok (.iload_n 2, 1) := by decide +kernel
theorem dX1_placeOf_21 : decode cX1_placeOf 21 = .ok (.ireturn, 1) := by decide +kernel
theorem dX1_placeOf_22 : decode cX1_placeOf 22 = .ok (.iinc 2 1, 3) := by decide +kernel
theorem dX1_placeOf_25 : decode cX1_placeOf 25 = .ok (.goto (-23), 3) := by decide +kernel
theorem dX1_placeOf_28 : decode cX1_placeOf 28 = .ok (.iconst (-1), 1) := by decide +kernel
theorem dX1_placeOf_29 : decode cX1_placeOf 29 = .ok (.ireturn, 1) := by decide +kernel
theorem dX1_putAtEnd_0 : decode cX1_putAtEnd 0 = .ok (.aload_n 0, 1) := by decide +kernel
theorem dX1_putAtEnd_1 : decode cX1_putAtEnd 1 = .ok (.getfield 15, 3) := by decide +kernel
theorem dX1_putAtEnd_4 : decode cX1_putAtEnd 4 = .ok (.bipush 12, 2) := by decide +kernel
theorem dX1_putAtEnd_6 : decode cX1_putAtEnd 6 = .ok (.if_icmp .ge 23, 3) := by decide +kernel
theorem dX1_putAtEnd_9 : decode cX1_putAtEnd 9 = .ok (.aload_n 0, 1) := by decide +kernel
theorem dX1_putAtEnd_10 : decode cX1_putAtEnd 10 = .ok (.getfield 9, 3) := by decide +kernel
theorem dX1_putAtEnd_13 : decode cX1_putAtEnd 13 = .ok (.aload_n 0, 1) := by decide +kernel
theorem dX1_putAtEnd_14 : decode cX1_putAtEnd 14 = .ok (.getfield 15, 3) := by decide +kernel
theorem dX1_putAtEnd_17 : decode cX1_putAtEnd 17 = .ok (.iload_n 1, 1) := by decide +kernel
theorem dX1_putAtEnd_18 : decode cX1_putAtEnd 18 = .ok (.iastore, 1) := by decide +kernel
theorem dX1_putAtEnd_19 : decode cX1_putAtEnd 19 = .ok (.aload_n 0, 1) := by decide +kernel
theorem dX1_putAtEnd_20 : decode cX1_putAtEnd 20 = .ok (.dup, 1) := by decide +kernel
theorem dX1_putAtEnd_21 : decode cX1_putAtEnd 21 = .ok (.getfield 15, 3) := by decide +kernel
theorem dX1_putAtEnd_24 : decode cX1_putAtEnd 24 = .ok (.iconst 1, 1) := by decide +kernel
theorem dX1_putAtEnd_25 : decode cX1_putAtEnd 25 = .ok (.iadd, 1) := by decide +kernel
theorem dX1_putAtEnd_26 : decode cX1_putAtEnd 26 = .ok (.putfield 15, 3) := by decide +kernel
theorem dX1_putAtEnd_29 : decode cX1_putAtEnd 29 = .ok (.return_, 1) := by decide +kernel
set_option maxRecDepth 20000 in
theorem ggX1_takeOut_X1_placeOf : GoodIn wsX1_takeOut wsX1_placeOf := goodIn_r _ [11, 1, 2, 12, 13] (by decide +kernel) (by decide +kernel)
set_option maxRecDepth 20000 in
theorem gX1_takeOut_X1_placeOf : GoodIn wsX1_takeOut (wsV RX1 19 RX1 yX1_placeOf wsX1_placeOf) := goodIn_app (goodIn_of _ (by decide +kernel)) ggX1_takeOut_X1_placeOf
theorem dX1_takeOut_0 : decode cX1_takeOut 0 = .ok (.aload_n 0, 1) := by decide +kernel
theorem dX1_takeOut_1 : decode cX1_takeOut 1 = .ok (.iload_n 1, 1) := by decide +kernel
theorem dX1_takeOut_2 : decode cX1_takeOut 2 = .ok (.invokevirtual 19, 3) := by decide +kernel
theorem dX1_takeOut_5 : decode cX1_takeOut 5 = .ok (.istore_n 2, 1) := by decide +kernel
theorem dX1_takeOut_6 : decode cX1_takeOut 6 = .ok (.iload_n 2, 1) := by decide +kernel
theorem dX1_takeOut_7 : decode cX1_takeOut 7 = .ok (.iconst (-1), 1) := by decide +kernel
theorem dX1_takeOut_8 : decode cX1_takeOut 8 = .ok (.if_icmp .eq 34, 3) := by decide +kernel
theorem dX1_takeOut_11 : decode cX1_takeOut 11 = .ok (.aload_n 0, 1) := by decide +kernel
theorem dX1_takeOut_12 : decode cX1_takeOut 12 = .ok (.dup, 1) := by decide +kernel
theorem dX1_takeOut_13 : decode cX1_takeOut 13 = .ok (.getfield 15, 3) := by decide +kernel
theorem dX1_takeOut_16 : decode cX1_takeOut 16 = .ok (.iconst 1, 1) := by decide +kernel
theorem dX1_takeOut_17 : decode cX1_takeOut 17 = .ok (.isub, 1) := by decide +kernel
theorem dX1_takeOut_18 : decode cX1_takeOut 18 = .ok (.putfield 15, 3) := by decide +kernel
theorem dX1_takeOut_21 : decode cX1_takeOut 21 = .ok (.aload_n 0, 1) := by decide +kernel
theorem dX1_takeOut_22 : decode cX1_takeOut 22 = .ok (.getfield 9, 3) := by decide +kernel
theorem dX1_takeOut_25 : decode cX1_takeOut 25 = .ok (.iload_n 2, 1) := by decide +kernel
theorem dX1_takeOut_26 : decode cX1_takeOut 26 = .ok (.iconst 1, 1) := by decide +kernel
theorem dX1_takeOut_27 : decode cX1_takeOut 27 = .ok (.iadd, 1) := by decide +kernel
theorem dX1_takeOut_28 : decode cX1_takeOut 28 = .ok (.aload_n 0, 1) := by decide +kernel
theorem dX1_takeOut_29 : decode cX1_takeOut 29 = .ok (.getfield 9, 3) := by decide +kernel
theorem dX1_takeOut_32 : decode cX1_takeOut 32 = .ok (.iload_n 2, 1) := by decide +kernel
theorem dX1_takeOut_33 : decode cX1_takeOut 33 = .ok (.aload_n 0, 1) := by decide +kernel
theorem dX1_takeOut_34 : decode cX1_takeOut 34 = .ok (.getfield 15, 3) := by decide +kernel
theorem dX1_takeOut_37 : decode cX1_takeOut 37 = .ok (.iload_n 2, 1) := by decide +kernel
theorem dX1_takeOut_38 : decode cX1_takeOut 38 = .ok (.isub, 1) := by decide +kernel
theorem dX1_takeOut_39 : decode cX1_takeOut 39 = .ok (.invokestatic 23, 3) := by decide +kernel
theorem dX1_takeOut_42 : decode cX1_takeOut 42 = .ok (.return_, 1) := by decide +kernel
set_option maxRecDepth 20000 in
theorem ggX1_turnBy_X1_takeOut : GoodIn wsX1_turnBy wsX1_takeOut := goodIn_r _ [6, 7, 1, 8, 9, 10, 11, 12, 13, 14, 5, 15, 20, 21] (by decide +kernel) (by decide +kernel)
set_option maxRecDepth 20000 in
theorem gX1_turnBy_X1_takeOut : GoodIn wsX1_turnBy (wsV RX1 29 RX1 yX1_takeOut wsX1_takeOut) := goodIn_app (goodIn_of _ (by decide +kernel)) ggX1_turnBy_X1_takeOut
set_option maxRecDepth 20000 in
theorem ggX1_turnBy_X1_putAtEnd : GoodIn wsX1_turnBy wsX1_putAtEnd := goodIn_r _ [19, 7, 1, 20, 21] (by decide +kernel) (by decide +kernel)
set_option maxRecDepth 20000 in
theorem gX1_turnBy_X1_putAtEnd : GoodIn wsX1_turnBy (wsV RX1 33 RX1 yX1_putAtEnd wsX1_putAtEnd) := goodIn_app (goodIn_of _ (by decide +kernel)) ggX1_turnBy_X1_putAtEnd
theorem dX1_turnBy_0 : decode cX1_turnBy 0 = .ok (.iconst 0, 1) := by decide +kernel
theorem dX1_turnBy_1 : decode cX1_turnBy 1 = .ok (.istore_n 2, 1) := by decide +kernel
theorem dX1_turnBy_2 : decode cX1_turnBy 2 = .ok (.iload_n 2, 1) := by decide +kernel
theorem dX1_turnBy_3 : decode cX1_turnBy 3 = .ok (.iload_n 1, 1) := by decide +kernel
theorem dX1_turnBy_4 : decode cX1_turnBy 4 = .ok (.if_icmp .ge 26, 3) := by decide +kernel
theorem dX1_turnBy_7 : decode cX1_turnBy 7 = .ok (.aload_n 0, 1) := by decide +kernel
theorem dX1_turnBy_8 : decode cX1_turnBy 8 = .ok (.getfield 9, 3) := by decide +kernel
theorem dX1_turnBy_11 : decode cX1_turnBy 11 = .ok (.iconst 0, 1) := by decide +kernel
theorem dX1_turnBy_12 : decode cX1_turnBy 12 = .ok (.iaload, 1) := by decide +kernel
theorem dX1_turnBy_13 : decode cX1_turnBy 13 = .ok (.istore_n 3, 1) := by decide +kernel
theorem dX1_turnBy_14 : decode cX1_turnBy 14 = .ok (.aload_n 0, 1) := by decide +kernel
theorem dX1_turnBy_15 : decode cX1_turnBy 15 = .ok (.iload_n 3, 1) := by decide +kernel
theorem dX1_turnBy_16 : decode cX1_turnBy 16 = .ok (.invokevirtual 29, 3) := by decide +kernel
theorem dX1_turnBy_19 : decode cX1_turnBy 19 = .ok (.aload_n 0, 1) := by decide +kernel
theorem dX1_turnBy_20 : decode cX1_turnBy 20 = .ok (.iload_n 3, 1) := by decide +kernel
theorem dX1_turnBy_21 : decode cX1_turnBy 21 = .ok (.invokevirtual 33, 3) := by decide +kernel
theorem dX1_turnBy_24 : decode cX1_turnBy 24 = .ok (.iinc 2 1, 3) := by decide +kernel
theorem dX1_turnBy_27 : decode cX1_turnBy 27 = .ok (.goto (-25), 3) := by decide +kernel
theorem dX1_turnBy_30 : decode cX1_turnBy 30 = .ok (.return_, 1) := by decide +kernel
set_option maxRecDepth 20000 in
theorem ggX2_init_X0_init : GoodIn wsX2_init wsX0_init := goodIn_r _ [13, 14, 2, 3, 15, 16, 17, 18, 19, 31, 32, 33, 34, 35, 36, 37, 38, 39, 40, 41, 42, 43, 44, 45] (by decide +kernel) (by decide +kernel)
set_option maxRecDepth 20000 in
theorem gX2_init_X0_init_n21 : GoodIn wsX2_init (wsX0_init) := ggX2_init_X0_init
set_option maxRecDepth 20000 in
theorem ggX2_init_X1_init : GoodIn wsX2_init wsX1_init := goodIn_r _ [21, 22, 2, 3, 15, 23, 46, 47] (by decide +kernel) (by decide +kernel)
set_option maxRecDepth 20000 in
theorem gX2_init_X1_init_n22 : GoodIn wsX2_init (wsX1_init) := ggX2_init_X1_init
theorem dX2_init_0 : decode cX2_init 0 = .ok (.aload_n 0, 1) := by decide +kernel
theorem dX2_init_1 : decode cX2_init 1 = .ok (.invokespecial 1, 3) := by decide +kernel
theorem dX2_init_4 : decode cX2_init 4 = .ok (.aload_n 0, 1) := by decide +kernel
theorem dX2_init_5 : decode cX2_init 5 = .ok (.bipush 12, 2) := by decide +kernel
theorem dX2_init_7 : decode cX2_init 7 = .ok (.anewarray 9, 3) := by decide +kernel
theorem dX2_init_10 : decode cX2_init 10 = .ok (.putfield 11, 3) := by decide +kernel
theorem dX2_init_13 : decode cX2_init 13 = .ok (.aload_n 0, 1) := by decide +kernel
theorem dX2_init_14 : decode cX2_init 14 = .ok (.iconst 4, 1) := by decide +kernel
theorem dX2_init_15 : decode cX2_init 15 = .ok (.anewarray 15, 3) := by decide +kernel
theorem dX2_init_18 : decode cX2_init 18 = .ok (.putfield 17, 3) := by decide +kernel
theorem dX2_init_21 : decode cX2_init 21 = .ok (.iconst 0, 1) := by decide +kernel
theorem dX2_init_22 : decode cX2_init 22 = .ok (.istore_n 1, 1) := by decide +kernel
theorem dX2_init_23 : decode cX2_init 23 = .ok (.iload_n 1, 1) := by decide +kernel
theorem dX2_init_24 : decode cX2_init 24 = .ok (.bipush 12, 2) := by decide +kernel
theorem dX2_init_26 : decode cX2_init 26 = .ok (.if_icmp .ge 22, 3) := by decide +kernel
theorem dX2_init_29 : decode cX2_init 29 = .ok (.aload_n 0, 1) := by decide +kernel
theorem dX2_init_30 : decode cX2_init 30 = .ok (.getfield 11, 3) := by decide +kernel
theorem dX2_init_33 : decode cX2_init 33 = .ok (.iload_n 1, 1) := by decide +kernel
theorem dX2_init_34 : decode cX2_init 34 = .ok (.new 9, 3) := by decide +kernel
theorem dX2_init_37 : decode cX2_init 37 = .ok (.dup, 1) := by decide +kernel
theorem dX2_init_38 : decode cX2_init 38 = .ok (.invokespecial 21, 3) := by decide +kernel
theorem dX2_init_41 : decode cX2_init 41 = .ok (.aastore, 1) := by decide +kernel
theorem dX2_init_42 : decode cX2_init 42 = .ok (.iinc 1 1, 3) := by decide +kernel
theorem dX2_init_45 : decode cX2_init 45 = .ok (.goto (-22), 3) := by decide +kernel
theorem dX2_init_48 : decode cX2_init 48 = .ok (.iconst 0, 1) := by decide +kernel
theorem dX2_init_49 : decode cX2_init 49 = .ok (.istore_n 1, 1) := by decide +kernel
theorem dX2_init_50 : decode cX2_init 50 = .ok (.iload_n 1, 1) := by decide +kernel
theorem dX2_init_51 : decode cX2_init 51 = .ok (.iconst 4, 1) := by decide +kernel
theorem dX2_init_52 : decode cX2_init 52 = .ok (.if_icmp .ge 22, 3) := by decide +kernel
theorem dX2_init_55 : decode cX2_init 55 = .ok (.aload_n 0, 1) := by decide +kernel
theorem dX2_init_56 : decode cX2_init 56 = .ok (.getfield 17, 3) := by decide +kernel
theorem dX2_init_59 : decode cX2_init 59 = .ok (.iload_n 1, 1) := by decide +kernel
theorem dX2_init_60 : decode cX2_init 60 = .ok (.new 15, 3) := by decide +kernel
theorem dX2_init_63 : decode cX2_init 63 = .ok (.dup, 1) := by decide +kernel
theorem dX2_init_64 : decode cX2_init 64 = .ok (.invokespecial 22, 3) := by decide +kernel
theorem dX2_init_67 : decode cX2_init 67 = .ok (.aastore, 1) := by decide +kernel
theorem dX2_init_68 : decode cX2_init 68 = .ok (.iinc 1 1, 3) := by decide +kernel
theorem dX2_init_71 : decode cX2_init 71 = .ok (.goto (-21), 3) := by decide +kernel
theorem dX2_init_74 : decode cX2_init 74 = .ok (.return_, 1) := by decide +kernel
set_option maxRecDepth 20000 in
theorem ggX2_quota_X2_queueOf : GoodIn wsX2_quota wsX2_queueOf := goodIn_ca (goodIn_r _ [5, 6, 7, 8, 31, 32, 33, 34, 35, 36, 37] (by decide +kernel) (by decide +kernel)) (goodIn_sub (fun _ h => List.mem_cons_of_mem _ (List.mem_append_right _ h)) (by decide +kernel))
set_option maxRecDepth 20000 in
theorem gX2_quota_X2_queueOf : GoodIn wsX2_quota (wsV RX2 23 RX2 yX2_queueOf wsX2_queueOf) := goodIn_app (goodIn_of _ (by decide +kernel)) ggX2_quota_X2_queueOf
set_option maxRecDepth 20000 in
theorem ggX2_quota_X2_checkRange : GoodIn wsX2_quota wsX2_checkRange := goodIn_ca (goodIn_r _ [11, 6, 7] (by decide +kernel) (by decide +kernel)) (goodIn_sub (fun _ h => List.mem_cons_of_mem _ (List.mem_append_right _ h)) (by decide +kernel))
set_option maxRecDepth 20000 in
theorem gX2_quota_X2_checkRange : GoodIn wsX2_quota (va_wsS RX2 27 yX2_checkRange wsX2_checkRange) := goodIn_app (goodIn_of _ (by decide +kernel)) ggX2_quota_X2_checkRange
set_option maxRecDepth 20000 in
theorem ggX2_quota_X2_keptCells : GoodIn wsX2_quota wsX2_keptCells := goodIn_r _ [15, 8, 31, 32, 33, 34, 35, 36, 37, 16, 17, 18, 19, 20, 21, 22, 23, 24, 25, 26, 27, 28, 29, 30] (by decide +kernel) (by decide +kernel)
set_option maxRecDepth 20000 in
theorem gX2_quota_X2_keptCells : GoodIn wsX2_quota (wsV RX2 31 RX2 yX2_keptCells wsX2_keptCells) := goodIn_app (goodIn_of _ (by decide +kernel)) ggX2_quota_X2_keptCells
theorem dX2_quota_0 : decode cX2_quota 0 = .ok (.aload_n 0, 1) := by decide +kernel
theorem dX2_quota_1 : decode cX2_quota 1 = .ok (.iload_n 1, 1) := by decide +kernel
theorem dX2_quota_2 : decode cX2_quota 2 = .ok (.invokevirtual 23, 3) := by decide +kernel
theorem dX2_quota_5 : decode cX2_quota 5 = .ok (.astore 4, 2) := by decide +kernel
theorem dX2_quota_7 : decode cX2_quota 7 = .ok (.iload_n 2, 1) := by decide +kernel
theorem dX2_quota_8 : decode cX2_quota 8 = .ok (.iconst 0, 1) := by decide +kernel
theorem dX2_quota_9 : decode cX2_quota 9 = .ok (.bipush 96, 2) := by decide +kernel
theorem dX2_quota_11 : decode cX2_quota 11 = .ok (.invokestatic 27, 3) := by decide +kernel
theorem dX2_quota_14 : decode cX2_quota 14 = .ok (.iload_n 3, 1) := by decide +kernel
theorem dX2_quota_15 : decode cX2_quota 15 = .ok (.iconst 0, 1) := by decide +kernel
theorem dX2_quota_16 : decode cX2_quota 16 = .ok (.bipush 96, 2) := by decide +kernel
theorem dX2_quota_18 : decode cX2_quota 18 = .ok (.invokestatic 27, 3) := by decide +kernel
theorem dX2_quota_21 : decode cX2_quota 21 = .ok (.aload_n 0, 1) := by decide +kernel
theorem dX2_quota_22 : decode cX2_quota 22 = .ok (.invokevirtual 31, 3) := by decide +kernel
theorem dX2_quota_25 : decode cX2_quota 25 = .ok (.aload 4, 2) := by decide +kernel
theorem dX2_quota_27 : decode cX2_quota 27 = .ok (.getfield 35, 3) := by decide +kernel
theorem dX2_quota_30 : decode cX2_quota 30 = .ok (.isub, 1) := by decide +kernel
theorem dX2_quota_31 : decode cX2_quota 31 = .ok (.iload_n 3, 1) := by decide +kernel
theorem dX2_quota_32 : decode cX2_quota 32 = .ok (.iadd, 1) := by decide +kernel
theorem dX2_quota_33 : decode cX2_quota 33 = .ok (.istore 5, 2) := by decide +kernel
theorem dX2_quota_35 : decode cX2_quota 35 = .ok (.iload 5, 2) := by decide +kernel
theorem dX2_quota_37 : decode cX2_quota 37 = .ok (.iconst 0, 1) := by decide +kernel
theorem dX2_quota_38 : decode cX2_quota 38 = .ok (.bipush 96, 2) := by decide +kernel
theorem dX2_quota_40 : decode cX2_quota 40 = .ok (.invokestatic 27, 3) := by decide +kernel
theorem dX2_quota_43 : decode cX2_quota 43 = .ok (.aload 4, 2) := by decide +kernel
theorem dX2_quota_45 : decode cX2_quota 45 = .ok (.iload_n 2, 1) := by decide +kernel
theorem dX2_quota_46 : decode cX2_quota 46 = .ok (.putfield 39, 3) := by decide +kernel
theorem dX2_quota_49 : decode cX2_quota 49 = .ok (.aload 4, 2) := by decide +kernel
theorem dX2_quota_51 : decode cX2_quota 51 = .ok (.iload_n 3, 1) := by decide +kernel
theorem dX2_quota_52 : decode cX2_quota 52 = .ok (.putfield 35, 3) := by decide +kernel
theorem dX2_quota_55 : decode cX2_quota 55 = .ok (.iload 5, 2) := by decide +kernel
theorem dX2_quota_57 : decode cX2_quota 57 = .ok (.ireturn, 1) := by decide +kernel
set_option maxRecDepth 20000 in
theorem ggX2_kind_X2_queueOf : GoodIn wsX2_kind wsX2_queueOf := goodIn_ca (goodIn_r _ [5, 6, 7, 8, 51, 52, 53, 54, 55, 56, 57] (by decide +kernel) (by decide +kernel)) (goodIn_sub (fun _ h => List.mem_cons_of_mem _ (List.mem_append_right _ h)) (by decide +kernel))
set_option maxRecDepth 20000 in
theorem gX2_kind_X2_queueOf : GoodIn wsX2_kind (wsV RX2 23 RX2 yX2_queueOf wsX2_queueOf) := goodIn_app (goodIn_of _ (by decide +kernel)) ggX2_kind_X2_queueOf
set_option maxRecDepth 20000 in
theorem ggX2_kind_X2_checkRange : GoodIn wsX2_kind wsX2_checkRange := goodIn_ca (goodIn_r _ [11, 6, 7] (by decide +kernel) (by decide +kernel)) (goodIn_sub (fun _ h => List.mem_cons_of_mem _ (List.mem_append_right _ h)) (by decide +kernel))
set_option maxRecDepth 20000 in
theorem gX2_kind_X2_checkRange : GoodIn wsX2_kind (va_wsS RX2 27 yX2_checkRange wsX2_checkRange) := goodIn_app (goodIn_of _ (by decide +kernel)) ggX2_kind_X2_checkRange
set_option maxRecDepth 20000 in
theorem ggX2_kind_X2_changeClass : GoodIn wsX2_kind wsX2_changeClass := goodIn_r _ [15, 16, 17, 18, 19, 20, 21, 22, 23, 24, 25, 26, 27, 28, 29, 30, 31, 32, 33, 34, 35, 36, 37, 38, 39, 40, 41, 42, 43, 44, 45, 46, 47, 48, 49, 50, 51, 52, 53, 54, 55, 56, 57, 58, 59] (by decide +kernel) (by decide +kernel)
set_option maxRecDepth 20000 in
theorem gX2_kind_X2_changeClass : GoodIn wsX2_kind (wsV RX2 48 RX2 yX2_changeClass wsX2_changeClass) := goodIn_app (goodIn_of _ (by decide +kernel)) ggX2_kind_X2_changeClass
theorem dX2_kind_0 : decode cX2_kind 0 = .ok (.aload_n 0, 1) := by decide +kernel
theorem dX2_kind_1 : decode cX2_kind 1 = .ok (.iload_n 1, 1) := by decide +kernel
theorem dX2_kind_2 : decode cX2_kind 2 = .ok (.invokevirtual 23, 3) := by decide +kernel
theorem dX2_kind_5 : decode cX2_kind 5 = .ok (.astore 4, 2) := by decide +kernel
theorem dX2_kind_7 : decode cX2_kind 7 = .ok (.iload_n 2, 1) := by decide +kernel
theorem dX2_kind_8 : decode cX2_kind 8 = .ok (.iconst 0, 1) := by decide +kernel
theorem dX2_kind_9 : decode cX2_kind 9 = .ok (.iconst 3, 1) := by decide +kernel
theorem dX2_kind_10 : decode cX2_kind 10 = .ok (.invokestatic 27, 3) := by decide +kernel
theorem dX2_kind_13 : decode cX2_kind 13 = .ok (.iload_n 3, 1) := by decide +kernel
theorem dX2_kind_14 : decode cX2_kind 14 = .ok (.iconst 1, 1) := by decide +kernel
theorem dX2_kind_15 : decode cX2_kind 15 = .ok (.sipush 1000, 3) := by decide +kernel
theorem dX2_kind_18 : decode cX2_kind 18 = .ok (.invokestatic 27, 3) := by decide +kernel
theorem dX2_kind_21 : decode cX2_kind 21 = .ok (.aload 4, 2) := by decide +kernel
theorem dX2_kind_23 : decode cX2_kind 23 = .ok (.iload_n 3, 1) := by decide +kernel
theorem dX2_kind_24 : decode cX2_kind 24 = .ok (.putfield 42, 3) := by decide +kernel
theorem dX2_kind_27 : decode cX2_kind 27 = .ok (.aload 4, 2) := by decide +kernel
theorem dX2_kind_29 : decode cX2_kind 29 = .ok (.getfield 45, 3) := by decide +kernel
theorem dX2_kind_32 : decode cX2_kind 32 = .ok (.iload_n 2, 1) := by decide +kernel
theorem dX2_kind_33 : decode cX2_kind 33 = .ok (.if_icmp .eq 11, 3) := by decide +kernel
theorem dX2_kind_36 : decode cX2_kind 36 = .ok (.aload_n 0, 1) := by decide +kernel
theorem dX2_kind_37 : decode cX2_kind 37 = .ok (.iload_n 1, 1) := by decide +kernel
theorem dX2_kind_38 : decode cX2_kind 38 = .ok (.aload 4, 2) := by decide +kernel
theorem dX2_kind_40 : decode cX2_kind 40 = .ok (.iload_n 2, 1) := by decide +kernel
theorem dX2_kind_41 : decode cX2_kind 41 = .ok (.invokevirtual 48, 3) := by decide +kernel
theorem dX2_kind_44 : decode cX2_kind 44 = .ok (.return_, 1) := by decide +kernel
set_option maxRecDepth 20000 in
theorem ggX2_push_X2_queueOf : GoodIn wsX2_push wsX2_queueOf := goodIn_ca (goodIn_r _ [8, 9, 10, 2, 113, 114, 115, 116, 117, 118, 119] (by decide +kernel) (by decide +kernel)) (goodIn_sub (fun _ h => List.mem_cons_of_mem _ (List.mem_append_right _ h)) (by decide +kernel))
set_option maxRecDepth 20000 in
theorem gX2_push_X2_queueOf : GoodIn wsX2_push (wsV RX2 23 RX2 yX2_queueOf wsX2_queueOf) := goodIn_app (goodIn_of _ (by decide +kernel)) ggX2_push_X2_queueOf
set_option maxRecDepth 20000 in
theorem ggX2_push_X2_checkRange : GoodIn wsX2_push wsX2_checkRange := goodIn_ca (goodIn_r _ [13, 9, 10] (by decide +kernel) (by decide +kernel)) (goodIn_sub (fun _ h => List.mem_cons_of_mem _ (List.mem_append_right _ h)) (by decide +kernel))
set_option maxRecDepth 20000 in
theorem gX2_push_X2_checkRange : GoodIn wsX2_push (va_wsS RX2 27 yX2_checkRange wsX2_checkRange) := goodIn_app (goodIn_of _ (by decide +kernel)) ggX2_push_X2_checkRange
set_option maxRecDepth 20000 in
theorem ggX2_push_X2_hasRoomFor : GoodIn wsX2_push wsX2_hasRoomFor := goodIn_r _ [17, 18, 19, 20, 7, 21, 2, 22, 23, 24, 25, 26, 27, 28, 29, 30, 31, 32, 33, 34, 35, 36, 113, 114, 115, 116, 117, 118, 119, 98, 99, 100, 101, 102, 103, 104, 105, 106, 107, 108, 109, 110, 111, 112] (by decide +kernel) (by decide +kernel)
set_option maxRecDepth 20000 in
theorem gX2_push_X2_hasRoomFor : GoodIn wsX2_push (wsV RX2 58 RX2 yX2_hasRoomFor wsX2_hasRoomFor) := goodIn_app (goodIn_of _ (by decide +kernel)) ggX2_push_X2_hasRoomFor
set_option maxRecDepth 20000 in
theorem ggX2_push_X2_addItem : GoodIn wsX2_push wsX2_addItem := goodIn_r _ [40, 41, 42, 43, 44, 25, 45, 27, 46, 47, 48, 49, 50, 51, 52, 53, 54, 55, 56, 57, 58, 59, 60, 61, 62, 63, 64, 98, 99, 100, 101, 102, 103, 104, 105, 106, 107, 108, 109, 110, 111, 112, 113, 114, 115, 116, 117, 118, 119, 120, 121] (by decide +kernel) (by decide +kernel)
set_option maxRecDepth 20000 in
theorem gX2_push_X2_addItem : GoodIn wsX2_push (wsV RX2 62 RX2 yX2_addItem wsX2_addItem) := goodIn_app (goodIn_of _ (by decide +kernel)) ggX2_push_X2_addItem
set_option maxRecDepth 20000 in
theorem ggX2_push_X2_queueOfGreatestExcess : GoodIn wsX2_push wsX2_queueOfGreatestExcess := goodIn_r _ [68, 2, 22, 23, 24, 25, 26, 27, 28, 113, 114, 115, 116, 117, 118, 119, 98, 99, 100, 101, 102, 103, 104, 105, 106, 107, 108, 109, 110, 111, 112] (by decide +kernel) (by decide +kernel)
set_option maxRecDepth 20000 in
theorem gX2_push_X2_queueOfGreatestExcess : GoodIn wsX2_push (wsV RX2 66 RX2 yX2_queueOfGreatestExcess wsX2_queueOfGreatestExcess) := goodIn_app (goodIn_of _ (by decide +kernel)) ggX2_push_X2_queueOfGreatestExcess
set_option maxRecDepth 20000 in
theorem ggX2_push_X0_excess : GoodIn wsX2_push wsX0_excess := goodIn_r _ [26, 27, 28, 98, 99, 100, 101, 102, 103, 104, 105, 106, 107, 108, 109, 110, 111, 112] (by decide +kernel) (by decide +kernel)
set_option maxRecDepth 20000 in
theorem gX2_push_X0_excess : GoodIn wsX2_push (wsV RX2 69 RX0 yX0_excess wsX0_excess) := goodIn_app (goodIn_of _ (by decide +kernel)) ggX2_push_X0_excess
set_option maxRecDepth 20000 in
theorem ggX2_push_X2_loseLastItem : GoodIn wsX2_push wsX2_loseLastItem := goodIn_r _ [72, 2, 73, 74, 75, 76, 25, 77, 48, 27, 78, 79, 80, 81, 47, 49, 50, 51, 52, 53, 54, 55, 56, 57, 82, 83, 84, 7, 85, 41, 86, 87, 88, 61, 89, 63, 64, 90, 91, 92, 93, 94, 95, 96, 97, 113, 114, 115, 116, 117, 118, 119, 98, 99, 100, 101, 102, 103, 104, 105, 106, 107, 108, 109, 110, 111, 112, 120, 121] (by decide +kernel) (by decide +kernel)
set_option maxRecDepth 20000 in
theorem gX2_push_X2_loseLastItem : GoodIn wsX2_push (wsV RX2 75 RX2 yX2_loseLastItem wsX2_loseLastItem) := goodIn_app (goodIn_of _ (by decide +kernel)) ggX2_push_X2_loseLastItem
theorem dX2_push_0 : decode cX2_push 0 = .ok (.aload_n 0, 1) := by decide +kernel
theorem dX2_push_1 : decode cX2_push 1 = .ok (.iload_n 1, 1) := by decide +kernel
theorem dX2_push_2 : decode cX2_push 2 = .ok (.invokevirtual 23, 3) := by decide +kernel
theorem dX2_push_5 : decode cX2_push 5 = .ok (.astore 4, 2) := by decide +kernel
theorem dX2_push_7 : decode cX2_push 7 = .ok (.iload_n 3, 1) := by decide +kernel
theorem dX2_push_8 : decode cX2_push 8 = .ok (.iconst 1, 1) := by decide +kernel
theorem dX2_push_9 : decode cX2_push 9 = .ok (.sipush 2000, 3) := by decide +kernel
theorem dX2_push_12 : decode cX2_push 12 = .ok (.invokestatic 27, 3) := by decide +kernel
theorem dX2_push_15 : decode cX2_push 15 = .ok (.aload 4, 2) := by decide +kernel
theorem dX2_push_17 : decode cX2_push 17 = .ok (.getfield 52, 3) := by decide +kernel
theorem dX2_push_20 : decode cX2_push 20 = .ok (.aload 4, 2) := by decide +kernel
theorem dX2_push_22 : decode cX2_push 22 = .ok (.getfield 39, 3) := by decide +kernel
theorem dX2_push_25 : decode cX2_push 25 = .ok (.if_icmp .lt 16, 3) := by decide +kernel
theorem dX2_push_28 : decode cX2_push 28 = .ok (.aload_n 0, 1) := by decide +kernel
theorem dX2_push_29 : decode cX2_push 29 = .ok (.dup, 1) := by decide +kernel
theorem dX2_push_30 : decode cX2_push 30 = .ok (.getfield 55, 3) := by decide +kernel
theorem dX2_push_33 : decode cX2_push 33 = .ok (.iconst 1, 1) := by decide +kernel
theorem dX2_push_34 : decode cX2_push 34 = .ok (.iadd, 1) := by decide +kernel
theorem dX2_push_35 : decode cX2_push 35 = .ok (.putfield 55, 3) := by decide +kernel
theorem dX2_push_38 : decode cX2_push 38 = .ok (.bipush (-2), 2) := by decide +kernel
theorem dX2_push_40 : decode cX2_push 40 = .ok (.ireturn, 1) := by decide +kernel
theorem dX2_push_41 : decode cX2_push 41 = .ok (.aload_n 0, 1) := by decide +kernel
theorem dX2_push_42 : decode cX2_push 42 = .ok (.aload 4, 2) := by decide +kernel
theorem dX2_push_44 : decode cX2_push 44 = .ok (.invokevirtual 58, 3) := by decide +kernel
theorem dX2_push_47 : decode cX2_push 47 = .ok (.ifCond .eq 15, 3) := by decide +kernel
theorem dX2_push_50 : decode cX2_push 50 = .ok (.aload_n 0, 1) := by decide +kernel
theorem dX2_push_51 : decode cX2_push 51 = .ok (.iload_n 1, 1) := by decide +kernel
theorem dX2_push_52 : decode cX2_push 52 = .ok (.aload 4, 2) := by decide +kernel
theorem dX2_push_54 : decode cX2_push 54 = .ok (.iload_n 2, 1) := by decide +kernel
theorem dX2_push_55 : decode cX2_push 55 = .ok (.iload_n 3, 1) := by decide +kernel
theorem dX2_push_56 : decode cX2_push 56 = .ok (.invokevirtual 62, 3) := by decide +kernel
theorem dX2_push_59 : decode cX2_push 59 = .ok (.bipush 100, 2) := by decide +kernel
theorem dX2_push_61 : decode cX2_push 61 = .ok (.ireturn, 1) := by decide +kernel
theorem dX2_push_62 : decode cX2_push 62 = .ok (.aload_n 0, 1) := by decide +kernel
theorem dX2_push_63 : decode cX2_push 63 = .ok (.invokevirtual 66, 3) := by decide +kernel
theorem dX2_push_66 : decode cX2_push 66 = .ok (.istore 5, 2) := by decide +kernel
theorem dX2_push_68 : decode cX2_push 68 = .ok (.aload_n 0, 1) := by decide +kernel
theorem dX2_push_69 : decode cX2_push 69 = .ok (.getfield 11, 3) := by decide +kernel
theorem dX2_push_72 : decode cX2_push 72 = .ok (.iload 5, 2) := by decide +kernel
theorem dX2_push_74 : decode cX2_push 74 = .ok (.aaload, 1) := by decide +kernel
theorem dX2_push_75 : decode cX2_push 75 = .ok (.invokevirtual 69, 3) := by decide +kernel
theorem dX2_push_78 : decode cX2_push 78 = .ok (.aload 4, 2) := by decide +kernel
theorem dX2_push_80 : decode cX2_push 80 = .ok (.invokevirtual 69, 3) := by decide +kernel
theorem dX2_push_83 : decode cX2_push 83 = .ok (.isub, 1) := by decide +kernel
theorem dX2_push_84 : decode cX2_push 84 = .ok (.iconst 2, 1) := by decide +kernel
theorem dX2_push_85 : decode cX2_push 85 = .ok (.if_icmp .ge 16, 3) := by decide +kernel
theorem dX2_push_88 : decode cX2_push 88 = .ok (.aload_n 0, 1) := by decide +kernel
theorem dX2_push_89 : decode cX2_push 89 = .ok (.dup, 1) := by decide +kernel
theorem dX2_push_90 : decode cX2_push 90 = .ok (.getfield 72, 3) := by decide +kernel
theorem dX2_push_93 : decode cX2_push 93 = .ok (.iconst 1, 1) := by decide +kernel
theorem dX2_push_94 : decode cX2_push 94 = .ok (.iadd, 1) := by decide +kernel
theorem dX2_push_95 : decode cX2_push 95 = .ok (.putfield 72, 3) := by decide +kernel
theorem dX2_push_98 : decode cX2_push 98 = .ok (.bipush (-3), 2) := by decide +kernel
theorem dX2_push_100 : decode cX2_push 100 = .ok (.ireturn, 1) := by decide +kernel
theorem dX2_push_101 : decode cX2_push 101 = .ok (.aload_n 0, 1) := by decide +kernel
theorem dX2_push_102 : decode cX2_push 102 = .ok (.iload 5, 2) := by decide +kernel
theorem dX2_push_104 : decode cX2_push 104 = .ok (.invokevirtual 75, 3) := by decide +kernel
theorem dX2_push_107 : decode cX2_push 107 = .ok (.aload_n 0, 1) := by decide +kernel
theorem dX2_push_108 : decode cX2_push 108 = .ok (.iload_n 1, 1) := by decide +kernel
theorem dX2_push_109 : decode cX2_push 109 = .ok (.aload 4, 2) := by decide +kernel
theorem dX2_push_111 : decode cX2_push 111 = .ok (.iload_n 2, 1) := by decide +kernel
theorem dX2_push_112 : decode cX2_push 112 = .ok (.iload_n 3, 1) := by decide +kernel
theorem dX2_push_113 : decode cX2_push 113 = .ok (.invokevirtual 62, 3) := by decide +kernel
theorem dX2_push_116 : decode cX2_push 116 = .ok (.iload 5, 2) := by decide +kernel
theorem dX2_push_118 : decode cX2_push 118 = .ok (.ireturn, 1) := by decide +kernel
set_option maxRecDepth 20000 in
theorem ggX2_serve_X2_firstRingWithQueues : GoodIn wsX2_serve wsX2_firstRingWithQueues := goodIn_r _ [5, 6, 96, 97, 98, 99, 100, 101, 102, 103, 104] (by decide +kernel) (by decide +kernel)
set_option maxRecDepth 20000 in
theorem gX2_serve_X2_firstRingWithQueues : GoodIn wsX2_serve (wsV RX2 79 RX2 yX2_firstRingWithQueues wsX2_firstRingWithQueues) := goodIn_app (goodIn_of _ (by decide +kernel)) ggX2_serve_X2_firstRingWithQueues
set_option maxRecDepth 20000 in
theorem ggX2_serve_X2_placeServedNext : GoodIn wsX2_serve wsX2_placeServedNext := goodIn_r _ [10, 11, 12, 13, 14, 15, 16, 17, 18, 19, 20, 21, 22, 23, 24, 25, 26, 27, 28, 29, 30, 31, 96, 97, 98, 99, 100, 101, 102, 103, 104, 105, 106, 107, 108, 109, 110, 111, 112, 113, 114, 115, 116, 117, 118, 119] (by decide +kernel) (by decide +kernel)
set_option maxRecDepth 20000 in
theorem gX2_serve_X2_placeServedNext : GoodIn wsX2_serve (wsV RX2 83 RX2 yX2_placeServedNext wsX2_placeServedNext) := goodIn_app (goodIn_of _ (by decide +kernel)) ggX2_serve_X2_placeServedNext
set_option maxRecDepth 20000 in
theorem ggX2_serve_X1_queueAt : GoodIn wsX2_serve wsX1_queueAt := goodIn_r _ [16, 17, 103, 104] (by decide +kernel) (by decide +kernel)
set_option maxRecDepth 20000 in
theorem gX2_serve_X1_queueAt : GoodIn wsX2_serve (wsV RX2 87 RX1 yX1_queueAt wsX1_queueAt) := goodIn_app (goodIn_of _ (by decide +kernel)) ggX2_serve_X1_queueAt
set_option maxRecDepth 20000 in
theorem ggX2_serve_X2_bringToFront : GoodIn wsX2_serve wsX2_bringToFront := goodIn_r _ [35, 11, 12, 13, 14, 15, 16, 17, 18, 19, 20, 21, 22, 23, 24, 25, 26, 27, 28, 29, 30, 31, 36, 37, 38, 39, 40, 41, 42, 43, 44, 45, 46, 47, 48, 49, 50, 51, 52, 53, 54, 55, 56, 57, 58, 59, 60, 96, 97, 98, 99, 100, 101, 102, 103, 104, 105, 106, 107, 108, 109, 110, 111, 112, 113, 114, 115, 116, 117, 118, 119] (by decide +kernel) (by decide +kernel)
set_option maxRecDepth 20000 in
theorem gX2_serve_X2_bringToFront : GoodIn wsX2_serve (wsV RX2 91 RX2 yX2_bringToFront wsX2_bringToFront) := goodIn_app (goodIn_of _ (by decide +kernel)) ggX2_serve_X2_bringToFront
set_option maxRecDepth 20000 in
theorem ggX2_serve_X2_serveFirstItem : GoodIn wsX2_serve wsX2_serveFirstItem := goodIn_r _ [64, 11, 65, 66, 67, 68, 69, 21, 70, 23, 24, 25, 71, 27, 28, 29, 30, 31, 72, 73, 74, 75, 76, 77, 78, 79, 80, 81, 82, 83, 84, 85, 86, 87, 88, 89, 90, 26, 91, 92, 93, 4, 94, 6, 95, 45, 46, 15, 47, 48, 17, 49, 50, 51, 52, 53, 54, 55, 56, 96, 97, 98, 99, 100, 101, 102, 105, 106, 107, 108, 109, 110, 111, 112, 113, 114, 115, 116, 117, 118, 119, 103, 104] (by decide +kernel) (by decide +kernel)
set_option maxRecDepth 20000 in
theorem gX2_serve_X2_serveFirstItem : GoodIn wsX2_serve (wsV RX2 95 RX2 yX2_serveFirstItem wsX2_serveFirstItem) := goodIn_app (goodIn_of _ (by decide +kernel)) ggX2_serve_X2_serveFirstItem
theorem dX2_serve_0 : decode cX2_serve 0 = .ok (.aload_n 0, 1) := by decide +kernel
theorem dX2_serve_1 : decode cX2_serve 1 = .ok (.invokevirtual 79, 3) := by decide +kernel
theorem dX2_serve_4 : decode cX2_serve 4 = .ok (.astore_n 1, 1) := by decide +kernel
theorem dX2_serve_5 : decode cX2_serve 5 = .ok (.aload_n 1, 1) := by decide +kernel
theorem dX2_serve_6 : decode cX2_serve 6 = .ok (.ifnonnull 5, 3) := by decide +kernel
theorem dX2_serve_9 : decode cX2_serve 9 = .ok (.iconst (-1), 1) := by decide +kernel
theorem dX2_serve_10 : decode cX2_serve 10 = .ok (.ireturn, 1) := by decide +kernel
theorem dX2_serve_11 : decode cX2_serve 11 = .ok (.aload_n 0, 1) := by decide +kernel
theorem dX2_serve_12 : decode cX2_serve 12 = .ok (.aload_n 1, 1) := by decide +kernel
theorem dX2_serve_13 : decode cX2_serve 13 = .ok (.invokevirtual 83, 3) := by decide +kernel
theorem dX2_serve_16 : decode cX2_serve 16 = .ok (.istore_n 2, 1) := by decide +kernel
theorem dX2_serve_17 : decode cX2_serve 17 = .ok (.aload_n 1, 1) := by decide +kernel
theorem dX2_serve_18 : decode cX2_serve 18 = .ok (.iload_n 2, 1) := by decide +kernel
theorem dX2_serve_19 : decode cX2_serve 19 = .ok (.invokevirtual 87, 3) := by decide +kernel
theorem dX2_serve_22 : decode cX2_serve 22 = .ok (.istore_n 3, 1) := by decide +kernel
theorem dX2_serve_23 : decode cX2_serve 23 = .ok (.aload_n 0, 1) := by decide +kernel
theorem dX2_serve_24 : decode cX2_serve 24 = .ok (.aload_n 1, 1) := by decide +kernel
theorem dX2_serve_25 : decode cX2_serve 25 = .ok (.iload_n 2, 1) := by decide +kernel
theorem dX2_serve_26 : decode cX2_serve 26 = .ok (.invokevirtual 91, 3) := by decide +kernel
theorem dX2_serve_29 : decode cX2_serve 29 = .ok (.aload_n 0, 1) := by decide +kernel
theorem dX2_serve_30 : decode cX2_serve 30 = .ok (.iload_n 3, 1) := by decide +kernel
theorem dX2_serve_31 : decode cX2_serve 31 = .ok (.invokevirtual 95, 3) := by decide +kernel
theorem dX2_serve_34 : decode cX2_serve 34 = .ok (.iload_n 3, 1) := by decide +kernel
theorem dX2_serve_35 : decode cX2_serve 35 = .ok (.ireturn, 1) := by decide +kernel
set_option maxRecDepth 20000 in
theorem ggX2_next_X2_firstRingWithQueues : GoodIn wsX2_next wsX2_firstRingWithQueues := goodIn_r _ [5, 6, 32, 33, 34, 35, 36, 37, 38, 39, 40] (by decide +kernel) (by decide +kernel)
set_option maxRecDepth 20000 in
theorem gX2_next_X2_firstRingWithQueues : GoodIn wsX2_next (wsV RX2 79 RX2 yX2_firstRingWithQueues wsX2_firstRingWithQueues) := goodIn_app (goodIn_of _ (by decide +kernel)) ggX2_next_X2_firstRingWithQueues
set_option maxRecDepth 20000 in
theorem ggX2_next_X2_placeServedNext : GoodIn wsX2_next wsX2_placeServedNext := goodIn_r _ [10, 11, 12, 13, 14, 15, 16, 17, 18, 19, 20, 21, 22, 23, 24, 25, 26, 27, 28, 29, 30, 31, 32, 33, 34, 35, 36, 37, 38, 39, 40, 41, 42, 43, 44, 45, 46, 47, 48, 49, 50, 51, 52, 53, 54, 55] (by decide +kernel) (by decide +kernel)
set_option maxRecDepth 20000 in
theorem gX2_next_X2_placeServedNext : GoodIn wsX2_next (wsV RX2 83 RX2 yX2_placeServedNext wsX2_placeServedNext) := goodIn_app (goodIn_of _ (by decide +kernel)) ggX2_next_X2_placeServedNext
set_option maxRecDepth 20000 in
theorem ggX2_next_X1_queueAt : GoodIn wsX2_next wsX1_queueAt := goodIn_r _ [16, 17, 39, 40] (by decide +kernel) (by decide +kernel)
set_option maxRecDepth 20000 in
theorem gX2_next_X1_queueAt : GoodIn wsX2_next (wsV RX2 87 RX1 yX1_queueAt wsX1_queueAt) := goodIn_app (goodIn_of _ (by decide +kernel)) ggX2_next_X1_queueAt
theorem dX2_next_0 : decode cX2_next 0 = .ok (.aload_n 0, 1) := by decide +kernel
theorem dX2_next_1 : decode cX2_next 1 = .ok (.invokevirtual 79, 3) := by decide +kernel
theorem dX2_next_4 : decode cX2_next 4 = .ok (.astore_n 1, 1) := by decide +kernel
theorem dX2_next_5 : decode cX2_next 5 = .ok (.aload_n 1, 1) := by decide +kernel
theorem dX2_next_6 : decode cX2_next 6 = .ok (.ifnonnull 7, 3) := by decide +kernel
theorem dX2_next_9 : decode cX2_next 9 = .ok (.iconst (-1), 1) := by decide +kernel
theorem dX2_next_10 : decode cX2_next 10 = .ok (.goto 12, 3) := by decide +kernel
theorem dX2_next_13 : decode cX2_next 13 = .ok (.aload_n 1, 1) := by decide +kernel
theorem dX2_next_14 : decode cX2_next 14 = .ok (.aload_n 0, 1) := by decide +kernel
theorem dX2_next_15 : decode cX2_next 15 = .ok (.aload_n 1, 1) := by decide +kernel
theorem dX2_next_16 : decode cX2_next 16 = .ok (.invokevirtual 83, 3) := by decide +kernel
theorem dX2_next_19 : decode cX2_next 19 = .ok (.invokevirtual 87, 3) := by decide +kernel
theorem dX2_next_22 : decode cX2_next 22 = .ok (.ireturn, 1) := by decide +kernel
theorem dX2_word_0 : decode cX2_word 0 = .ok (.aload_n 0, 1) := by decide +kernel
theorem dX2_word_1 : decode cX2_word 1 = .ok (.getfield 98, 3) := by decide +kernel
theorem dX2_word_4 : decode cX2_word 4 = .ok (.ireturn, 1) := by decide +kernel
set_option maxRecDepth 20000 in
theorem ggX2_serveUpTo_X2_checkRange : GoodIn wsX2_serveUpTo wsX2_checkRange := goodIn_ca (goodIn_r _ [6, 7, 8] (by decide +kernel) (by decide +kernel)) (goodIn_sub (fun _ h => List.mem_cons_of_mem _ (List.mem_append_right _ h)) (by decide +kernel))
set_option maxRecDepth 20000 in
theorem gX2_serveUpTo_X2_checkRange : GoodIn wsX2_serveUpTo (va_wsS RX2 27 yX2_checkRange wsX2_checkRange) := goodIn_app (goodIn_of _ (by decide +kernel)) ggX2_serveUpTo_X2_checkRange
set_option maxRecDepth 20000 in
theorem ggX2_serveUpTo_X2_next : GoodIn wsX2_serveUpTo wsX2_next := goodIn_r _ [12, 13, 14, 15, 5, 16, 17, 18, 19, 20, 21, 2, 22, 23, 24, 25, 26, 27, 28, 29, 30, 31, 32, 33, 34, 35, 36, 37, 38, 39, 40, 41, 110, 111, 112, 113, 114, 115, 116, 117, 118, 119, 120, 121, 122, 123, 124, 125, 126, 127, 128, 129, 130, 131, 132, 133] (by decide +kernel) (by decide +kernel)
set_option maxRecDepth 20000 in
theorem gX2_serveUpTo_X2_next : GoodIn wsX2_serveUpTo (wsV RX2 102 RX2 yX2_next wsX2_next) := goodIn_app (goodIn_of _ (by decide +kernel)) ggX2_serveUpTo_X2_next
set_option maxRecDepth 20000 in
theorem ggX2_serveUpTo_X0_firstCost : GoodIn wsX2_serveUpTo wsX0_firstCost := goodIn_r _ [39, 40, 41, 119, 120, 121, 122, 123, 124, 125, 126, 127, 128, 129, 130, 131, 132, 133] (by decide +kernel) (by decide +kernel)
set_option maxRecDepth 20000 in
theorem gX2_serveUpTo_X0_firstCost : GoodIn wsX2_serveUpTo (wsV RX2 105 RX0 yX0_firstCost wsX0_firstCost) := goodIn_app (goodIn_of _ (by decide +kernel)) ggX2_serveUpTo_X0_firstCost
set_option maxRecDepth 20000 in
theorem ggX2_serveUpTo_X2_serve : GoodIn wsX2_serveUpTo wsX2_serve := goodIn_r _ [46, 13, 14, 15, 5, 16, 17, 18, 19, 20, 21, 2, 22, 23, 24, 25, 26, 27, 28, 29, 30, 31, 32, 33, 34, 35, 36, 37, 38, 39, 40, 41, 47, 48, 49, 50, 51, 52, 53, 54, 55, 56, 57, 58, 59, 60, 61, 62, 63, 64, 65, 66, 67, 68, 69, 70, 71, 72, 73, 74, 75, 76, 77, 78, 79, 80, 81, 82, 83, 84, 85, 42, 86, 87, 88, 89, 90, 91, 92, 93, 94, 95, 96, 97, 98, 99, 100, 101, 102, 103, 104, 105, 106, 107, 108, 109, 110, 111, 112, 113, 114, 115, 116, 117, 118, 119, 120, 121, 122, 123, 124, 125, 126, 127, 128, 129, 130, 131, 132, 133] (by decide +kernel) (by decide +kernel)
set_option maxRecDepth 20000 in
theorem gX2_serveUpTo_X2_serve : GoodIn wsX2_serveUpTo (wsV RX2 108 RX2 yX2_serve wsX2_serve) := goodIn_app (goodIn_of _ (by decide +kernel)) ggX2_serveUpTo_X2_serve
theorem dX2_serveUpTo_0 : decode cX2_serveUpTo 0 = .ok (.iload_n 1, 1) := by decide +kernel
theorem dX2_serveUpTo_1 : decode cX2_serveUpTo 1 = .ok (.iconst 0, 1) := by decide +kernel
theorem dX2_serveUpTo_2 : decode cX2_serveUpTo 2 = .ok (.ldc 101, 2) := by decide +kernel
theorem dX2_serveUpTo_4 : decode cX2_serveUpTo 4 = .ok (.invokestatic 27, 3) := by decide +kernel
theorem dX2_serveUpTo_7 : decode cX2_serveUpTo 7 = .ok (.iload_n 1, 1) := by decide +kernel
theorem dX2_serveUpTo_8 : decode cX2_serveUpTo 8 = .ok (.istore_n 2, 1) := by decide +kernel
theorem dX2_serveUpTo_9 : decode cX2_serveUpTo 9 = .ok (.iconst 0, 1) := by decide +kernel
theorem dX2_serveUpTo_10 : decode cX2_serveUpTo 10 = .ok (.istore_n 3, 1) := by decide +kernel
theorem dX2_serveUpTo_11 : decode cX2_serveUpTo 11 = .ok (.iload_n 3, 1) := by decide +kernel
theorem dX2_serveUpTo_12 : decode cX2_serveUpTo 12 = .ok (.bipush 96, 2) := by decide +kernel
theorem dX2_serveUpTo_14 : decode cX2_serveUpTo 14 = .ok (.if_icmp .ge 55, 3) := by decide +kernel
theorem dX2_serveUpTo_17 : decode cX2_serveUpTo 17 = .ok (.aload_n 0, 1) := by decide +kernel
theorem dX2_serveUpTo_18 : decode cX2_serveUpTo 18 = .ok (.invokevirtual 102, 3) := by decide +kernel
theorem dX2_serveUpTo_21 : decode cX2_serveUpTo 21 = .ok (.istore 4, 2) := by decide +kernel
theorem dX2_serveUpTo_23 : decode cX2_serveUpTo 23 = .ok (.iload 4, 2) := by decide +kernel
theorem dX2_serveUpTo_25 : decode cX2_serveUpTo 25 = .ok (.iconst (-1), 1) := by decide +kernel
theorem dX2_serveUpTo_26 : decode cX2_serveUpTo 26 = .ok (.if_icmp .ne 6, 3) := by decide +kernel
theorem dX2_serveUpTo_29 : decode cX2_serveUpTo 29 = .ok (.goto 40, 3) := by decide +kernel
theorem dX2_serveUpTo_32 : decode cX2_serveUpTo 32 = .ok (.aload_n 0, 1) := by decide +kernel
theorem dX2_serveUpTo_33 : decode cX2_serveUpTo 33 = .ok (.getfield 11, 3) := by decide +kernel
theorem dX2_serveUpTo_36 : decode cX2_serveUpTo 36 = .ok (.iload 4, 2) := by decide +kernel
theorem dX2_serveUpTo_38 : decode cX2_serveUpTo 38 = .ok (.aaload, 1) := by decide +kernel
theorem dX2_serveUpTo_39 : decode cX2_serveUpTo 39 = .ok (.invokevirtual 105, 3) := by decide +kernel
theorem dX2_serveUpTo_42 : decode cX2_serveUpTo 42 = .ok (.istore 5, 2) := by decide +kernel
theorem dX2_serveUpTo_44 : decode cX2_serveUpTo 44 = .ok (.iload 5, 2) := by decide +kernel
theorem dX2_serveUpTo_46 : decode cX2_serveUpTo 46 = .ok (.iload_n 2, 1) := by decide +kernel
theorem dX2_serveUpTo_47 : decode cX2_serveUpTo 47 = .ok (.if_icmp .le 6, 3) := by decide +kernel
theorem dX2_serveUpTo_50 : decode cX2_serveUpTo 50 = .ok (.goto 19, 3) := by decide +kernel
theorem dX2_serveUpTo_53 : decode cX2_serveUpTo 53 = .ok (.iload_n 2, 1) := by decide +kernel
theorem dX2_serveUpTo_54 : decode cX2_serveUpTo 54 = .ok (.iload 5, 2) := by decide +kernel
theorem dX2_serveUpTo_56 : decode cX2_serveUpTo 56 = .ok (.isub, 1) := by decide +kernel
theorem dX2_serveUpTo_57 : decode cX2_serveUpTo 57 = .ok (.istore_n 2, 1) := by decide +kernel
theorem dX2_serveUpTo_58 : decode cX2_serveUpTo 58 = .ok (.aload_n 0, 1) := by decide +kernel
theorem dX2_serveUpTo_59 : decode cX2_serveUpTo 59 = .ok (.invokevirtual 108, 3) := by decide +kernel
theorem dX2_serveUpTo_62 : decode cX2_serveUpTo 62 = .ok (.pop, 1) := by decide +kernel
theorem dX2_serveUpTo_63 : decode cX2_serveUpTo 63 = .ok (.iinc 3 1, 3) := by decide +kernel
theorem dX2_serveUpTo_66 : decode cX2_serveUpTo 66 = .ok (.goto (-55), 3) := by decide +kernel
theorem dX2_serveUpTo_69 : decode cX2_serveUpTo 69 = .ok (.iload_n 3, 1) := by decide +kernel
theorem dX2_serveUpTo_70 : decode cX2_serveUpTo 70 = .ok (.ireturn, 1) := by decide +kernel
set_option maxRecDepth 20000 in
theorem ggX2_empty_X2_queueOf : GoodIn wsX2_empty wsX2_queueOf := goodIn_ca (goodIn_r _ [5, 6, 7, 8, 51, 52, 53, 54, 55, 56, 57] (by decide +kernel) (by decide +kernel)) (goodIn_sub (fun _ h => List.mem_cons_of_mem _ (List.mem_append_right _ h)) (by decide +kernel))
set_option maxRecDepth 20000 in
theorem gX2_empty_X2_queueOf : GoodIn wsX2_empty (wsV RX2 23 RX2 yX2_queueOf wsX2_queueOf) := goodIn_app (goodIn_of _ (by decide +kernel)) ggX2_empty_X2_queueOf
set_option maxRecDepth 20000 in
theorem ggX2_empty_X0_dropAll : GoodIn wsX2_empty wsX0_dropAll := goodIn_r _ [13, 14, 15, 36, 37, 38, 39, 40, 41, 42, 43, 44, 45, 46, 47, 48, 49, 50] (by decide +kernel) (by decide +kernel)
set_option maxRecDepth 20000 in
theorem gX2_empty_X0_dropAll : GoodIn wsX2_empty (wsV RX2 111 RX0 yX0_dropAll wsX0_dropAll) := goodIn_app (goodIn_of _ (by decide +kernel)) ggX2_empty_X0_dropAll
set_option maxRecDepth 20000 in
theorem ggX2_empty_X2_leaveRing : GoodIn wsX2_empty wsX2_leaveRing := goodIn_r _ [19, 20, 21, 22, 23, 24, 25, 26, 27, 28, 29, 30, 31, 32, 33, 34, 35, 51, 52, 53, 54, 55, 56, 57, 36, 37, 38, 39, 40, 41, 42, 43, 44, 45, 46, 47, 48, 49, 50, 58, 59] (by decide +kernel) (by decide +kernel)
set_option maxRecDepth 20000 in
theorem gX2_empty_X2_leaveRing : GoodIn wsX2_empty (wsV RX2 114 RX2 yX2_leaveRing wsX2_leaveRing) := goodIn_app (goodIn_of _ (by decide +kernel)) ggX2_empty_X2_leaveRing
theorem dX2_empty_0 : decode cX2_empty 0 = .ok (.aload_n 0, 1) := by decide +kernel
theorem dX2_empty_1 : decode cX2_empty 1 = .ok (.iload_n 1, 1) := by decide +kernel
theorem dX2_empty_2 : decode cX2_empty 2 = .ok (.invokevirtual 23, 3) := by decide +kernel
theorem dX2_empty_5 : decode cX2_empty 5 = .ok (.astore_n 2, 1) := by decide +kernel
theorem dX2_empty_6 : decode cX2_empty 6 = .ok (.aload_n 2, 1) := by decide +kernel
theorem dX2_empty_7 : decode cX2_empty 7 = .ok (.getfield 52, 3) := by decide +kernel
theorem dX2_empty_10 : decode cX2_empty 10 = .ok (.istore_n 3, 1) := by decide +kernel
theorem dX2_empty_11 : decode cX2_empty 11 = .ok (.iload_n 3, 1) := by decide +kernel
theorem dX2_empty_12 : decode cX2_empty 12 = .ok (.ifCond .le 13, 3) := by decide +kernel
theorem dX2_empty_15 : decode cX2_empty 15 = .ok (.aload_n 2, 1) := by decide +kernel
theorem dX2_empty_16 : decode cX2_empty 16 = .ok (.invokevirtual 111, 3) := by decide +kernel
theorem dX2_empty_19 : decode cX2_empty 19 = .ok (.aload_n 0, 1) := by decide +kernel
theorem dX2_empty_20 : decode cX2_empty 20 = .ok (.iload_n 1, 1) := by decide +kernel
theorem dX2_empty_21 : decode cX2_empty 21 = .ok (.aload_n 2, 1) := by decide +kernel
theorem dX2_empty_22 : decode cX2_empty 22 = .ok (.invokevirtual 114, 3) := by decide +kernel
theorem dX2_empty_25 : decode cX2_empty 25 = .ok (.iload_n 3, 1) := by decide +kernel
theorem dX2_empty_26 : decode cX2_empty 26 = .ok (.ireturn, 1) := by decide +kernel
set_option maxRecDepth 20000 in
theorem ggX2_told_X2_queueOf : GoodIn wsX2_told wsX2_queueOf := goodIn_ca (goodIn_r _ [8, 1, 2, 9, 32, 33, 34, 35, 36, 37, 38] (by decide +kernel) (by decide +kernel)) (goodIn_sub (fun _ h => List.mem_cons_of_mem _ (List.mem_append_right _ h)) (by decide +kernel))
set_option maxRecDepth 20000 in
theorem gX2_told_X2_queueOf : GoodIn wsX2_told (wsV RX2 23 RX2 yX2_queueOf wsX2_queueOf) := goodIn_app (goodIn_of _ (by decide +kernel)) ggX2_told_X2_queueOf
set_option maxRecDepth 20000 in
theorem ggX2_told_X1_placeOf : GoodIn wsX2_told wsX1_placeOf := goodIn_r _ [14, 15, 16, 39, 40] (by decide +kernel) (by decide +kernel)
set_option maxRecDepth 20000 in
theorem gX2_told_X1_placeOf : GoodIn wsX2_told (wsV RX2 125 RX1 yX1_placeOf wsX1_placeOf) := goodIn_app (goodIn_of _ (by decide +kernel)) ggX2_told_X1_placeOf
theorem dX2_told_0 : decode cX2_told 0 = .ok (.aload_n 0, 1) := by decide +kernel
theorem dX2_told_1 : decode cX2_told 1 = .ok (.iload_n 1, 1) := by decide +kernel
theorem dX2_told_2 : decode cX2_told 2 = .ok (.invokevirtual 23, 3) := by decide +kernel
theorem dX2_told_5 : decode cX2_told 5 = .ok (.astore_n 3, 1) := by decide +kernel
theorem dX2_told_6 : decode cX2_told 6 = .ok (.iload_n 2, 1) := by decide +kernel
theorem dX2_told_7 : decode cX2_told 7 = .ok (.tableswitch 147 0 12 #[65, 70, 75, 80, 85, 90, 95, 108, 122, 127, 132, 137, 142], 65) := by decide +kernel
theorem dX2_told_72 : decode cX2_told 72 = .ok (.aload_n 3, 1) := by decide +kernel
theorem dX2_told_73 : decode cX2_told 73 = .ok (.getfield 52, 3) := by decide +kernel
theorem dX2_told_76 : decode cX2_told 76 = .ok (.ireturn, 1) := by decide +kernel
theorem dX2_told_77 : decode cX2_told 77 = .ok (.aload_n 3, 1) := by decide +kernel
theorem dX2_told_78 : decode cX2_told 78 = .ok (.getfield 45, 3) := by decide +kernel
theorem dX2_told_81 : decode cX2_told 81 = .ok (.ireturn, 1) := by decide +kernel
theorem dX2_told_82 : decode cX2_told 82 = .ok (.aload_n 3, 1) := by decide +kernel
theorem dX2_told_83 : decode cX2_told 83 = .ok (.getfield 42, 3) := by decide +kernel
theorem dX2_told_86 : decode cX2_told 86 = .ok (.ireturn, 1) := by decide +kernel
theorem dX2_told_87 : decode cX2_told 87 = .ok (.aload_n 3, 1) := by decide +kernel
theorem dX2_told_88 : decode cX2_told 88 = .ok (.getfield 39, 3) := by decide +kernel
theorem dX2_told_91 : decode cX2_told 91 = .ok (.ireturn, 1) := by decide +kernel
theorem dX2_told_92 : decode cX2_told 92 = .ok (.aload_n 3, 1) := by decide +kernel
theorem dX2_told_93 : decode cX2_told 93 = .ok (.getfield 35, 3) := by decide +kernel
theorem dX2_told_96 : decode cX2_told 96 = .ok (.ireturn, 1) := by decide +kernel
theorem dX2_told_97 : decode cX2_told 97 = .ok (.aload_n 3, 1) := by decide +kernel
theorem dX2_told_98 : decode cX2_told 98 = .ok (.getfield 118, 3) := by decide +kernel
theorem dX2_told_101 : decode cX2_told 101 = .ok (.ireturn, 1) := by decide +kernel
theorem dX2_told_102 : decode cX2_told 102 = .ok (.aload_n 3, 1) := by decide +kernel
theorem dX2_told_103 : decode cX2_told 103 = .ok (.getfield 121, 3) := by decide +kernel
theorem dX2_told_106 : decode cX2_told 106 = .ok (.ifCond .eq 7, 3) := by decide +kernel
theorem dX2_told_109 : decode cX2_told 109 = .ok (.iconst 1, 1) := by decide +kernel
theorem dX2_told_110 : decode cX2_told 110 = .ok (.goto 4, 3) := by decide +kernel
theorem dX2_told_113 : decode cX2_told 113 = .ok (.iconst 0, 1) := by decide +kernel
theorem dX2_told_114 : decode cX2_told 114 = .ok (.ireturn, 1) := by decide +kernel
theorem dX2_told_115 : decode cX2_told 115 = .ok (.aload_n 0, 1) := by decide +kernel
theorem dX2_told_116 : decode cX2_told 116 = .ok (.getfield 17, 3) := by decide +kernel
theorem dX2_told_119 : decode cX2_told 119 = .ok (.aload_n 3, 1) := by decide +kernel
theorem dX2_told_120 : decode cX2_told 120 = .ok (.getfield 45, 3) := by decide +kernel
theorem dX2_told_123 : decode cX2_told 123 = .ok (.aaload, 1) := by decide +kernel
theorem dX2_told_124 : decode cX2_told 124 = .ok (.iload_n 1, 1) := by decide +kernel
theorem dX2_told_125 : decode cX2_told 125 = .ok (.invokevirtual 125, 3) := by decide +kernel
theorem dX2_told_128 : decode cX2_told 128 = .ok (.ireturn, 1) := by decide +kernel
theorem dX2_told_129 : decode cX2_told 129 = .ok (.aload_n 3, 1) := by decide +kernel
theorem dX2_told_130 : decode cX2_told 130 = .ok (.getfield 128, 3) := by decide +kernel
theorem dX2_told_133 : decode cX2_told 133 = .ok (.ireturn, 1) := by decide +kernel
theorem dX2_told_134 : decode cX2_told 134 = .ok (.aload_n 3, 1) := by decide +kernel
theorem dX2_told_135 : decode cX2_told 135 = .ok (.getfield 131, 3) := by decide +kernel
theorem dX2_told_138 : decode cX2_told 138 = .ok (.ireturn, 1) := by decide +kernel
theorem dX2_told_139 : decode cX2_told 139 = .ok (.aload_n 3, 1) := by decide +kernel
theorem dX2_told_140 : decode cX2_told 140 = .ok (.getfield 134, 3) := by decide +kernel
theorem dX2_told_143 : decode cX2_told 143 = .ok (.ireturn, 1) := by decide +kernel
theorem dX2_told_144 : decode cX2_told 144 = .ok (.aload_n 3, 1) := by decide +kernel
theorem dX2_told_145 : decode cX2_told 145 = .ok (.getfield 137, 3) := by decide +kernel
theorem dX2_told_148 : decode cX2_told 148 = .ok (.ireturn, 1) := by decide +kernel
theorem dX2_told_149 : decode cX2_told 149 = .ok (.aload_n 3, 1) := by decide +kernel
theorem dX2_told_150 : decode cX2_told 150 = .ok (.getfield 140, 3) := by decide +kernel
theorem dX2_told_153 : decode cX2_told 153 = .ok (.ireturn, 1) := by decide +kernel
theorem dX2_told_154 : decode cX2_told 154 = .ok (.new 143, 3) := by decide +kernel
theorem dX2_told_157 : decode cX2_told 157 = .ok (.dup, 1) := by decide +kernel
theorem dX2_told_158 : decode cX2_told 158 = .ok (.ldc 145, 2) := by decide +kernel
theorem dX2_told_160 : decode cX2_told 160 = .ok (.invokespecial 147, 3) := by decide +kernel
theorem dX2_told_163 : decode cX2_told 163 = .ok (.athrow, 1) := by decide +kernel
set_option maxRecDepth 20000 in
theorem ggX2_item_X2_queueOf : GoodIn wsX2_item wsX2_queueOf := goodIn_ca (goodIn_r _ [7, 8, 9, 10, 49, 50, 51, 52, 53, 54, 55] (by decide +kernel) (by decide +kernel)) (goodIn_sub (fun _ h => List.mem_cons_of_mem _ (List.mem_append_right _ h)) (by decide +kernel))
set_option maxRecDepth 20000 in
theorem gX2_item_X2_queueOf : GoodIn wsX2_item (wsV RX2 23 RX2 yX2_queueOf wsX2_queueOf) := goodIn_app (goodIn_of _ (by decide +kernel)) ggX2_item_X2_queueOf
set_option maxRecDepth 20000 in
theorem ggX2_item_X2_checkRange : GoodIn wsX2_item wsX2_checkRange := goodIn_ca (goodIn_r _ [13, 8, 9] (by decide +kernel) (by decide +kernel)) (goodIn_sub (fun _ h => List.mem_cons_of_mem _ (List.mem_append_right _ h)) (by decide +kernel))
set_option maxRecDepth 20000 in
theorem gX2_item_X2_checkRange : GoodIn wsX2_item (va_wsS RX2 27 yX2_checkRange wsX2_checkRange) := goodIn_app (goodIn_of _ (by decide +kernel)) ggX2_item_X2_checkRange
set_option maxRecDepth 20000 in
theorem ggX2_item_X0_wordAt : GoodIn wsX2_item wsX0_wordAt := goodIn_r _ [18, 19, 20, 21, 22, 17, 23, 24, 25, 26, 27, 28, 34, 35, 36, 37, 38, 39, 40, 41, 42, 43, 44, 45, 46, 47, 48] (by decide +kernel) (by decide +kernel)
set_option maxRecDepth 20000 in
theorem gX2_item_X0_wordAt : GoodIn wsX2_item (wsV RX2 155 RX0 yX0_wordAt wsX0_wordAt) := goodIn_app (goodIn_of _ (by decide +kernel)) ggX2_item_X0_wordAt
set_option maxRecDepth 20000 in
theorem ggX2_item_X0_costAt : GoodIn wsX2_item wsX0_costAt := goodIn_r _ [32, 33, 20, 21, 22, 17, 23, 24, 25, 26, 27, 28, 34, 35, 36, 37, 38, 39, 40, 41, 42, 43, 44, 45, 46, 47, 48] (by decide +kernel) (by decide +kernel)
set_option maxRecDepth 20000 in
theorem gX2_item_X0_costAt : GoodIn wsX2_item (wsV RX2 158 RX0 yX0_costAt wsX0_costAt) := goodIn_app (goodIn_of _ (by decide +kernel)) ggX2_item_X0_costAt
theorem dX2_item_0 : decode cX2_item 0 = .ok (.aload_n 0, 1) := by decide +kernel
theorem dX2_item_1 : decode cX2_item 1 = .ok (.iload_n 1, 1) := by decide +kernel
theorem dX2_item_2 : decode cX2_item 2 = .ok (.invokevirtual 23, 3) := by decide +kernel
theorem dX2_item_5 : decode cX2_item 5 = .ok (.astore 4, 2) := by decide +kernel
theorem dX2_item_7 : decode cX2_item 7 = .ok (.iload_n 3, 1) := by decide +kernel
theorem dX2_item_8 : decode cX2_item 8 = .ok (.iconst 0, 1) := by decide +kernel
theorem dX2_item_9 : decode cX2_item 9 = .ok (.iconst 1, 1) := by decide +kernel
theorem dX2_item_10 : decode cX2_item 10 = .ok (.invokestatic 27, 3) := by decide +kernel
theorem dX2_item_13 : decode cX2_item 13 = .ok (.iload_n 2, 1) := by decide +kernel
theorem dX2_item_14 : decode cX2_item 14 = .ok (.ifCond .lt 12, 3) := by decide +kernel
theorem dX2_item_17 : decode cX2_item 17 = .ok (.iload_n 2, 1) := by decide +kernel
theorem dX2_item_18 : decode cX2_item 18 = .ok (.aload 4, 2) := by decide +kernel
theorem dX2_item_20 : decode cX2_item 20 = .ok (.getfield 52, 3) := by decide +kernel
theorem dX2_item_23 : decode cX2_item 23 = .ok (.if_icmp .lt 13, 3) := by decide +kernel
theorem dX2_item_26 : decode cX2_item 26 = .ok (.new 150, 3) := by decide +kernel
theorem dX2_item_29 : decode cX2_item 29 = .ok (.dup, 1) := by decide +kernel
theorem dX2_item_30 : decode cX2_item 30 = .ok (.ldc 152, 2) := by decide +kernel
theorem dX2_item_32 : decode cX2_item 32 = .ok (.invokespecial 154, 3) := by decide +kernel
theorem dX2_item_35 : decode cX2_item 35 = .ok (.athrow, 1) := by decide +kernel
theorem dX2_item_36 : decode cX2_item 36 = .ok (.iload_n 3, 1) := by decide +kernel
theorem dX2_item_37 : decode cX2_item 37 = .ok (.ifCond .ne 12, 3) := by decide +kernel
theorem dX2_item_40 : decode cX2_item 40 = .ok (.aload 4, 2) := by decide +kernel
theorem dX2_item_42 : decode cX2_item 42 = .ok (.iload_n 2, 1) := by decide +kernel
theorem dX2_item_43 : decode cX2_item 43 = .ok (.invokevirtual 155, 3) := by decide +kernel
theorem dX2_item_46 : decode cX2_item 46 = .ok (.goto 9, 3) := by decide +kernel
theorem dX2_item_49 : decode cX2_item 49 = .ok (.aload 4, 2) := by decide +kernel
theorem dX2_item_51 : decode cX2_item 51 = .ok (.iload_n 2, 1) := by decide +kernel
theorem dX2_item_52 : decode cX2_item 52 = .ok (.invokevirtual 158, 3) := by decide +kernel
theorem dX2_item_55 : decode cX2_item 55 = .ok (.ireturn, 1) := by decide +kernel
set_option maxRecDepth 20000 in
theorem ggX2_all_X2_freeCells : GoodIn wsX2_all wsX2_freeCells := goodIn_r _ [11, 12, 32, 33, 34, 35, 36, 37, 38, 39, 40, 41, 42, 43, 44, 45, 46, 47, 48, 49, 50, 51, 52, 53] (by decide +kernel) (by decide +kernel)
set_option maxRecDepth 20000 in
theorem gX2_all_X2_freeCells : GoodIn wsX2_all (wsV RX2 161 RX2 yX2_freeCells wsX2_freeCells) := goodIn_app (goodIn_of _ (by decide +kernel)) ggX2_all_X2_freeCells
set_option maxRecDepth 20000 in
theorem ggX2_all_X2_openCells : GoodIn wsX2_all wsX2_openCells := goodIn_r _ [16, 12, 17, 18, 19, 20, 7, 8, 9, 10, 11, 21, 22, 23, 24, 25, 26, 27, 32, 33, 34, 35, 36, 37, 38, 39, 40, 41, 42, 43, 44, 45, 46, 47, 48, 49, 50, 51, 52, 53] (by decide +kernel) (by decide +kernel)
set_option maxRecDepth 20000 in
theorem gX2_all_X2_openCells : GoodIn wsX2_all (wsV RX2 164 RX2 yX2_openCells wsX2_openCells) := goodIn_app (goodIn_of _ (by decide +kernel)) ggX2_all_X2_openCells
set_option maxRecDepth 20000 in
theorem ggX2_all_X2_keptCells : GoodIn wsX2_all wsX2_keptCells := goodIn_r _ [31, 12, 32, 33, 34, 35, 36, 37, 38, 39, 40, 41, 42, 43, 44, 45, 46, 47, 48, 49, 50, 51, 52, 53] (by decide +kernel) (by decide +kernel)
set_option maxRecDepth 20000 in
theorem gX2_all_X2_keptCells : GoodIn wsX2_all (wsV RX2 31 RX2 yX2_keptCells wsX2_keptCells) := goodIn_app (goodIn_of _ (by decide +kernel)) ggX2_all_X2_keptCells
theorem dX2_all_0 : decode cX2_all 0 = .ok (.iload_n 1, 1) := by decide +kernel
theorem dX2_all_1 : decode cX2_all 1 = .ok (.tableswitch 78 0 6 #[43, 48, 53, 58, 63, 68, 73], 43) := by decide +kernel
theorem dX2_all_44 : decode cX2_all 44 = .ok (.aload_n 0, 1) := by decide +kernel
theorem dX2_all_45 : decode cX2_all 45 = .ok (.invokevirtual 161, 3) := by decide +kernel
theorem dX2_all_48 : decode cX2_all 48 = .ok (.ireturn, 1) := by decide +kernel
theorem dX2_all_49 : decode cX2_all 49 = .ok (.aload_n 0, 1) := by decide +kernel
theorem dX2_all_50 : decode cX2_all 50 = .ok (.invokevirtual 164, 3) := by decide +kernel
theorem dX2_all_53 : decode cX2_all 53 = .ok (.ireturn, 1) := by decide +kernel
theorem dX2_all_54 : decode cX2_all 54 = .ok (.aload_n 0, 1) := by decide +kernel
theorem dX2_all_55 : decode cX2_all 55 = .ok (.invokevirtual 31, 3) := by decide +kernel
theorem dX2_all_58 : decode cX2_all 58 = .ok (.ireturn, 1) := by decide +kernel
theorem dX2_all_59 : decode cX2_all 59 = .ok (.aload_n 0, 1) := by decide +kernel
theorem dX2_all_60 : decode cX2_all 60 = .ok (.getfield 167, 3) := by decide +kernel
theorem dX2_all_63 : decode cX2_all 63 = .ok (.ireturn, 1) := by decide +kernel
theorem dX2_all_64 : decode cX2_all 64 = .ok (.aload_n 0, 1) := by decide +kernel
theorem dX2_all_65 : decode cX2_all 65 = .ok (.getfield 170, 3) := by decide +kernel
theorem dX2_all_68 : decode cX2_all 68 = .ok (.ireturn, 1) := by decide +kernel
theorem dX2_all_69 : decode cX2_all 69 = .ok (.aload_n 0, 1) := by decide +kernel
theorem dX2_all_70 : decode cX2_all 70 = .ok (.getfield 55, 3) := by decide +kernel
theorem dX2_all_73 : decode cX2_all 73 = .ok (.ireturn, 1) := by decide +kernel
theorem dX2_all_74 : decode cX2_all 74 = .ok (.aload_n 0, 1) := by decide +kernel
theorem dX2_all_75 : decode cX2_all 75 = .ok (.getfield 72, 3) := by decide +kernel
theorem dX2_all_78 : decode cX2_all 78 = .ok (.ireturn, 1) := by decide +kernel
theorem dX2_all_79 : decode cX2_all 79 = .ok (.new 143, 3) := by decide +kernel
theorem dX2_all_82 : decode cX2_all 82 = .ok (.dup, 1) := by decide +kernel
theorem dX2_all_83 : decode cX2_all 83 = .ok (.ldc 145, 2) := by decide +kernel
theorem dX2_all_85 : decode cX2_all 85 = .ok (.invokespecial 147, 3) := by decide +kernel
theorem dX2_all_88 : decode cX2_all 88 = .ok (.athrow, 1) := by decide +kernel
theorem dX2_queueOf_0 : decode cX2_queueOf 0 = .ok (.iload_n 1, 1) := by decide +kernel
theorem dX2_queueOf_1 : decode cX2_queueOf 1 = .ok (.ifCond .lt 9, 3) := by decide +kernel
theorem dX2_queueOf_4 : decode cX2_queueOf 4 = .ok (.iload_n 1, 1) := by decide +kernel
theorem dX2_queueOf_5 : decode cX2_queueOf 5 = .ok (.bipush 12, 2) := by decide +kernel
theorem dX2_queueOf_7 : decode cX2_queueOf 7 = .ok (.if_icmp .lt 13, 3) := by decide +kernel
theorem dX2_queueOf_10 : decode cX2_queueOf 10 = .ok (.new 143, 3) := by decide +kernel
theorem dX2_queueOf_13 : decode cX2_queueOf 13 = .ok (.dup, 1) := by decide +kernel
theorem dX2_queueOf_14 : decode cX2_queueOf 14 = .ok (.ldc 173, 2) := by decide +kernel
theorem dX2_queueOf_16 : decode cX2_queueOf 16 = .ok (.invokespecial 147, 3) := by decide +kernel
theorem dX2_queueOf_19 : decode cX2_queueOf 19 = .ok (.athrow, 1) := by decide +kernel
theorem dX2_queueOf_20 : decode cX2_queueOf 20 = .ok (.aload_n 0, 1) := by decide +kernel
theorem dX2_queueOf_21 : decode cX2_queueOf 21 = .ok (.getfield 11, 3) := by decide +kernel
theorem dX2_queueOf_24 : decode cX2_queueOf 24 = .ok (.iload_n 1, 1) := by decide +kernel
theorem dX2_queueOf_25 : decode cX2_queueOf 25 = .ok (.aaload, 1) := by decide +kernel
theorem dX2_queueOf_26 : decode cX2_queueOf 26 = .ok (.areturn, 1) := by decide +kernel
theorem dX2_checkRange_0 : decode cX2_checkRange 0 = .ok (.iload_n 0, 1) := by decide +kernel
theorem dX2_checkRange_1 : decode cX2_checkRange 1 = .ok (.iload_n 1, 1) := by decide +kernel
theorem dX2_checkRange_2 : decode cX2_checkRange 2 = .ok (.if_icmp .lt 8, 3) := by decide +kernel
theorem dX2_checkRange_5 : decode cX2_checkRange 5 = .ok (.iload_n 0, 1) := by decide +kernel
theorem dX2_checkRange_6 : decode cX2_checkRange 6 = .ok (.iload_n 2, 1) := by decide +kernel
theorem dX2_checkRange_7 : decode cX2_checkRange 7 = .ok (.if_icmp .le 13, 3) := by decide +kernel
theorem dX2_checkRange_10 : decode cX2_checkRange 10 = .ok (.new 143, 3) := by decide +kernel
theorem dX2_checkRange_13 : decode cX2_checkRange 13 = .ok (.dup, 1) := by decide +kernel
theorem dX2_checkRange_14 : decode cX2_checkRange 14 = .ok (.ldc 175, 2) := by decide +kernel
theorem dX2_checkRange_16 : decode cX2_checkRange 16 = .ok (.invokespecial 147, 3) := by decide +kernel
theorem dX2_checkRange_19 : decode cX2_checkRange 19 = .ok (.athrow, 1) := by decide +kernel
theorem dX2_checkRange_20 : decode cX2_checkRange 20 = .ok (.return_, 1) := by decide +kernel
theorem dX2_keptCells_0 : decode cX2_keptCells 0 = .ok (.iconst 0, 1) := by decide +kernel
theorem dX2_keptCells_1 : decode cX2_keptCells 1 = .ok (.istore_n 1, 1) := by decide +kernel
theorem dX2_keptCells_2 : decode cX2_keptCells 2 = .ok (.aload_n 0, 1) := by decide +kernel
theorem dX2_keptCells_3 : decode cX2_keptCells 3 = .ok (.getfield 11, 3) := by decide +kernel
theorem dX2_keptCells_6 : decode cX2_keptCells 6 = .ok (.astore_n 2, 1) := by decide +kernel
theorem dX2_keptCells_7 : decode cX2_keptCells 7 = .ok (.aload_n 2, 1) := by decide +kernel
theorem dX2_keptCells_8 : decode cX2_keptCells 8 = .ok (.arraylength, 1) := by decide +kernel
theorem dX2_keptCells_9 : decode cX2_keptCells 9 = .ok (.istore_n 3, 1) := by decide +kernel
theorem dX2_keptCells_10 : decode cX2_keptCells 10 = .ok (.iconst 0, 1) := by decide +kernel
theorem dX2_keptCells_11 : decode cX2_keptCells 11 = .ok (.istore 4, 2) := by decide +kernel
theorem dX2_keptCells_13 : decode cX2_keptCells 13 = .ok (.iload 4, 2) := by decide +kernel
theorem dX2_keptCells_15 : decode cX2_keptCells 15 = .ok (.iload_n 3, 1) := by decide +kernel
theorem dX2_keptCells_16 : decode cX2_keptCells 16 = .ok (.if_icmp .ge 23, 3) := by decide +kernel
theorem dX2_keptCells_19 : decode cX2_keptCells 19 = .ok (.aload_n 2, 1) := by decide +kernel
theorem dX2_keptCells_20 : decode cX2_keptCells 20 = .ok (.iload 4, 2) := by decide +kernel
theorem dX2_keptCells_22 : decode cX2_keptCells 22 = .ok (.aaload, 1) := by decide +kernel
theorem dX2_keptCells_23 : decode cX2_keptCells 23 = .ok (.astore 5, 2) := by decide +kernel
theorem dX2_keptCells_25 : decode cX2_keptCells 25 = .ok (.iload_n 1, 1) := by decide +kernel
theorem dX2_keptCells_26 : decode cX2_keptCells 26 = .ok (.aload 5, 2) := by decide +kernel
theorem dX2_keptCells_28 : decode cX2_keptCells 28 = .ok (.getfield 35, 3) := by decide +kernel
theorem dX2_keptCells_31 : decode cX2_keptCells 31 = .ok (.iadd, 1) := by decide +kernel
theorem dX2_keptCells_32 : decode cX2_keptCells 32 = .ok (.istore_n 1, 1) := by decide +kernel
theorem dX2_keptCells_33 : decode cX2_keptCells 33 = .ok (.iinc 4 1, 3) := by decide +kernel
theorem dX2_keptCells_36 : decode cX2_keptCells 36 = .ok (.goto (-23), 3) := by decide +kernel
theorem dX2_keptCells_39 : decode cX2_keptCells 39 = .ok (.iload_n 1, 1) := by decide +kernel
theorem dX2_keptCells_40 : decode cX2_keptCells 40 = .ok (.ireturn, 1) := by decide +kernel
theorem dX2_freeCells_0 : decode cX2_freeCells 0 = .ok (.bipush 96, 2) := by decide +kernel
theorem dX2_freeCells_2 : decode cX2_freeCells 2 = .ok (.istore_n 1, 1) := by decide +kernel
theorem dX2_freeCells_3 : decode cX2_freeCells 3 = .ok (.aload_n 0, 1) := by decide +kernel
theorem dX2_freeCells_4 : decode cX2_freeCells 4 = .ok (.getfield 11, 3) := by decide +kernel
theorem dX2_freeCells_7 : decode cX2_freeCells 7 = .ok (.astore_n 2, 1) := by decide +kernel
theorem dX2_freeCells_8 : decode cX2_freeCells 8 = .ok (.aload_n 2, 1) := by decide +kernel
theorem dX2_freeCells_9 : decode cX2_freeCells 9 = .ok (.arraylength, 1) := by decide +kernel
theorem dX2_freeCells_10 : decode cX2_freeCells 10 = .ok (.istore_n 3, 1) := by decide +kernel
theorem dX2_freeCells_11 : decode cX2_freeCells 11 = .ok (.iconst 0, 1) := by decide +kernel
theorem dX2_freeCells_12 : decode cX2_freeCells 12 = .ok (.istore 4, 2) := by decide +kernel
theorem dX2_freeCells_14 : decode cX2_freeCells 14 = .ok (.iload 4, 2) := by decide +kernel
theorem dX2_freeCells_16 : decode cX2_freeCells 16 = .ok (.iload_n 3, 1) := by decide +kernel
theorem dX2_freeCells_17 : decode cX2_freeCells 17 = .ok (.if_icmp .ge 23, 3) := by decide +kernel
theorem dX2_freeCells_20 : decode cX2_freeCells 20 = .ok (.aload_n 2, 1) := by decide +kernel
theorem dX2_freeCells_21 : decode cX2_freeCells 21 = .ok (.iload 4, 2) := by decide +kernel
theorem dX2_freeCells_23 : decode cX2_freeCells 23 = .ok (.aaload, 1) := by decide +kernel
theorem dX2_freeCells_24 : decode cX2_freeCells 24 = .ok (.astore 5, 2) := by decide +kernel
theorem dX2_freeCells_26 : decode cX2_freeCells 26 = .ok (.iload_n 1, 1) := by decide +kernel
theorem dX2_freeCells_27 : decode cX2_freeCells 27 = .ok (.aload 5, 2) := by decide +kernel
theorem dX2_freeCells_29 : decode cX2_freeCells 29 = .ok (.getfield 52, 3) := by decide +kernel
theorem dX2_freeCells_32 : decode cX2_freeCells 32 = .ok (.isub, 1) := by decide +kernel
theorem dX2_freeCells_33 : decode cX2_freeCells 33 = .ok (.istore_n 1, 1) := by decide +kernel
theorem dX2_freeCells_34 : decode cX2_freeCells 34 = .ok (.iinc 4 1, 3) := by decide +kernel
theorem dX2_freeCells_37 : decode cX2_freeCells 37 = .ok (.goto (-23), 3) := by decide +kernel
theorem dX2_freeCells_40 : decode cX2_freeCells 40 = .ok (.iload_n 1, 1) := by decide +kernel
theorem dX2_freeCells_41 : decode cX2_freeCells 41 = .ok (.ireturn, 1) := by decide +kernel
set_option maxRecDepth 20000 in
theorem ggX2_openCells_X2_freeCells : GoodIn wsX2_openCells wsX2_freeCells := goodIn_r _ [10, 1, 18, 19, 20, 21, 22, 23, 24, 25, 26, 27, 28, 29, 30, 31, 32, 33, 34, 35, 36, 37, 38, 39] (by decide +kernel) (by decide +kernel)
set_option maxRecDepth 20000 in
theorem gX2_openCells_X2_freeCells : GoodIn wsX2_openCells (wsV RX2 161 RX2 yX2_freeCells wsX2_freeCells) := goodIn_app (goodIn_of _ (by decide +kernel)) ggX2_openCells_X2_freeCells
set_option maxRecDepth 20000 in
theorem ggX2_openCells_X0_excess : GoodIn wsX2_openCells wsX0_excess := goodIn_r _ [15, 16, 17, 25, 26, 27, 28, 29, 30, 31, 32, 33, 34, 35, 36, 37, 38, 39] (by decide +kernel) (by decide +kernel)
set_option maxRecDepth 20000 in
theorem gX2_openCells_X0_excess : GoodIn wsX2_openCells (wsV RX2 69 RX0 yX0_excess wsX0_excess) := goodIn_app (goodIn_of _ (by decide +kernel)) ggX2_openCells_X0_excess
theorem dX2_openCells_0 : decode cX2_openCells 0 = .ok (.aload_n 0, 1) := by decide +kernel
theorem dX2_openCells_1 : decode cX2_openCells 1 = .ok (.invokevirtual 161, 3) := by decide +kernel
theorem dX2_openCells_4 : decode cX2_openCells 4 = .ok (.istore_n 1, 1) := by decide +kernel
theorem dX2_openCells_5 : decode cX2_openCells 5 = .ok (.aload_n 0, 1) := by decide +kernel
theorem dX2_openCells_6 : decode cX2_openCells 6 = .ok (.getfield 11, 3) := by decide +kernel
theorem dX2_openCells_9 : decode cX2_openCells 9 = .ok (.astore_n 2, 1) := by decide +kernel
theorem dX2_openCells_10 : decode cX2_openCells 10 = .ok (.aload_n 2, 1) := by decide +kernel
theorem dX2_openCells_11 : decode cX2_openCells 11 = .ok (.arraylength, 1) := by decide +kernel
theorem dX2_openCells_12 : decode cX2_openCells 12 = .ok (.istore_n 3, 1) := by decide +kernel
theorem dX2_openCells_13 : decode cX2_openCells 13 = .ok (.iconst 0, 1) := by decide +kernel
theorem dX2_openCells_14 : decode cX2_openCells 14 = .ok (.istore 4, 2) := by decide +kernel
theorem dX2_openCells_16 : decode cX2_openCells 16 = .ok (.iload 4, 2) := by decide +kernel
theorem dX2_openCells_18 : decode cX2_openCells 18 = .ok (.iload_n 3, 1) := by decide +kernel
theorem dX2_openCells_19 : decode cX2_openCells 19 = .ok (.if_icmp .ge 27, 3) := by decide +kernel
theorem dX2_openCells_22 : decode cX2_openCells 22 = .ok (.aload_n 2, 1) := by decide +kernel
theorem dX2_openCells_23 : decode cX2_openCells 23 = .ok (.iload 4, 2) := by decide +kernel
theorem dX2_openCells_25 : decode cX2_openCells 25 = .ok (.aaload, 1) := by decide +kernel
theorem dX2_openCells_26 : decode cX2_openCells 26 = .ok (.astore 5, 2) := by decide +kernel
theorem dX2_openCells_28 : decode cX2_openCells 28 = .ok (.iload_n 1, 1) := by decide +kernel
theorem dX2_openCells_29 : decode cX2_openCells 29 = .ok (.aload 5, 2) := by decide +kernel
theorem dX2_openCells_31 : decode cX2_openCells 31 = .ok (.invokevirtual 69, 3) := by decide +kernel
theorem dX2_openCells_34 : decode cX2_openCells 34 = .ok (.iconst 0, 1) := by decide +kernel
theorem dX2_openCells_35 : decode cX2_openCells 35 = .ok (.invokestatic 177, 3) := by decide +kernel
theorem dX2_openCells_38 : decode cX2_openCells 38 = .ok (.iadd, 1) := by decide +kernel
theorem dX2_openCells_39 : decode cX2_openCells 39 = .ok (.istore_n 1, 1) := by decide +kernel
theorem dX2_openCells_40 : decode cX2_openCells 40 = .ok (.iinc 4 1, 3) := by decide +kernel
theorem dX2_openCells_43 : decode cX2_openCells 43 = .ok (.goto (-27), 3) := by decide +kernel
theorem dX2_openCells_46 : decode cX2_openCells 46 = .ok (.iload_n 1, 1) := by decide +kernel
theorem dX2_openCells_47 : decode cX2_openCells 47 = .ok (.ireturn, 1) := by decide +kernel
set_option maxRecDepth 20000 in
theorem ggX2_hasRoomFor_X2_freeCells : GoodIn wsX2_hasRoomFor wsX2_freeCells := goodIn_r _ [5, 6, 22, 23, 24, 25, 26, 27, 28, 29, 30, 31, 32, 33, 34, 35, 36, 37, 38, 39, 40, 41, 42, 43] (by decide +kernel) (by decide +kernel)
set_option maxRecDepth 20000 in
theorem gX2_hasRoomFor_X2_freeCells : GoodIn wsX2_hasRoomFor (wsV RX2 161 RX2 yX2_freeCells wsX2_freeCells) := goodIn_app (goodIn_of _ (by decide +kernel)) ggX2_hasRoomFor_X2_freeCells
set_option maxRecDepth 20000 in
theorem ggX2_hasRoomFor_X0_excess : GoodIn wsX2_hasRoomFor wsX0_excess := goodIn_r _ [11, 12, 13, 29, 30, 31, 32, 33, 34, 35, 36, 37, 38, 39, 40, 41, 42, 43] (by decide +kernel) (by decide +kernel)
set_option maxRecDepth 20000 in
theorem gX2_hasRoomFor_X0_excess : GoodIn wsX2_hasRoomFor (wsV RX2 69 RX0 yX0_excess wsX0_excess) := goodIn_app (goodIn_of _ (by decide +kernel)) ggX2_hasRoomFor_X0_excess
set_option maxRecDepth 20000 in
theorem ggX2_hasRoomFor_X2_openCells : GoodIn wsX2_hasRoomFor wsX2_openCells := goodIn_r _ [17, 6, 18, 19, 20, 21, 1, 2, 3, 4, 5, 7, 8, 9, 10, 11, 12, 13, 22, 23, 24, 25, 26, 27, 28, 29, 30, 31, 32, 33, 34, 35, 36, 37, 38, 39, 40, 41, 42, 43] (by decide +kernel) (by decide +kernel)
set_option maxRecDepth 20000 in
theorem gX2_hasRoomFor_X2_openCells : GoodIn wsX2_hasRoomFor (wsV RX2 164 RX2 yX2_openCells wsX2_openCells) := goodIn_app (goodIn_of _ (by decide +kernel)) ggX2_hasRoomFor_X2_openCells
theorem dX2_hasRoomFor_0 : decode cX2_hasRoomFor 0 = .ok (.aload_n 0, 1) := by decide +kernel
theorem dX2_hasRoomFor_1 : decode cX2_hasRoomFor 1 = .ok (.invokevirtual 161, 3) := by decide +kernel
theorem dX2_hasRoomFor_4 : decode cX2_hasRoomFor 4 = .ok (.ifCond .le 21, 3) := by decide +kernel
theorem dX2_hasRoomFor_7 : decode cX2_hasRoomFor 7 = .ok (.aload_n 1, 1) := by decide +kernel
theorem dX2_hasRoomFor_8 : decode cX2_hasRoomFor 8 = .ok (.invokevirtual 69, 3) := by decide +kernel
theorem dX2_hasRoomFor_11 : decode cX2_hasRoomFor 11 = .ok (.ifCond .lt 10, 3) := by decide +kernel
theorem dX2_hasRoomFor_14 : decode cX2_hasRoomFor 14 = .ok (.aload_n 0, 1) := by decide +kernel
theorem dX2_hasRoomFor_15 : decode cX2_hasRoomFor 15 = .ok (.invokevirtual 164, 3) := by decide +kernel
theorem dX2_hasRoomFor_18 : decode cX2_hasRoomFor 18 = .ok (.ifCond .le 7, 3) := by decide +kernel
theorem dX2_hasRoomFor_21 : decode cX2_hasRoomFor 21 = .ok (.iconst 1, 1) := by decide +kernel
theorem dX2_hasRoomFor_22 : decode cX2_hasRoomFor 22 = .ok (.goto 4, 3) := by decide +kernel
theorem dX2_hasRoomFor_25 : decode cX2_hasRoomFor 25 = .ok (.iconst 0, 1) := by decide +kernel
theorem dX2_hasRoomFor_26 : decode cX2_hasRoomFor 26 = .ok (.ireturn, 1) := by decide +kernel
set_option maxRecDepth 20000 in
theorem ggX2_queueOfGreatestExcess_X0_excess : GoodIn wsX2_queueOfGreatestExcess wsX0_excess := goodIn_r _ [6, 7, 8, 16, 17, 18, 19, 20, 21, 22, 23, 24, 25, 26, 27, 28, 29, 30] (by decide +kernel) (by decide +kernel)
