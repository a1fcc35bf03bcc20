set_option maxRecDepth 20000 in
theorem gX2_queueOfGreatestExcess_X0_excess : GoodIn wsX2_queueOfGreatestExcess (wsV RX2 69 RX0 yX0_excess wsX0_excess) := goodIn_app (goodIn_of _ (by decide +kernel)) ggX2_queueOfGreatestExcess_X0_excess
theorem dX2_queueOfGreatestExcess_0 : decode cX2_queueOfGreatestExcess 0 = .ok (.iconst 0, 1) := by decide +kernel
theorem dX2_queueOfGreatestExcess_1 : decode cX2_queueOfGreatestExcess 1 = .ok (.istore_n 1, 1) := by decide +kernel
theorem dX2_queueOfGreatestExcess_2 : decode cX2_queueOfGreatestExcess 2 = .ok (.iconst 1, 1) := by decide +kernel
theorem dX2_queueOfGreatestExcess_3 : decode cX2_queueOfGreatestExcess 3 = .ok (.istore_n 2, 1) := by decide +kernel
theorem dX2_queueOfGreatestExcess_4 : decode cX2_queueOfGreatestExcess 4 = .ok (.iload_n 2, 1) := by decide +kernel
theorem dX2_queueOfGreatestExcess_5 : decode cX2_queueOfGreatestExcess 5 = .ok (.bipush 12, 2) := by decide +kernel
theorem dX2_queueOfGreatestExcess_7 : decode cX2_queueOfGreatestExcess 7 = .ok (.if_icmp .ge 32, 3) := by decide +kernel
theorem dX2_queueOfGreatestExcess_10 : decode cX2_queueOfGreatestExcess 10 = .ok (.aload_n 0, 1) := by decide +kernel
theorem dX2_queueOfGreatestExcess_11 : decode cX2_queueOfGreatestExcess 11 = .ok (.getfield 11, 3) := by decide +kernel
theorem dX2_queueOfGreatestExcess_14 : decode cX2_queueOfGreatestExcess 14 = .ok (.iload_n 2, 1) := by decide +kernel
theorem dX2_queueOfGreatestExcess_15 : decode cX2_queueOfGreatestExcess 15 = .ok (.aaload, 1) := by decide +kernel
theorem dX2_queueOfGreatestExcess_16 : decode cX2_queueOfGreatestExcess 16 = .ok (.invokevirtual 69, 3) := by decide +kernel
theorem dX2_queueOfGreatestExcess_19 : decode cX2_queueOfGreatestExcess 19 = .ok (.aload_n 0, 1) := by decide +kernel
theorem dX2_queueOfGreatestExcess_20 : decode cX2_queueOfGreatestExcess 20 = .ok (.getfield 11, 3) := by decide +kernel
theorem dX2_queueOfGreatestExcess_23 : decode cX2_queueOfGreatestExcess 23 = .ok (.iload_n 1, 1) := by decide +kernel
theorem dX2_queueOfGreatestExcess_24 : decode cX2_queueOfGreatestExcess 24 = .ok (.aaload, 1) := by decide +kernel
theorem dX2_queueOfGreatestExcess_25 : decode cX2_queueOfGreatestExcess 25 = .ok (.invokevirtual 69, 3) := by decide +kernel
theorem dX2_queueOfGreatestExcess_28 : decode cX2_queueOfGreatestExcess 28 = .ok (.if_icmp .le 5, 3) := by decide +kernel
theorem dX2_queueOfGreatestExcess_31 : decode cX2_queueOfGreatestExcess 31 = .ok (.iload_n 2, 1) := by decide +kernel
theorem dX2_queueOfGreatestExcess_32 : decode cX2_queueOfGreatestExcess 32 = .ok (.istore_n 1, 1) := by decide +kernel
theorem dX2_queueOfGreatestExcess_33 : decode cX2_queueOfGreatestExcess 33 = .ok (.iinc 2 1, 3) := by decide +kernel
theorem dX2_queueOfGreatestExcess_36 : decode cX2_queueOfGreatestExcess 36 = .ok (.goto (-32), 3) := by decide +kernel
theorem dX2_queueOfGreatestExcess_39 : decode cX2_queueOfGreatestExcess 39 = .ok (.iload_n 1, 1) := by decide +kernel
theorem dX2_queueOfGreatestExcess_40 : decode cX2_queueOfGreatestExcess 40 = .ok (.ireturn, 1) := by decide +kernel
set_option maxRecDepth 20000 in
theorem ggX2_addItem_X0_putLast : GoodIn wsX2_addItem wsX0_putLast := goodIn_r _ [6, 7, 8, 9, 10, 11, 12, 13, 5, 14, 15, 16, 17, 18, 19, 27, 28, 29, 30, 31, 32, 33, 34, 35, 36, 37, 38, 39, 40, 41] (by decide +kernel) (by decide +kernel)
set_option maxRecDepth 20000 in
theorem gX2_addItem_X0_putLast : GoodIn wsX2_addItem (wsV RX2 183 RX0 yX0_putLast wsX0_putLast) := goodIn_app (goodIn_of _ (by decide +kernel)) ggX2_addItem_X0_putLast
set_option maxRecDepth 20000 in
theorem ggX2_addItem_X1_putAtEnd : GoodIn wsX2_addItem wsX1_putAtEnd := goodIn_r _ [24, 25, 26, 49, 50] (by decide +kernel) (by decide +kernel)
set_option maxRecDepth 20000 in
theorem gX2_addItem_X1_putAtEnd : GoodIn wsX2_addItem (wsV RX2 187 RX1 yX1_putAtEnd wsX1_putAtEnd) := goodIn_app (goodIn_of _ (by decide +kernel)) ggX2_addItem_X1_putAtEnd
theorem dX2_addItem_0 : decode cX2_addItem 0 = .ok (.aload_n 2, 1) := by decide +kernel
theorem dX2_addItem_1 : decode cX2_addItem 1 = .ok (.iload_n 3, 1) := by decide +kernel
theorem dX2_addItem_2 : decode cX2_addItem 2 = .ok (.iload 4, 2) := by decide +kernel
theorem dX2_addItem_4 : decode cX2_addItem 4 = .ok (.invokevirtual 183, 3) := by decide +kernel
theorem dX2_addItem_7 : decode cX2_addItem 7 = .ok (.aload_n 2, 1) := by decide +kernel
theorem dX2_addItem_8 : decode cX2_addItem 8 = .ok (.dup, 1) := by decide +kernel
theorem dX2_addItem_9 : decode cX2_addItem 9 = .ok (.getfield 128, 3) := by decide +kernel
theorem dX2_addItem_12 : decode cX2_addItem 12 = .ok (.iconst 1, 1) := by decide +kernel
theorem dX2_addItem_13 : decode cX2_addItem 13 = .ok (.iadd, 1) := by decide +kernel
theorem dX2_addItem_14 : decode cX2_addItem 14 = .ok (.putfield 128, 3) := by decide +kernel
theorem dX2_addItem_17 : decode cX2_addItem 17 = .ok (.aload_n 2, 1) := by decide +kernel
theorem dX2_addItem_18 : decode cX2_addItem 18 = .ok (.getfield 52, 3) := by decide +kernel
theorem dX2_addItem_21 : decode cX2_addItem 21 = .ok (.iconst 1, 1) := by decide +kernel
theorem dX2_addItem_22 : decode cX2_addItem 22 = .ok (.if_icmp .ne 16, 3) := by decide +kernel
theorem dX2_addItem_25 : decode cX2_addItem 25 = .ok (.aload_n 0, 1) := by decide +kernel
theorem dX2_addItem_26 : decode cX2_addItem 26 = .ok (.getfield 17, 3) := by decide +kernel
theorem dX2_addItem_29 : decode cX2_addItem 29 = .ok (.aload_n 2, 1) := by decide +kernel
theorem dX2_addItem_30 : decode cX2_addItem 30 = .ok (.getfield 45, 3) := by decide +kernel
theorem dX2_addItem_33 : decode cX2_addItem 33 = .ok (.aaload, 1) := by decide +kernel
theorem dX2_addItem_34 : decode cX2_addItem 34 = .ok (.iload_n 1, 1) := by decide +kernel
theorem dX2_addItem_35 : decode cX2_addItem 35 = .ok (.invokevirtual 187, 3) := by decide +kernel
theorem dX2_addItem_38 : decode cX2_addItem 38 = .ok (.return_, 1) := by decide +kernel
set_option maxRecDepth 20000 in
theorem ggX2_loseLastItem_X0_dropLast : GoodIn wsX2_loseLastItem wsX0_dropLast := goodIn_r _ [7, 8, 9, 10, 11, 12, 6, 13, 14, 15, 16, 17, 18, 19, 20, 21, 22, 23, 52, 53, 54, 55, 56, 57, 58, 59, 60, 61, 62, 63, 64, 65, 66] (by decide +kernel) (by decide +kernel)
set_option maxRecDepth 20000 in
theorem gX2_loseLastItem_X0_dropLast : GoodIn wsX2_loseLastItem (wsV RX2 190 RX0 yX0_dropLast wsX0_dropLast) := goodIn_app (goodIn_of _ (by decide +kernel)) ggX2_loseLastItem_X0_dropLast
set_option maxRecDepth 20000 in
theorem ggX2_loseLastItem_X2_leaveRing : GoodIn wsX2_loseLastItem wsX2_leaveRing := goodIn_r _ [28, 29, 30, 31, 32, 33, 34, 35, 36, 37, 38, 39, 40, 41, 42, 43, 44, 45, 46, 47, 48, 49, 50, 51, 52, 53, 54, 55, 56, 57, 58, 59, 60, 61, 62, 63, 64, 65, 66, 67, 68] (by decide +kernel) (by decide +kernel)
set_option maxRecDepth 20000 in
theorem gX2_loseLastItem_X2_leaveRing : GoodIn wsX2_loseLastItem (wsV RX2 114 RX2 yX2_leaveRing wsX2_leaveRing) := goodIn_app (goodIn_of _ (by decide +kernel)) ggX2_loseLastItem_X2_leaveRing
theorem dX2_loseLastItem_0 : decode cX2_loseLastItem 0 = .ok (.aload_n 0, 1) := by decide +kernel
theorem dX2_loseLastItem_1 : decode cX2_loseLastItem 1 = .ok (.getfield 11, 3) := by decide +kernel
theorem dX2_loseLastItem_4 : decode cX2_loseLastItem 4 = .ok (.iload_n 1, 1) := by decide +kernel
theorem dX2_loseLastItem_5 : decode cX2_loseLastItem 5 = .ok (.aaload, 1) := by decide +kernel
theorem dX2_loseLastItem_6 : decode cX2_loseLastItem 6 = .ok (.astore_n 2, 1) := by decide +kernel
theorem dX2_loseLastItem_7 : decode cX2_loseLastItem 7 = .ok (.aload_n 2, 1) := by decide +kernel
theorem dX2_loseLastItem_8 : decode cX2_loseLastItem 8 = .ok (.invokevirtual 190, 3) := by decide +kernel
theorem dX2_loseLastItem_11 : decode cX2_loseLastItem 11 = .ok (.aload_n 2, 1) := by decide +kernel
theorem dX2_loseLastItem_12 : decode cX2_loseLastItem 12 = .ok (.dup, 1) := by decide +kernel
theorem dX2_loseLastItem_13 : decode cX2_loseLastItem 13 = .ok (.getfield 131, 3) := by decide +kernel
theorem dX2_loseLastItem_16 : decode cX2_loseLastItem 16 = .ok (.iconst 1, 1) := by decide +kernel
theorem dX2_loseLastItem_17 : decode cX2_loseLastItem 17 = .ok (.iadd, 1) := by decide +kernel
theorem dX2_loseLastItem_18 : decode cX2_loseLastItem 18 = .ok (.putfield 131, 3) := by decide +kernel
theorem dX2_loseLastItem_21 : decode cX2_loseLastItem 21 = .ok (.aload_n 0, 1) := by decide +kernel
theorem dX2_loseLastItem_22 : decode cX2_loseLastItem 22 = .ok (.dup, 1) := by decide +kernel
theorem dX2_loseLastItem_23 : decode cX2_loseLastItem 23 = .ok (.getfield 170, 3) := by decide +kernel
theorem dX2_loseLastItem_26 : decode cX2_loseLastItem 26 = .ok (.iconst 1, 1) := by decide +kernel
theorem dX2_loseLastItem_27 : decode cX2_loseLastItem 27 = .ok (.iadd, 1) := by decide +kernel
theorem dX2_loseLastItem_28 : decode cX2_loseLastItem 28 = .ok (.putfield 170, 3) := by decide +kernel
theorem dX2_loseLastItem_31 : decode cX2_loseLastItem 31 = .ok (.aload_n 2, 1) := by decide +kernel
theorem dX2_loseLastItem_32 : decode cX2_loseLastItem 32 = .ok (.getfield 52, 3) := by decide +kernel
theorem dX2_loseLastItem_35 : decode cX2_loseLastItem 35 = .ok (.ifCond .ne 9, 3) := by decide +kernel
theorem dX2_loseLastItem_38 : decode cX2_loseLastItem 38 = .ok (.aload_n 0, 1) := by decide +kernel
theorem dX2_loseLastItem_39 : decode cX2_loseLastItem 39 = .ok (.iload_n 1, 1) := by decide +kernel
theorem dX2_loseLastItem_40 : decode cX2_loseLastItem 40 = .ok (.aload_n 2, 1) := by decide +kernel
theorem dX2_loseLastItem_41 : decode cX2_loseLastItem 41 = .ok (.invokevirtual 114, 3) := by decide +kernel
theorem dX2_loseLastItem_44 : decode cX2_loseLastItem 44 = .ok (.return_, 1) := by decide +kernel
set_option maxRecDepth 20000 in
theorem ggX2_leaveRing_X1_takeOut : GoodIn wsX2_leaveRing wsX1_takeOut := goodIn_r _ [6, 7, 8, 9, 10, 11, 12, 13, 14, 15, 5, 16, 39, 40] (by decide +kernel) (by decide +kernel)
set_option maxRecDepth 20000 in
theorem gX2_leaveRing_X1_takeOut : GoodIn wsX2_leaveRing (wsV RX2 193 RX1 yX1_takeOut wsX1_takeOut) := goodIn_app (goodIn_of _ (by decide +kernel)) ggX2_leaveRing_X1_takeOut
theorem dX2_leaveRing_0 : decode cX2_leaveRing 0 = .ok (.aload_n 0, 1) := by decide +kernel
theorem dX2_leaveRing_1 : decode cX2_leaveRing 1 = .ok (.getfield 17, 3) := by decide +kernel
theorem dX2_leaveRing_4 : decode cX2_leaveRing 4 = .ok (.aload_n 2, 1) := by decide +kernel
theorem dX2_leaveRing_5 : decode cX2_leaveRing 5 = .ok (.getfield 45, 3) := by decide +kernel
theorem dX2_leaveRing_8 : decode cX2_leaveRing 8 = .ok (.aaload, 1) := by decide +kernel
theorem dX2_leaveRing_9 : decode cX2_leaveRing 9 = .ok (.iload_n 1, 1) := by decide +kernel
theorem dX2_leaveRing_10 : decode cX2_leaveRing 10 = .ok (.invokevirtual 193, 3) := by decide +kernel
theorem dX2_leaveRing_13 : decode cX2_leaveRing 13 = .ok (.aload_n 2, 1) := by decide +kernel
theorem dX2_leaveRing_14 : decode cX2_leaveRing 14 = .ok (.iconst 0, 1) := by decide +kernel
theorem dX2_leaveRing_15 : decode cX2_leaveRing 15 = .ok (.putfield 118, 3) := by decide +kernel
theorem dX2_leaveRing_18 : decode cX2_leaveRing 18 = .ok (.aload_n 2, 1) := by decide +kernel
theorem dX2_leaveRing_19 : decode cX2_leaveRing 19 = .ok (.iconst 0, 1) := by decide +kernel
theorem dX2_leaveRing_20 : decode cX2_leaveRing 20 = .ok (.putfield 121, 3) := by decide +kernel
theorem dX2_leaveRing_23 : decode cX2_leaveRing 23 = .ok (.return_, 1) := by decide +kernel
set_option maxRecDepth 20000 in
theorem ggX2_changeClass_X1_takeOut : GoodIn wsX2_changeClass wsX1_takeOut := goodIn_r _ [6, 7, 8, 9, 10, 11, 12, 13, 14, 15, 5, 16, 43, 44] (by decide +kernel) (by decide +kernel)
set_option maxRecDepth 20000 in
theorem gX2_changeClass_X1_takeOut : GoodIn wsX2_changeClass (wsV RX2 193 RX1 yX1_takeOut wsX1_takeOut) := goodIn_app (goodIn_of _ (by decide +kernel)) ggX2_changeClass_X1_takeOut
set_option maxRecDepth 20000 in
theorem ggX2_changeClass_X1_putAtEnd : GoodIn wsX2_changeClass wsX1_putAtEnd := goodIn_r _ [20, 7, 8, 43, 44] (by decide +kernel) (by decide +kernel)
set_option maxRecDepth 20000 in
theorem gX2_changeClass_X1_putAtEnd : GoodIn wsX2_changeClass (wsV RX2 187 RX1 yX1_putAtEnd wsX1_putAtEnd) := goodIn_app (goodIn_of _ (by decide +kernel)) ggX2_changeClass_X1_putAtEnd
theorem dX2_changeClass_0 : decode cX2_changeClass 0 = .ok (.aload_n 2, 1) := by decide +kernel
theorem dX2_changeClass_1 : decode cX2_changeClass 1 = .ok (.getfield 52, 3) := by decide +kernel
theorem dX2_changeClass_4 : decode cX2_changeClass 4 = .ok (.ifCond .le 26, 3) := by decide +kernel
theorem dX2_changeClass_7 : decode cX2_changeClass 7 = .ok (.aload_n 0, 1) := by decide +kernel
theorem dX2_changeClass_8 : decode cX2_changeClass 8 = .ok (.getfield 17, 3) := by decide +kernel
theorem dX2_changeClass_11 : decode cX2_changeClass 11 = .ok (.aload_n 2, 1) := by decide +kernel
theorem dX2_changeClass_12 : decode cX2_changeClass 12 = .ok (.getfield 45, 3) := by decide +kernel
theorem dX2_changeClass_15 : decode cX2_changeClass 15 = .ok (.aaload, 1) := by decide +kernel
theorem dX2_changeClass_16 : decode cX2_changeClass 16 = .ok (.iload_n 1, 1) := by decide +kernel
theorem dX2_changeClass_17 : decode cX2_changeClass 17 = .ok (.invokevirtual 193, 3) := by decide +kernel
theorem dX2_changeClass_20 : decode cX2_changeClass 20 = .ok (.aload_n 0, 1) := by decide +kernel
theorem dX2_changeClass_21 : decode cX2_changeClass 21 = .ok (.getfield 17, 3) := by decide +kernel
theorem dX2_changeClass_24 : decode cX2_changeClass 24 = .ok (.iload_n 3, 1) := by decide +kernel
theorem dX2_changeClass_25 : decode cX2_changeClass 25 = .ok (.aaload, 1) := by decide +kernel
theorem dX2_changeClass_26 : decode cX2_changeClass 26 = .ok (.iload_n 1, 1) := by decide +kernel
theorem dX2_changeClass_27 : decode cX2_changeClass 27 = .ok (.invokevirtual 187, 3) := by decide +kernel
theorem dX2_changeClass_30 : decode cX2_changeClass 30 = .ok (.aload_n 2, 1) := by decide +kernel
theorem dX2_changeClass_31 : decode cX2_changeClass 31 = .ok (.iconst 0, 1) := by decide +kernel
theorem dX2_changeClass_32 : decode cX2_changeClass 32 = .ok (.putfield 121, 3) := by decide +kernel
theorem dX2_changeClass_35 : decode cX2_changeClass 35 = .ok (.aload_n 2, 1) := by decide +kernel
theorem dX2_changeClass_36 : decode cX2_changeClass 36 = .ok (.iload_n 3, 1) := by decide +kernel
theorem dX2_changeClass_37 : decode cX2_changeClass 37 = .ok (.putfield 45, 3) := by decide +kernel
theorem dX2_changeClass_40 : decode cX2_changeClass 40 = .ok (.return_, 1) := by decide +kernel
theorem dX2_firstRingWithQueues_0 : decode cX2_firstRingWithQueues 0 = .ok (.aload_n 0, 1) := by decide +kernel
theorem dX2_firstRingWithQueues_1 : decode cX2_firstRingWithQueues 1 = .ok (.getfield 17, 3) := by decide +kernel
theorem dX2_firstRingWithQueues_4 : decode cX2_firstRingWithQueues 4 = .ok (.astore_n 1, 1) := by decide +kernel
theorem dX2_firstRingWithQueues_5 : decode cX2_firstRingWithQueues 5 = .ok (.aload_n 1, 1) := by decide +kernel
theorem dX2_firstRingWithQueues_6 : decode cX2_firstRingWithQueues 6 = .ok (.arraylength, 1) := by decide +kernel
theorem dX2_firstRingWithQueues_7 : decode cX2_firstRingWithQueues 7 = .ok (.istore_n 2, 1) := by decide +kernel
theorem dX2_firstRingWithQueues_8 : decode cX2_firstRingWithQueues 8 = .ok (.iconst 0, 1) := by decide +kernel
theorem dX2_firstRingWithQueues_9 : decode cX2_firstRingWithQueues 9 = .ok (.istore_n 3, 1) := by decide +kernel
theorem dX2_firstRingWithQueues_10 : decode cX2_firstRingWithQueues 10 = .ok (.iload_n 3, 1) := by decide +kernel
theorem dX2_firstRingWithQueues_11 : decode cX2_firstRingWithQueues 11 = .ok (.iload_n 2, 1) := by decide +kernel
theorem dX2_firstRingWithQueues_12 : decode cX2_firstRingWithQueues 12 = .ok (.if_icmp .ge 25, 3) := by decide +kernel
theorem dX2_firstRingWithQueues_15 : decode cX2_firstRingWithQueues 15 = .ok (.aload_n 1, 1) := by decide +kernel
theorem dX2_firstRingWithQueues_16 : decode cX2_firstRingWithQueues 16 = .ok (.iload_n 3, 1) := by decide +kernel
theorem dX2_firstRingWithQueues_17 : decode cX2_firstRingWithQueues 17 = .ok (.aaload, 1) := by decide +kernel
theorem dX2_firstRingWithQueues_18 : decode cX2_firstRingWithQueues 18 = .ok (.astore 4, 2) := by decide +kernel
theorem dX2_firstRingWithQueues_20 : decode cX2_firstRingWithQueues 20 = .ok (.aload 4, 2) := by decide +kernel
theorem dX2_firstRingWithQueues_22 : decode cX2_firstRingWithQueues 22 = .ok (.getfield 196, 3) := by decide +kernel
theorem dX2_firstRingWithQueues_25 : decode cX2_firstRingWithQueues 25 = .ok (.ifCond .le 6, 3) := by decide +kernel
theorem dX2_firstRingWithQueues_28 : decode cX2_firstRingWithQueues 28 = .ok (.aload 4, 2) := by decide +kernel
theorem dX2_firstRingWithQueues_30 : decode cX2_firstRingWithQueues 30 = .ok (.areturn, 1) := by decide +kernel
theorem dX2_firstRingWithQueues_31 : decode cX2_firstRingWithQueues 31 = .ok (.iinc 3 1, 3) := by decide +kernel
theorem dX2_firstRingWithQueues_34 : decode cX2_firstRingWithQueues 34 = .ok (.goto (-24), 3) := by decide +kernel
theorem dX2_firstRingWithQueues_37 : decode cX2_firstRingWithQueues 37 = .ok (.aconst_null, 1) := by decide +kernel
theorem dX2_firstRingWithQueues_38 : decode cX2_firstRingWithQueues 38 = .ok (.areturn, 1) := by decide +kernel
set_option maxRecDepth 20000 in
theorem ggX2_placeServedNext_X1_queueAt : GoodIn wsX2_placeServedNext wsX1_queueAt := goodIn_r _ [6, 7, 29, 30] (by decide +kernel) (by decide +kernel)
set_option maxRecDepth 20000 in
theorem gX2_placeServedNext_X1_queueAt : GoodIn wsX2_placeServedNext (wsV RX2 87 RX1 yX1_queueAt wsX1_queueAt) := goodIn_app (goodIn_of _ (by decide +kernel)) ggX2_placeServedNext_X1_queueAt
set_option maxRecDepth 20000 in
theorem ggX2_placeServedNext_X0_looksInVain : GoodIn wsX2_placeServedNext wsX0_looksInVain := goodIn_r _ [12, 13, 14, 15, 16, 17, 18, 11, 19, 20, 21, 31, 32, 33, 34, 35, 36, 37, 38, 39, 40, 41, 42, 43, 44, 45] (by decide +kernel) (by decide +kernel)
set_option maxRecDepth 20000 in
theorem gX2_placeServedNext_X0_looksInVain : GoodIn wsX2_placeServedNext (wsV RX2 199 RX0 yX0_looksInVain wsX0_looksInVain) := goodIn_app (goodIn_of _ (by decide +kernel)) ggX2_placeServedNext_X0_looksInVain
theorem dX2_placeServedNext_0 : decode cX2_placeServedNext 0 = .ok (.iconst 0, 1) := by decide +kernel
theorem dX2_placeServedNext_1 : decode cX2_placeServedNext 1 = .ok (.istore_n 2, 1) := by decide +kernel
theorem dX2_placeServedNext_2 : decode cX2_placeServedNext 2 = .ok (.aload_n 0, 1) := by decide +kernel
theorem dX2_placeServedNext_3 : decode cX2_placeServedNext 3 = .ok (.getfield 11, 3) := by decide +kernel
theorem dX2_placeServedNext_6 : decode cX2_placeServedNext 6 = .ok (.aload_n 1, 1) := by decide +kernel
theorem dX2_placeServedNext_7 : decode cX2_placeServedNext 7 = .ok (.iconst 0, 1) := by decide +kernel
theorem dX2_placeServedNext_8 : decode cX2_placeServedNext 8 = .ok (.invokevirtual 87, 3) := by decide +kernel
theorem dX2_placeServedNext_11 : decode cX2_placeServedNext 11 = .ok (.aaload, 1) := by decide +kernel
theorem dX2_placeServedNext_12 : decode cX2_placeServedNext 12 = .ok (.invokevirtual 199, 3) := by decide +kernel
theorem dX2_placeServedNext_15 : decode cX2_placeServedNext 15 = .ok (.istore_n 3, 1) := by decide +kernel
theorem dX2_placeServedNext_16 : decode cX2_placeServedNext 16 = .ok (.iconst 1, 1) := by decide +kernel
theorem dX2_placeServedNext_17 : decode cX2_placeServedNext 17 = .ok (.istore 4, 2) := by decide +kernel
theorem dX2_placeServedNext_19 : decode cX2_placeServedNext 19 = .ok (.iload 4, 2) := by decide +kernel
theorem dX2_placeServedNext_21 : decode cX2_placeServedNext 21 = .ok (.aload_n 1, 1) := by decide +kernel
theorem dX2_placeServedNext_22 : decode cX2_placeServedNext 22 = .ok (.getfield 196, 3) := by decide +kernel
theorem dX2_placeServedNext_25 : decode cX2_placeServedNext 25 = .ok (.if_icmp .ge 37, 3) := by decide +kernel
theorem dX2_placeServedNext_28 : decode cX2_placeServedNext 28 = .ok (.aload_n 0, 1) := by decide +kernel
theorem dX2_placeServedNext_29 : decode cX2_placeServedNext 29 = .ok (.getfield 11, 3) := by decide +kernel
theorem dX2_placeServedNext_32 : decode cX2_placeServedNext 32 = .ok (.aload_n 1, 1) := by decide +kernel
theorem dX2_placeServedNext_33 : decode cX2_placeServedNext 33 = .ok (.iload 4, 2) := by decide +kernel
theorem dX2_placeServedNext_35 : decode cX2_placeServedNext 35 = .ok (.invokevirtual 87, 3) := by decide +kernel
theorem dX2_placeServedNext_38 : decode cX2_placeServedNext 38 = .ok (.aaload, 1) := by decide +kernel
theorem dX2_placeServedNext_39 : decode cX2_placeServedNext 39 = .ok (.invokevirtual 199, 3) := by decide +kernel
theorem dX2_placeServedNext_42 : decode cX2_placeServedNext 42 = .ok (.istore 5, 2) := by decide +kernel
theorem dX2_placeServedNext_44 : decode cX2_placeServedNext 44 = .ok (.iload 5, 2) := by decide +kernel
theorem dX2_placeServedNext_46 : decode cX2_placeServedNext 46 = .ok (.iload_n 3, 1) := by decide +kernel
theorem dX2_placeServedNext_47 : decode cX2_placeServedNext 47 = .ok (.if_icmp .ge 9, 3) := by decide +kernel
theorem dX2_placeServedNext_50 : decode cX2_placeServedNext 50 = .ok (.iload 5, 2) := by decide +kernel
theorem dX2_placeServedNext_52 : decode cX2_placeServedNext 52 = .ok (.istore_n 3, 1) := by decide +kernel
theorem dX2_placeServedNext_53 : decode cX2_placeServedNext 53 = .ok (.iload 4, 2) := by decide +kernel
theorem dX2_placeServedNext_55 : decode cX2_placeServedNext 55 = .ok (.istore_n 2, 1) := by decide +kernel
theorem dX2_placeServedNext_56 : decode cX2_placeServedNext 56 = .ok (.iinc 4 1, 3) := by decide +kernel
theorem dX2_placeServedNext_59 : decode cX2_placeServedNext 59 = .ok (.goto (-40), 3) := by decide +kernel
theorem dX2_placeServedNext_62 : decode cX2_placeServedNext 62 = .ok (.iload_n 2, 1) := by decide +kernel
theorem dX2_placeServedNext_63 : decode cX2_placeServedNext 63 = .ok (.ireturn, 1) := by decide +kernel
set_option maxRecDepth 20000 in
theorem ggX2_bringToFront_X1_queueAt : GoodIn wsX2_bringToFront wsX1_queueAt := goodIn_r _ [6, 7, 54, 55] (by decide +kernel) (by decide +kernel)
set_option maxRecDepth 20000 in
theorem gX2_bringToFront_X1_queueAt : GoodIn wsX2_bringToFront (wsV RX2 87 RX1 yX1_queueAt wsX1_queueAt) := goodIn_app (goodIn_of _ (by decide +kernel)) ggX2_bringToFront_X1_queueAt
set_option maxRecDepth 20000 in
theorem ggX2_bringToFront_X0_looksInVain : GoodIn wsX2_bringToFront wsX0_looksInVain := goodIn_r _ [12, 13, 14, 15, 16, 17, 18, 11, 19, 20, 21, 56, 57, 58, 59, 60, 61, 62, 63, 64, 65, 66, 67, 68, 69, 70] (by decide +kernel) (by decide +kernel)
set_option maxRecDepth 20000 in
theorem gX2_bringToFront_X0_looksInVain : GoodIn wsX2_bringToFront (wsV RX2 199 RX0 yX0_looksInVain wsX0_looksInVain) := goodIn_app (goodIn_of _ (by decide +kernel)) ggX2_bringToFront_X0_looksInVain
set_option maxRecDepth 20000 in
theorem ggX2_bringToFront_X0_lookInVain : GoodIn wsX2_bringToFront wsX0_lookInVain := goodIn_r _ [25, 13, 14, 15, 56, 57, 58, 59, 60, 61, 62, 63, 64, 65, 66, 67, 68, 69, 70] (by decide +kernel) (by decide +kernel)
set_option maxRecDepth 20000 in
theorem gX2_bringToFront_X0_lookInVain : GoodIn wsX2_bringToFront (wsV RX2 202 RX0 yX0_lookInVain wsX0_lookInVain) := goodIn_app (goodIn_of _ (by decide +kernel)) ggX2_bringToFront_X0_lookInVain
set_option maxRecDepth 20000 in
theorem ggX2_bringToFront_X1_turnBy : GoodIn wsX2_bringToFront wsX1_turnBy := goodIn_r _ [29, 7, 30, 31, 32, 5, 33, 34, 35, 36, 37, 38, 39, 40, 41, 42, 43, 44, 45, 46, 54, 55] (by decide +kernel) (by decide +kernel)
set_option maxRecDepth 20000 in
theorem gX2_bringToFront_X1_turnBy : GoodIn wsX2_bringToFront (wsV RX2 205 RX1 yX1_turnBy wsX1_turnBy) := goodIn_app (goodIn_of _ (by decide +kernel)) ggX2_bringToFront_X1_turnBy
theorem dX2_bringToFront_0 : decode cX2_bringToFront 0 = .ok (.aload_n 0, 1) := by decide +kernel
theorem dX2_bringToFront_1 : decode cX2_bringToFront 1 = .ok (.getfield 11, 3) := by decide +kernel
theorem dX2_bringToFront_4 : decode cX2_bringToFront 4 = .ok (.aload_n 1, 1) := by decide +kernel
theorem dX2_bringToFront_5 : decode cX2_bringToFront 5 = .ok (.iload_n 2, 1) := by decide +kernel
theorem dX2_bringToFront_6 : decode cX2_bringToFront 6 = .ok (.invokevirtual 87, 3) := by decide +kernel
theorem dX2_bringToFront_9 : decode cX2_bringToFront 9 = .ok (.aaload, 1) := by decide +kernel
theorem dX2_bringToFront_10 : decode cX2_bringToFront 10 = .ok (.invokevirtual 199, 3) := by decide +kernel
theorem dX2_bringToFront_13 : decode cX2_bringToFront 13 = .ok (.istore_n 3, 1) := by decide +kernel
theorem dX2_bringToFront_14 : decode cX2_bringToFront 14 = .ok (.iconst 0, 1) := by decide +kernel
theorem dX2_bringToFront_15 : decode cX2_bringToFront 15 = .ok (.istore 4, 2) := by decide +kernel
theorem dX2_bringToFront_17 : decode cX2_bringToFront 17 = .ok (.iload 4, 2) := by decide +kernel
theorem dX2_bringToFront_19 : decode cX2_bringToFront 19 = .ok (.aload_n 1, 1) := by decide +kernel
theorem dX2_bringToFront_20 : decode cX2_bringToFront 20 = .ok (.getfield 196, 3) := by decide +kernel
theorem dX2_bringToFront_23 : decode cX2_bringToFront 23 = .ok (.if_icmp .ge 36, 3) := by decide +kernel
theorem dX2_bringToFront_26 : decode cX2_bringToFront 26 = .ok (.aload_n 0, 1) := by decide +kernel
theorem dX2_bringToFront_27 : decode cX2_bringToFront 27 = .ok (.getfield 11, 3) := by decide +kernel
theorem dX2_bringToFront_30 : decode cX2_bringToFront 30 = .ok (.aload_n 1, 1) := by decide +kernel
theorem dX2_bringToFront_31 : decode cX2_bringToFront 31 = .ok (.iload 4, 2) := by decide +kernel
theorem dX2_bringToFront_33 : decode cX2_bringToFront 33 = .ok (.invokevirtual 87, 3) := by decide +kernel
theorem dX2_bringToFront_36 : decode cX2_bringToFront 36 = .ok (.aaload, 1) := by decide +kernel
theorem dX2_bringToFront_37 : decode cX2_bringToFront 37 = .ok (.iload 4, 2) := by decide +kernel
theorem dX2_bringToFront_39 : decode cX2_bringToFront 39 = .ok (.iload_n 2, 1) := by decide +kernel
theorem dX2_bringToFront_40 : decode cX2_bringToFront 40 = .ok (.if_icmp .ge 9, 3) := by decide +kernel
theorem dX2_bringToFront_43 : decode cX2_bringToFront 43 = .ok (.iload_n 3, 1) := by decide +kernel
theorem dX2_bringToFront_44 : decode cX2_bringToFront 44 = .ok (.iconst 1, 1) := by decide +kernel
theorem dX2_bringToFront_45 : decode cX2_bringToFront 45 = .ok (.iadd, 1) := by decide +kernel
theorem dX2_bringToFront_46 : decode cX2_bringToFront 46 = .ok (.goto 4, 3) := by decide +kernel
theorem dX2_bringToFront_49 : decode cX2_bringToFront 49 = .ok (.iload_n 3, 1) := by decide +kernel
theorem dX2_bringToFront_50 : decode cX2_bringToFront 50 = .ok (.invokevirtual 202, 3) := by decide +kernel
theorem dX2_bringToFront_53 : decode cX2_bringToFront 53 = .ok (.iinc 4 1, 3) := by decide +kernel
theorem dX2_bringToFront_56 : decode cX2_bringToFront 56 = .ok (.goto (-39), 3) := by decide +kernel
theorem dX2_bringToFront_59 : decode cX2_bringToFront 59 = .ok (.aload_n 1, 1) := by decide +kernel
theorem dX2_bringToFront_60 : decode cX2_bringToFront 60 = .ok (.iload_n 2, 1) := by decide +kernel
theorem dX2_bringToFront_61 : decode cX2_bringToFront 61 = .ok (.invokevirtual 205, 3) := by decide +kernel
theorem dX2_bringToFront_64 : decode cX2_bringToFront 64 = .ok (.return_, 1) := by decide +kernel
set_option maxRecDepth 20000 in
theorem ggX2_serveFirstItem_X0_takeTurn : GoodIn wsX2_serveFirstItem wsX0_takeTurn := goodIn_r _ [8, 9, 10, 11, 66, 67, 68, 69, 70, 71, 72, 73, 74, 75, 76, 77, 78, 79, 80] (by decide +kernel) (by decide +kernel)
set_option maxRecDepth 20000 in
theorem gX2_serveFirstItem_X0_takeTurn : GoodIn wsX2_serveFirstItem (wsV RX2 208 RX0 yX0_takeTurn wsX0_takeTurn) := goodIn_app (goodIn_of _ (by decide +kernel)) ggX2_serveFirstItem_X0_takeTurn
set_option maxRecDepth 20000 in
theorem ggX2_serveFirstItem_X0_firstCost : GoodIn wsX2_serveFirstItem wsX0_firstCost := goodIn_r _ [15, 16, 17, 66, 67, 68, 69, 70, 71, 72, 73, 74, 75, 76, 77, 78, 79, 80] (by decide +kernel) (by decide +kernel)
set_option maxRecDepth 20000 in
theorem gX2_serveFirstItem_X0_firstCost : GoodIn wsX2_serveFirstItem (wsV RX2 105 RX0 yX0_firstCost wsX0_firstCost) := goodIn_app (goodIn_of _ (by decide +kernel)) ggX2_serveFirstItem_X0_firstCost
set_option maxRecDepth 20000 in
theorem ggX2_serveFirstItem_X0_wordAt : GoodIn wsX2_serveFirstItem wsX0_wordAt := goodIn_r _ [21, 22, 23, 24, 25, 7, 26, 17, 27, 28, 29, 30, 66, 67, 68, 69, 70, 71, 72, 73, 74, 75, 76, 77, 78, 79, 80] (by decide +kernel) (by decide +kernel)
set_option maxRecDepth 20000 in
theorem gX2_serveFirstItem_X0_wordAt : GoodIn wsX2_serveFirstItem (wsV RX2 155 RX0 yX0_wordAt wsX0_wordAt) := goodIn_app (goodIn_of _ (by decide +kernel)) ggX2_serveFirstItem_X0_wordAt
set_option maxRecDepth 20000 in
theorem ggX2_serveFirstItem_X0_dropFirst : GoodIn wsX2_serveFirstItem wsX0_dropFirst := goodIn_r _ [34, 35, 17, 36, 37, 13, 14, 7, 15, 16, 23, 24, 25, 26, 27, 28, 29, 30, 66, 67, 68, 69, 70, 71, 72, 73, 74, 75, 76, 77, 78, 79, 80] (by decide +kernel) (by decide +kernel)
set_option maxRecDepth 20000 in
theorem gX2_serveFirstItem_X0_dropFirst : GoodIn wsX2_serveFirstItem (wsV RX2 211 RX0 yX0_dropFirst wsX0_dropFirst) := goodIn_app (goodIn_of _ (by decide +kernel)) ggX2_serveFirstItem_X0_dropFirst
set_option maxRecDepth 20000 in
theorem ggX2_serveFirstItem_X2_leaveRing : GoodIn wsX2_serveFirstItem wsX2_leaveRing := goodIn_r _ [42, 43, 44, 45, 46, 47, 48, 49, 50, 51, 52, 53, 54, 55, 56, 57, 58, 59, 60, 61, 62, 63, 64, 65, 66, 67, 68, 69, 70, 71, 72, 73, 74, 75, 76, 77, 78, 79, 80, 81, 82] (by decide +kernel) (by decide +kernel)
set_option maxRecDepth 20000 in
theorem gX2_serveFirstItem_X2_leaveRing : GoodIn wsX2_serveFirstItem (wsV RX2 114 RX2 yX2_leaveRing wsX2_leaveRing) := goodIn_app (goodIn_of _ (by decide +kernel)) ggX2_serveFirstItem_X2_leaveRing
theorem dX2_serveFirstItem_0 : decode cX2_serveFirstItem 0 = .ok (.aload_n 0, 1) := by decide +kernel
theorem dX2_serveFirstItem_1 : decode cX2_serveFirstItem 1 = .ok (.getfield 11, 3) := by decide +kernel
theorem dX2_serveFirstItem_4 : decode cX2_serveFirstItem 4 = .ok (.iload_n 1, 1) := by decide +kernel
theorem dX2_serveFirstItem_5 : decode cX2_serveFirstItem 5 = .ok (.aaload, 1) := by decide +kernel
theorem dX2_serveFirstItem_6 : decode cX2_serveFirstItem 6 = .ok (.astore_n 2, 1) := by decide +kernel
theorem dX2_serveFirstItem_7 : decode cX2_serveFirstItem 7 = .ok (.aload_n 2, 1) := by decide +kernel
theorem dX2_serveFirstItem_8 : decode cX2_serveFirstItem 8 = .ok (.invokevirtual 208, 3) := by decide +kernel
theorem dX2_serveFirstItem_11 : decode cX2_serveFirstItem 11 = .ok (.aload_n 2, 1) := by decide +kernel
theorem dX2_serveFirstItem_12 : decode cX2_serveFirstItem 12 = .ok (.invokevirtual 105, 3) := by decide +kernel
theorem dX2_serveFirstItem_15 : decode cX2_serveFirstItem 15 = .ok (.istore_n 3, 1) := by decide +kernel
theorem dX2_serveFirstItem_16 : decode cX2_serveFirstItem 16 = .ok (.aload_n 0, 1) := by decide +kernel
theorem dX2_serveFirstItem_17 : decode cX2_serveFirstItem 17 = .ok (.aload_n 2, 1) := by decide +kernel
theorem dX2_serveFirstItem_18 : decode cX2_serveFirstItem 18 = .ok (.iconst 0, 1) := by decide +kernel
theorem dX2_serveFirstItem_19 : decode cX2_serveFirstItem 19 = .ok (.invokevirtual 155, 3) := by decide +kernel
theorem dX2_serveFirstItem_22 : decode cX2_serveFirstItem 22 = .ok (.putfield 98, 3) := by decide +kernel
theorem dX2_serveFirstItem_25 : decode cX2_serveFirstItem 25 = .ok (.aload_n 2, 1) := by decide +kernel
theorem dX2_serveFirstItem_26 : decode cX2_serveFirstItem 26 = .ok (.dup, 1) := by decide +kernel
theorem dX2_serveFirstItem_27 : decode cX2_serveFirstItem 27 = .ok (.getfield 118, 3) := by decide +kernel
theorem dX2_serveFirstItem_30 : decode cX2_serveFirstItem 30 = .ok (.iload_n 3, 1) := by decide +kernel
theorem dX2_serveFirstItem_31 : decode cX2_serveFirstItem 31 = .ok (.isub, 1) := by decide +kernel
theorem dX2_serveFirstItem_32 : decode cX2_serveFirstItem 32 = .ok (.putfield 118, 3) := by decide +kernel
theorem dX2_serveFirstItem_35 : decode cX2_serveFirstItem 35 = .ok (.aload_n 2, 1) := by decide +kernel
theorem dX2_serveFirstItem_36 : decode cX2_serveFirstItem 36 = .ok (.dup, 1) := by decide +kernel
theorem dX2_serveFirstItem_37 : decode cX2_serveFirstItem 37 = .ok (.getfield 137, 3) := by decide +kernel
theorem dX2_serveFirstItem_40 : decode cX2_serveFirstItem 40 = .ok (.iload_n 3, 1) := by decide +kernel
theorem dX2_serveFirstItem_41 : decode cX2_serveFirstItem 41 = .ok (.iadd, 1) := by decide +kernel
theorem dX2_serveFirstItem_42 : decode cX2_serveFirstItem 42 = .ok (.putfield 137, 3) := by decide +kernel
theorem dX2_serveFirstItem_45 : decode cX2_serveFirstItem 45 = .ok (.aload_n 2, 1) := by decide +kernel
theorem dX2_serveFirstItem_46 : decode cX2_serveFirstItem 46 = .ok (.dup, 1) := by decide +kernel
theorem dX2_serveFirstItem_47 : decode cX2_serveFirstItem 47 = .ok (.getfield 134, 3) := by decide +kernel
theorem dX2_serveFirstItem_50 : decode cX2_serveFirstItem 50 = .ok (.iconst 1, 1) := by decide +kernel
theorem dX2_serveFirstItem_51 : decode cX2_serveFirstItem 51 = .ok (.iadd, 1) := by decide +kernel
theorem dX2_serveFirstItem_52 : decode cX2_serveFirstItem 52 = .ok (.putfield 134, 3) := by decide +kernel
theorem dX2_serveFirstItem_55 : decode cX2_serveFirstItem 55 = .ok (.aload_n 0, 1) := by decide +kernel
theorem dX2_serveFirstItem_56 : decode cX2_serveFirstItem 56 = .ok (.dup, 1) := by decide +kernel
theorem dX2_serveFirstItem_57 : decode cX2_serveFirstItem 57 = .ok (.getfield 167, 3) := by decide +kernel
theorem dX2_serveFirstItem_60 : decode cX2_serveFirstItem 60 = .ok (.iconst 1, 1) := by decide +kernel
theorem dX2_serveFirstItem_61 : decode cX2_serveFirstItem 61 = .ok (.iadd, 1) := by decide +kernel
theorem dX2_serveFirstItem_62 : decode cX2_serveFirstItem 62 = .ok (.putfield 167, 3) := by decide +kernel
theorem dX2_serveFirstItem_65 : decode cX2_serveFirstItem 65 = .ok (.aload_n 2, 1) := by decide +kernel
theorem dX2_serveFirstItem_66 : decode cX2_serveFirstItem 66 = .ok (.invokevirtual 211, 3) := by decide +kernel
theorem dX2_serveFirstItem_69 : decode cX2_serveFirstItem 69 = .ok (.aload_n 2, 1) := by decide +kernel
theorem dX2_serveFirstItem_70 : decode cX2_serveFirstItem 70 = .ok (.getfield 52, 3) := by decide +kernel
theorem dX2_serveFirstItem_73 : decode cX2_serveFirstItem 73 = .ok (.ifCond .ne 9, 3) := by decide +kernel
theorem dX2_serveFirstItem_76 : decode cX2_serveFirstItem 76 = .ok (.aload_n 0, 1) := by decide +kernel
theorem dX2_serveFirstItem_77 : decode cX2_serveFirstItem 77 = .ok (.iload_n 1, 1) := by decide +kernel
theorem dX2_serveFirstItem_78 : decode cX2_serveFirstItem 78 = .ok (.aload_n 2, 1) := by decide +kernel
theorem dX2_serveFirstItem_79 : decode cX2_serveFirstItem 79 = .ok (.invokevirtual 114, 3) := by decide +kernel
theorem dX2_serveFirstItem_82 : decode cX2_serveFirstItem 82 = .ok (.return_, 1) := by decide +kernel
theorem dX3_init_0 : decode cX3_init 0 = .ok (.aload_n 0, 1) := by decide +kernel
theorem dX3_init_1 : decode cX3_init 1 = .ok (.invokespecial 1, 3) := by decide +kernel
theorem dX3_init_4 : decode cX3_init 4 = .ok (.aload_n 0, 1) := by decide +kernel
theorem dX3_init_5 : decode cX3_init 5 = .ok (.bipush 12, 2) := by decide +kernel
theorem dX3_init_7 : decode cX3_init 7 = .ok (.newarray .int, 2) := by decide +kernel
theorem dX3_init_9 : decode cX3_init 9 = .ok (.putfield 7, 3) := by decide +kernel
theorem dX3_init_12 : decode cX3_init 12 = .ok (.aload_n 0, 1) := by decide +kernel
theorem dX3_init_13 : decode cX3_init 13 = .ok (.bipush 12, 2) := by decide +kernel
theorem dX3_init_15 : decode cX3_init 15 = .ok (.newarray .int, 2) := by decide +kernel
theorem dX3_init_17 : decode cX3_init 17 = .ok (.putfield 13, 3) := by decide +kernel
theorem dX3_init_20 : decode cX3_init 20 = .ok (.aload_n 0, 1) := by decide +kernel
theorem dX3_init_21 : decode cX3_init 21 = .ok (.bipush 12, 2) := by decide +kernel
theorem dX3_init_23 : decode cX3_init 23 = .ok (.newarray .int, 2) := by decide +kernel
theorem dX3_init_25 : decode cX3_init 25 = .ok (.putfield 16, 3) := by decide +kernel
theorem dX3_init_28 : decode cX3_init 28 = .ok (.aload_n 0, 1) := by decide +kernel
theorem dX3_init_29 : decode cX3_init 29 = .ok (.bipush 12, 2) := by decide +kernel
theorem dX3_init_31 : decode cX3_init 31 = .ok (.newarray .int, 2) := by decide +kernel
theorem dX3_init_33 : decode cX3_init 33 = .ok (.putfield 19, 3) := by decide +kernel
theorem dX3_init_36 : decode cX3_init 36 = .ok (.aload_n 0, 1) := by decide +kernel
theorem dX3_init_37 : decode cX3_init 37 = .ok (.bipush 12, 2) := by decide +kernel
theorem dX3_init_39 : decode cX3_init 39 = .ok (.newarray .int, 2) := by decide +kernel
theorem dX3_init_41 : decode cX3_init 41 = .ok (.putfield 22, 3) := by decide +kernel
theorem dX3_init_44 : decode cX3_init 44 = .ok (.aload_n 0, 1) := by decide +kernel
theorem dX3_init_45 : decode cX3_init 45 = .ok (.bipush 12, 2) := by decide +kernel
theorem dX3_init_47 : decode cX3_init 47 = .ok (.newarray .int, 2) := by decide +kernel
theorem dX3_init_49 : decode cX3_init 49 = .ok (.putfield 25, 3) := by decide +kernel
theorem dX3_init_52 : decode cX3_init 52 = .ok (.aload_n 0, 1) := by decide +kernel
theorem dX3_init_53 : decode cX3_init 53 = .ok (.bipush 12, 2) := by decide +kernel
theorem dX3_init_55 : decode cX3_init 55 = .ok (.newarray .boolean, 2) := by decide +kernel
theorem dX3_init_57 : decode cX3_init 57 = .ok (.putfield 28, 3) := by decide +kernel
theorem dX3_init_60 : decode cX3_init 60 = .ok (.aload_n 0, 1) := by decide +kernel
theorem dX3_init_61 : decode cX3_init 61 = .ok (.sipush 1152, 3) := by decide +kernel
theorem dX3_init_64 : decode cX3_init 64 = .ok (.newarray .int, 2) := by decide +kernel
theorem dX3_init_66 : decode cX3_init 66 = .ok (.putfield 32, 3) := by decide +kernel
theorem dX3_init_69 : decode cX3_init 69 = .ok (.aload_n 0, 1) := by decide +kernel
theorem dX3_init_70 : decode cX3_init 70 = .ok (.sipush 1152, 3) := by decide +kernel
theorem dX3_init_73 : decode cX3_init 73 = .ok (.newarray .int, 2) := by decide +kernel
theorem dX3_init_75 : decode cX3_init 75 = .ok (.putfield 35, 3) := by decide +kernel
theorem dX3_init_78 : decode cX3_init 78 = .ok (.aload_n 0, 1) := by decide +kernel
theorem dX3_init_79 : decode cX3_init 79 = .ok (.bipush 12, 2) := by decide +kernel
theorem dX3_init_81 : decode cX3_init 81 = .ok (.newarray .int, 2) := by decide +kernel
theorem dX3_init_83 : decode cX3_init 83 = .ok (.putfield 38, 3) := by decide +kernel
theorem dX3_init_86 : decode cX3_init 86 = .ok (.aload_n 0, 1) := by decide +kernel
theorem dX3_init_87 : decode cX3_init 87 = .ok (.bipush 12, 2) := by decide +kernel
theorem dX3_init_89 : decode cX3_init 89 = .ok (.newarray .int, 2) := by decide +kernel
theorem dX3_init_91 : decode cX3_init 91 = .ok (.putfield 41, 3) := by decide +kernel
theorem dX3_init_94 : decode cX3_init 94 = .ok (.aload_n 0, 1) := by decide +kernel
theorem dX3_init_95 : decode cX3_init 95 = .ok (.bipush 12, 2) := by decide +kernel
theorem dX3_init_97 : decode cX3_init 97 = .ok (.newarray .int, 2) := by decide +kernel
theorem dX3_init_99 : decode cX3_init 99 = .ok (.putfield 44, 3) := by decide +kernel
theorem dX3_init_102 : decode cX3_init 102 = .ok (.aload_n 0, 1) := by decide +kernel
theorem dX3_init_103 : decode cX3_init 103 = .ok (.bipush 12, 2) := by decide +kernel
theorem dX3_init_105 : decode cX3_init 105 = .ok (.newarray .int, 2) := by decide +kernel
theorem dX3_init_107 : decode cX3_init 107 = .ok (.putfield 47, 3) := by decide +kernel
theorem dX3_init_110 : decode cX3_init 110 = .ok (.aload_n 0, 1) := by decide +kernel
theorem dX3_init_111 : decode cX3_init 111 = .ok (.bipush 48, 2) := by decide +kernel
theorem dX3_init_113 : decode cX3_init 113 = .ok (.newarray .int, 2) := by decide +kernel
theorem dX3_init_115 : decode cX3_init 115 = .ok (.putfield 50, 3) := by decide +kernel
theorem dX3_init_118 : decode cX3_init 118 = .ok (.aload_n 0, 1) := by decide +kernel
theorem dX3_init_119 : decode cX3_init 119 = .ok (.iconst 4, 1) := by decide +kernel
theorem dX3_init_120 : decode cX3_init 120 = .ok (.newarray .int, 2) := by decide +kernel
theorem dX3_init_122 : decode cX3_init 122 = .ok (.putfield 53, 3) := by decide +kernel
theorem dX3_init_125 : decode cX3_init 125 = .ok (.aload_n 0, 1) := by decide +kernel
theorem dX3_init_126 : decode cX3_init 126 = .ok (.bipush 12, 2) := by decide +kernel
theorem dX3_init_128 : decode cX3_init 128 = .ok (.newarray .int, 2) := by decide +kernel
theorem dX3_init_130 : decode cX3_init 130 = .ok (.putfield 56, 3) := by decide +kernel
theorem dX3_init_133 : decode cX3_init 133 = .ok (.aload_n 0, 1) := by decide +kernel
theorem dX3_init_134 : decode cX3_init 134 = .ok (.bipush 12, 2) := by decide +kernel
theorem dX3_init_136 : decode cX3_init 136 = .ok (.newarray .boolean, 2) := by decide +kernel
theorem dX3_init_138 : decode cX3_init 138 = .ok (.putfield 59, 3) := by decide +kernel
theorem dX3_init_141 : decode cX3_init 141 = .ok (.aload_n 0, 1) := by decide +kernel
theorem dX3_init_142 : decode cX3_init 142 = .ok (.bipush 48, 2) := by decide +kernel
theorem dX3_init_144 : decode cX3_init 144 = .ok (.newarray .int, 2) := by decide +kernel
theorem dX3_init_146 : decode cX3_init 146 = .ok (.putfield 62, 3) := by decide +kernel
theorem dX3_init_149 : decode cX3_init 149 = .ok (.iconst 0, 1) := by decide +kernel
theorem dX3_init_150 : decode cX3_init 150 = .ok (.istore_n 1, 1) := by decide +kernel
theorem dX3_init_151 : decode cX3_init 151 = .ok (.iload_n 1, 1) := by decide +kernel
theorem dX3_init_152 : decode cX3_init 152 = .ok (.bipush 12, 2) := by decide +kernel
theorem dX3_init_154 : decode cX3_init 154 = .ok (.if_icmp .ge 24, 3) := by decide +kernel
theorem dX3_init_157 : decode cX3_init 157 = .ok (.aload_n 0, 1) := by decide +kernel
theorem dX3_init_158 : decode cX3_init 158 = .ok (.getfield 13, 3) := by decide +kernel
theorem dX3_init_161 : decode cX3_init 161 = .ok (.iload_n 1, 1) := by decide +kernel
theorem dX3_init_162 : decode cX3_init 162 = .ok (.iconst 1, 1) := by decide +kernel
theorem dX3_init_163 : decode cX3_init 163 = .ok (.iastore, 1) := by decide +kernel
theorem dX3_init_164 : decode cX3_init 164 = .ok (.aload_n 0, 1) := by decide +kernel
theorem dX3_init_165 : decode cX3_init 165 = .ok (.getfield 16, 3) := by decide +kernel
theorem dX3_init_168 : decode cX3_init 168 = .ok (.iload_n 1, 1) := by decide +kernel
theorem dX3_init_169 : decode cX3_init 169 = .ok (.bipush 96, 2) := by decide +kernel
theorem dX3_init_171 : decode cX3_init 171 = .ok (.iastore, 1) := by decide +kernel
theorem dX3_init_172 : decode cX3_init 172 = .ok (.iinc 1 1, 3) := by decide +kernel
theorem dX3_init_175 : decode cX3_init 175 = .ok (.goto (-24), 3) := by decide +kernel
theorem dX3_init_178 : decode cX3_init 178 = .ok (.return_, 1) := by decide +kernel
theorem dX3_thrown_0 : decode cX3_thrown 0 = .ok (.aload_n 0, 1) := by decide +kernel
theorem dX3_thrown_1 : decode cX3_thrown 1 = .ok (.getfield 65, 3) := by decide +kernel
theorem dX3_thrown_4 : decode cX3_thrown 4 = .ok (.ireturn, 1) := by decide +kernel
theorem dX3_noQueue_0 : decode cX3_noQueue 0 = .ok (.iload_n 0, 1) := by decide +kernel
theorem dX3_noQueue_1 : decode cX3_noQueue 1 = .ok (.ifCond .lt 9, 3) := by decide +kernel
theorem dX3_noQueue_4 : decode cX3_noQueue 4 = .ok (.iload_n 0, 1) := by decide +kernel
theorem dX3_noQueue_5 : decode cX3_noQueue 5 = .ok (.bipush 12, 2) := by decide +kernel
theorem dX3_noQueue_7 : decode cX3_noQueue 7 = .ok (.if_icmp .lt 7, 3) := by decide +kernel
theorem dX3_noQueue_10 : decode cX3_noQueue 10 = .ok (.iconst 1, 1) := by decide +kernel
theorem dX3_noQueue_11 : decode cX3_noQueue 11 = .ok (.goto 4, 3) := by decide +kernel
theorem dX3_noQueue_14 : decode cX3_noQueue 14 = .ok (.iconst 0, 1) := by decide +kernel
theorem dX3_noQueue_15 : decode cX3_noQueue 15 = .ok (.ireturn, 1) := by decide +kernel
theorem dX3_keptInAll_0 : decode cX3_keptInAll 0 = .ok (.iconst 0, 1) := by decide +kernel
theorem dX3_keptInAll_1 : decode cX3_keptInAll 1 = .ok (.istore_n 1, 1) := by decide +kernel
theorem dX3_keptInAll_2 : decode cX3_keptInAll 2 = .ok (.iconst 0, 1) := by decide +kernel
theorem dX3_keptInAll_3 : decode cX3_keptInAll 3 = .ok (.istore_n 2, 1) := by decide +kernel
theorem dX3_keptInAll_4 : decode cX3_keptInAll 4 = .ok (.iload_n 2, 1) := by decide +kernel
theorem dX3_keptInAll_5 : decode cX3_keptInAll 5 = .ok (.bipush 12, 2) := by decide +kernel
theorem dX3_keptInAll_7 : decode cX3_keptInAll 7 = .ok (.if_icmp .ge 18, 3) := by decide +kernel
theorem dX3_keptInAll_10 : decode cX3_keptInAll 10 = .ok (.iload_n 1, 1) := by decide +kernel
theorem dX3_keptInAll_11 : decode cX3_keptInAll 11 = .ok (.aload_n 0, 1) := by decide +kernel
theorem dX3_keptInAll_12 : decode cX3_keptInAll 12 = .ok (.getfield 19, 3) := by decide +kernel
theorem dX3_keptInAll_15 : decode cX3_keptInAll 15 = .ok (.iload_n 2, 1) := by decide +kernel
theorem dX3_keptInAll_16 : decode cX3_keptInAll 16 = .ok (.iaload, 1) := by decide +kernel
theorem dX3_keptInAll_17 : decode cX3_keptInAll 17 = .ok (.iadd, 1) := by decide +kernel
theorem dX3_keptInAll_18 : decode cX3_keptInAll 18 = .ok (.istore_n 1, 1) := by decide +kernel
theorem dX3_keptInAll_19 : decode cX3_keptInAll 19 = .ok (.iinc 2 1, 3) := by decide +kernel
theorem dX3_keptInAll_22 : decode cX3_keptInAll 22 = .ok (.goto (-18), 3) := by decide +kernel
theorem dX3_keptInAll_25 : decode cX3_keptInAll 25 = .ok (.iload_n 1, 1) := by decide +kernel
theorem dX3_keptInAll_26 : decode cX3_keptInAll 26 = .ok (.ireturn, 1) := by decide +kernel
set_option maxRecDepth 20000 in
theorem ggX3_quota_X3_noQueue : GoodIn wsX3_quota wsX3_noQueue := goodIn_r _ [7] (by decide +kernel) (by decide +kernel)
set_option maxRecDepth 20000 in
theorem gX3_quota_X3_noQueue : GoodIn wsX3_quota (va_wsS RX3 69 yX3_noQueue wsX3_noQueue) := goodIn_app (goodIn_of _ (by decide +kernel)) ggX3_quota_X3_noQueue
set_option maxRecDepth 20000 in
theorem ggX3_quota_X3_keptInAll : GoodIn wsX3_quota wsX3_keptInAll := goodIn_r _ [11, 2, 12, 13, 14, 15, 16, 17, 18, 19, 20, 21, 22, 23, 24, 25, 26, 27, 28, 29, 30, 31, 32, 33] (by decide +kernel) (by decide +kernel)
set_option maxRecDepth 20000 in
theorem gX3_quota_X3_keptInAll : GoodIn wsX3_quota (wsV RX3 73 RX3 yX3_keptInAll wsX3_keptInAll) := goodIn_app (goodIn_of _ (by decide +kernel)) ggX3_quota_X3_keptInAll
theorem dX3_quota_0 : decode cX3_quota 0 = .ok (.aload_n 0, 1) := by decide +kernel
theorem dX3_quota_1 : decode cX3_quota 1 = .ok (.iload_n 1, 1) := by decide +kernel
theorem dX3_quota_2 : decode cX3_quota 2 = .ok (.invokestatic 69, 3) := by decide +kernel
theorem dX3_quota_5 : decode cX3_quota 5 = .ok (.ifCond .ne 23, 3) := by decide +kernel
theorem dX3_quota_8 : decode cX3_quota 8 = .ok (.iload_n 2, 1) := by decide +kernel
theorem dX3_quota_9 : decode cX3_quota 9 = .ok (.ifCond .lt 19, 3) := by decide +kernel
theorem dX3_quota_12 : decode cX3_quota 12 = .ok (.iload_n 2, 1) := by decide +kernel
theorem dX3_quota_13 : decode cX3_quota 13 = .ok (.bipush 96, 2) := by decide +kernel
theorem dX3_quota_15 : decode cX3_quota 15 = .ok (.if_icmp .gt 13, 3) := by decide +kernel
theorem dX3_quota_18 : decode cX3_quota 18 = .ok (.iload_n 3, 1) := by decide +kernel
theorem dX3_quota_19 : decode cX3_quota 19 = .ok (.ifCond .lt 9, 3) := by decide +kernel
theorem dX3_quota_22 : decode cX3_quota 22 = .ok (.iload_n 3, 1) := by decide +kernel
theorem dX3_quota_23 : decode cX3_quota 23 = .ok (.bipush 96, 2) := by decide +kernel
theorem dX3_quota_25 : decode cX3_quota 25 = .ok (.if_icmp .le 7, 3) := by decide +kernel
theorem dX3_quota_28 : decode cX3_quota 28 = .ok (.iconst 1, 1) := by decide +kernel
theorem dX3_quota_29 : decode cX3_quota 29 = .ok (.goto 4, 3) := by decide +kernel
theorem dX3_quota_32 : decode cX3_quota 32 = .ok (.iconst 0, 1) := by decide +kernel
theorem dX3_quota_33 : decode cX3_quota 33 = .ok (.putfield 65, 3) := by decide +kernel
theorem dX3_quota_36 : decode cX3_quota 36 = .ok (.aload_n 0, 1) := by decide +kernel
theorem dX3_quota_37 : decode cX3_quota 37 = .ok (.getfield 65, 3) := by decide +kernel
theorem dX3_quota_40 : decode cX3_quota 40 = .ok (.ifCond .gt 21, 3) := by decide +kernel
theorem dX3_quota_43 : decode cX3_quota 43 = .ok (.aload_n 0, 1) := by decide +kernel
theorem dX3_quota_44 : decode cX3_quota 44 = .ok (.invokevirtual 73, 3) := by decide +kernel
theorem dX3_quota_47 : decode cX3_quota 47 = .ok (.aload_n 0, 1) := by decide +kernel
theorem dX3_quota_48 : decode cX3_quota 48 = .ok (.getfield 19, 3) := by decide +kernel
theorem dX3_quota_51 : decode cX3_quota 51 = .ok (.iload_n 1, 1) := by decide +kernel
theorem dX3_quota_52 : decode cX3_quota 52 = .ok (.iaload, 1) := by decide +kernel
theorem dX3_quota_53 : decode cX3_quota 53 = .ok (.isub, 1) := by decide +kernel
theorem dX3_quota_54 : decode cX3_quota 54 = .ok (.iload_n 3, 1) := by decide +kernel
theorem dX3_quota_55 : decode cX3_quota 55 = .ok (.iadd, 1) := by decide +kernel
theorem dX3_quota_56 : decode cX3_quota 56 = .ok (.bipush 96, 2) := by decide +kernel
theorem dX3_quota_58 : decode cX3_quota 58 = .ok (.if_icmp .le 10, 3) := by decide +kernel
theorem dX3_quota_61 : decode cX3_quota 61 = .ok (.aload_n 0, 1) := by decide +kernel
theorem dX3_quota_62 : decode cX3_quota 62 = .ok (.iconst 1, 1) := by decide +kernel
theorem dX3_quota_63 : decode cX3_quota 63 = .ok (.putfield 65, 3) := by decide +kernel
theorem dX3_quota_66 : decode cX3_quota 66 = .ok (.iconst 0, 1) := by decide +kernel
theorem dX3_quota_67 : decode cX3_quota 67 = .ok (.ireturn, 1) := by decide +kernel
theorem dX3_quota_68 : decode cX3_quota 68 = .ok (.aload_n 0, 1) := by decide +kernel
theorem dX3_quota_69 : decode cX3_quota 69 = .ok (.getfield 16, 3) := by decide +kernel
theorem dX3_quota_72 : decode cX3_quota 72 = .ok (.iload_n 1, 1) := by decide +kernel
theorem dX3_quota_73 : decode cX3_quota 73 = .ok (.iload_n 2, 1) := by decide +kernel
theorem dX3_quota_74 : decode cX3_quota 74 = .ok (.iastore, 1) := by decide +kernel
theorem dX3_quota_75 : decode cX3_quota 75 = .ok (.aload_n 0, 1) := by decide +kernel
theorem dX3_quota_76 : decode cX3_quota 76 = .ok (.getfield 19, 3) := by decide +kernel
theorem dX3_quota_79 : decode cX3_quota 79 = .ok (.iload_n 1, 1) := by decide +kernel
theorem dX3_quota_80 : decode cX3_quota 80 = .ok (.iload_n 3, 1) := by decide +kernel
theorem dX3_quota_81 : decode cX3_quota 81 = .ok (.iastore, 1) := by decide +kernel
theorem dX3_quota_82 : decode cX3_quota 82 = .ok (.aload_n 0, 1) := by decide +kernel
theorem dX3_quota_83 : decode cX3_quota 83 = .ok (.invokevirtual 73, 3) := by decide +kernel
theorem dX3_quota_86 : decode cX3_quota 86 = .ok (.ireturn, 1) := by decide +kernel
theorem dX3_placeOf_0 : decode cX3_placeOf 0 = .ok (.aload_n 0, 1) := by decide +kernel
theorem dX3_placeOf_1 : decode cX3_placeOf 1 = .ok (.getfield 7, 3) := by decide +kernel
theorem dX3_placeOf_4 : decode cX3_placeOf 4 = .ok (.iload_n 1, 1) := by decide +kernel
theorem dX3_placeOf_5 : decode cX3_placeOf 5 = .ok (.iaload, 1) := by decide +kernel
theorem dX3_placeOf_6 : decode cX3_placeOf 6 = .ok (.istore_n 2, 1) := by decide +kernel
theorem dX3_placeOf_7 : decode cX3_placeOf 7 = .ok (.iconst 0, 1) := by decide +kernel
theorem dX3_placeOf_8 : decode cX3_placeOf 8 = .ok (.istore_n 3, 1) := by decide +kernel
theorem dX3_placeOf_9 : decode cX3_placeOf 9 = .ok (.iload_n 3, 1) := by decide +kernel
theorem dX3_placeOf_10 : decode cX3_placeOf 10 = .ok (.aload_n 0, 1) := by decide +kernel
theorem dX3_placeOf_11 : decode cX3_placeOf 11 = .ok (.getfield 53, 3) := by decide +kernel
theorem dX3_placeOf_14 : decode cX3_placeOf 14 = .ok (.iload_n 2, 1) := by decide +kernel
theorem dX3_placeOf_15 : decode cX3_placeOf 15 = .ok (.iaload, 1) := by decide +kernel
theorem dX3_placeOf_16 : decode cX3_placeOf 16 = .ok (.if_icmp .ge 26, 3) := by decide +kernel
theorem dX3_placeOf_19 : decode cX3_placeOf 19 = .ok (.aload_n 0, 1) := by decide +kernel
theorem dX3_placeOf_20 : decode cX3_placeOf 20 = .ok (.getfield 50, 3) := by decide +kernel
theorem dX3_placeOf_23 : decode cX3_placeOf 23 = .ok (.bipush 12, 2) := by decide +kernel
theorem dX3_placeOf_25 : decode cX3_placeOf 25 = .ok (.iload_n 2, 1) := by decide +kernel
theorem dX3_placeOf_26 : decode cX3_placeOf 26 = .ok (.imul, 1) := by decide +kernel
theorem dX3_placeOf_27 : decode cX3_placeOf 27 = .ok (.iload_n 3, 1) := by decide +kernel
theorem dX3_placeOf_28 : decode cX3_placeOf 28 = .ok (.iadd, 1) := by decide +kernel
theorem dX3_placeOf_29 : decode cX3_placeOf 29 = .ok (.iaload, 1) := by decide +kernel
theorem dX3_placeOf_30 : decode cX3_placeOf 30 = .ok (.iload_n 1, 1) := by decide +kernel
theorem dX3_placeOf_31 : decode cX3_placeOf 31 = .ok (.if_icmp .ne 5, 3) := by decide +kernel
theorem dX3_placeOf_34 : decode cX3_placeOf 34 = .ok (.iload_n 3, 1) := by decide +kernel
theorem dX3_placeOf_35 : decode cX3_placeOf 35 = .ok (.ireturn, 1) := by decide +kernel
theorem dX3_placeOf_36 : decode cX3_placeOf 36 = .ok (.iinc 3 1, 3) := by decide +kernel
theorem dX3_placeOf_39 : decode cX3_placeOf 39 = .ok (.goto (-30), 3) := by decide +kernel
theorem dX3_placeOf_42 : decode cX3_placeOf 42 = .ok (.iconst (-1), 1) := by decide +kernel
theorem dX3_placeOf_43 : decode cX3_placeOf 43 = .ok (.ireturn, 1) := by decide +kernel
theorem dX3_enter_0 : decode cX3_enter 0 = .ok (.aload_n 0, 1) := by decide +kernel
theorem dX3_enter_1 : decode cX3_enter 1 = .ok (.getfield 7, 3) := by decide +kernel
theorem dX3_enter_4 : decode cX3_enter 4 = .ok (.iload_n 1, 1) := by decide +kernel
theorem dX3_enter_5 : decode cX3_enter 5 = .ok (.iaload, 1) := by decide +kernel
theorem dX3_enter_6 : decode cX3_enter 6 = .ok (.istore_n 2, 1) := by decide +kernel
theorem dX3_enter_7 : decode cX3_enter 7 = .ok (.aload_n 0, 1) := by decide +kernel
theorem dX3_enter_8 : decode cX3_enter 8 = .ok (.getfield 50, 3) := by decide +kernel
theorem dX3_enter_11 : decode cX3_enter 11 = .ok (.bipush 12, 2) := by decide +kernel
theorem dX3_enter_13 : decode cX3_enter 13 = .ok (.iload_n 2, 1) := by decide +kernel
theorem dX3_enter_14 : decode cX3_enter 14 = .ok (.imul, 1) := by decide +kernel
theorem dX3_enter_15 : decode cX3_enter 15 = .ok (.aload_n 0, 1) := by decide +kernel
theorem dX3_enter_16 : decode cX3_enter 16 = .ok (.getfield 53, 3) := by decide +kernel
theorem dX3_enter_19 : decode cX3_enter 19 = .ok (.iload_n 2, 1) := by decide +kernel
theorem dX3_enter_20 : decode cX3_enter 20 = .ok (.iaload, 1) := by decide +kernel
theorem dX3_enter_21 : decode cX3_enter 21 = .ok (.iadd, 1) := by decide +kernel
theorem dX3_enter_22 : decode cX3_enter 22 = .ok (.iload_n 1, 1) := by decide +kernel
theorem dX3_enter_23 : decode cX3_enter 23 = .ok (.iastore, 1) := by decide +kernel
theorem dX3_enter_24 : decode cX3_enter 24 = .ok (.aload_n 0, 1) := by decide +kernel
theorem dX3_enter_25 : decode cX3_enter 25 = .ok (.getfield 53, 3) := by decide +kernel
theorem dX3_enter_28 : decode cX3_enter 28 = .ok (.iload_n 2, 1) := by decide +kernel
theorem dX3_enter_29 : decode cX3_enter 29 = .ok (.dup2, 1) := by decide +kernel
theorem dX3_enter_30 : decode cX3_enter 30 = .ok (.iaload, 1) := by decide +kernel
theorem dX3_enter_31 : decode cX3_enter 31 = .ok (.iconst 1, 1) := by decide +kernel
theorem dX3_enter_32 : decode cX3_enter 32 = .ok (.iadd, 1) := by decide +kernel
theorem dX3_enter_33 : decode cX3_enter 33 = .ok (.iastore, 1) := by decide +kernel
theorem dX3_enter_34 : decode cX3_enter 34 = .ok (.aload_n 0, 1) := by decide +kernel
theorem dX3_enter_35 : decode cX3_enter 35 = .ok (.getfield 28, 3) := by decide +kernel
theorem dX3_enter_38 : decode cX3_enter 38 = .ok (.iload_n 1, 1) := by decide +kernel
theorem dX3_enter_39 : decode cX3_enter 39 = .ok (.iconst 0, 1) := by decide +kernel
theorem dX3_enter_40 : decode cX3_enter 40 = .ok (.bastore, 1) := by decide +kernel
theorem dX3_enter_41 : decode cX3_enter 41 = .ok (.return_, 1) := by decide +kernel
set_option maxRecDepth 20000 in
theorem ggX3_leave_X3_placeOf : GoodIn wsX3_leave wsX3_placeOf := goodIn_r _ [9, 1, 2, 3, 10, 11, 12, 13, 14, 15, 16, 17, 18, 19, 20, 21, 22, 23, 24, 25, 26, 27, 28, 29, 30, 31] (by decide +kernel) (by decide +kernel)
set_option maxRecDepth 20000 in
theorem gX3_leave_X3_placeOf : GoodIn wsX3_leave (wsV RX3 77 RX3 yX3_placeOf wsX3_placeOf) := goodIn_app (goodIn_of _ (by decide +kernel)) ggX3_leave_X3_placeOf
theorem dX3_leave_0 : decode cX3_leave 0 = .ok (.aload_n 0, 1) := by decide +kernel
theorem dX3_leave_1 : decode cX3_leave 1 = .ok (.getfield 7, 3) := by decide +kernel
theorem dX3_leave_4 : decode cX3_leave 4 = .ok (.iload_n 1, 1) := by decide +kernel
theorem dX3_leave_5 : decode cX3_leave 5 = .ok (.iaload, 1) := by decide +kernel
theorem dX3_leave_6 : decode cX3_leave 6 = .ok (.istore_n 2, 1) := by decide +kernel
theorem dX3_leave_7 : decode cX3_leave 7 = .ok (.aload_n 0, 1) := by decide +kernel
theorem dX3_leave_8 : decode cX3_leave 8 = .ok (.iload_n 1, 1) := by decide +kernel
theorem dX3_leave_9 : decode cX3_leave 9 = .ok (.invokevirtual 77, 3) := by decide +kernel
theorem dX3_leave_12 : decode cX3_leave 12 = .ok (.istore_n 3, 1) := by decide +kernel
theorem dX3_leave_13 : decode cX3_leave 13 = .ok (.iload_n 3, 1) := by decide +kernel
theorem dX3_leave_14 : decode cX3_leave 14 = .ok (.ifCond .lt 59, 3) := by decide +kernel
theorem dX3_leave_17 : decode cX3_leave 17 = .ok (.aload_n 0, 1) := by decide +kernel
theorem dX3_leave_18 : decode cX3_leave 18 = .ok (.getfield 53, 3) := by decide +kernel
theorem dX3_leave_21 : decode cX3_leave 21 = .ok (.iload_n 2, 1) := by decide +kernel
theorem dX3_leave_22 : decode cX3_leave 22 = .ok (.dup2, 1) := by decide +kernel
theorem dX3_leave_23 : decode cX3_leave 23 = .ok (.iaload, 1) := by decide +kernel
theorem dX3_leave_24 : decode cX3_leave 24 = .ok (.iconst 1, 1) := by decide +kernel
theorem dX3_leave_25 : decode cX3_leave 25 = .ok (.isub, 1) := by decide +kernel
theorem dX3_leave_26 : decode cX3_leave 26 = .ok (.iastore, 1) := by decide +kernel
theorem dX3_leave_27 : decode cX3_leave 27 = .ok (.iload_n 3, 1) := by decide +kernel
theorem dX3_leave_28 : decode cX3_leave 28 = .ok (.istore 4, 2) := by decide +kernel
theorem dX3_leave_30 : decode cX3_leave 30 = .ok (.iload 4, 2) := by decide +kernel
theorem dX3_leave_32 : decode cX3_leave 32 = .ok (.aload_n 0, 1) := by decide +kernel
theorem dX3_leave_33 : decode cX3_leave 33 = .ok (.getfield 53, 3) := by decide +kernel
theorem dX3_leave_36 : decode cX3_leave 36 = .ok (.iload_n 2, 1) := by decide +kernel
theorem dX3_leave_37 : decode cX3_leave 37 = .ok (.iaload, 1) := by decide +kernel
theorem dX3_leave_38 : decode cX3_leave 38 = .ok (.if_icmp .ge 35, 3) := by decide +kernel
theorem dX3_leave_41 : decode cX3_leave 41 = .ok (.aload_n 0, 1) := by decide +kernel
theorem dX3_leave_42 : decode cX3_leave 42 = .ok (.getfield 50, 3) := by decide +kernel
theorem dX3_leave_45 : decode cX3_leave 45 = .ok (.bipush 12, 2) := by decide +kernel
theorem dX3_leave_47 : decode cX3_leave 47 = .ok (.iload_n 2, 1) := by decide +kernel
theorem dX3_leave_48 : decode cX3_leave 48 = .ok (.imul, 1) := by decide +kernel
theorem dX3_leave_49 : decode cX3_leave 49 = .ok (.iload 4, 2) := by decide +kernel
theorem dX3_leave_51 : decode cX3_leave 51 = .ok (.iadd, 1) := by decide +kernel
theorem dX3_leave_52 : decode cX3_leave 52 = .ok (.aload_n 0, 1) := by decide +kernel
theorem dX3_leave_53 : decode cX3_leave 53 = .ok (.getfield 50, 3) := by decide +kernel
theorem dX3_leave_56 : decode cX3_leave 56 = .ok (.bipush 12, 2) := by decide +kernel
theorem dX3_leave_58 : decode cX3_leave 58 = .ok (.iload_n 2, 1) := by decide +kernel
theorem dX3_leave_59 : decode cX3_leave 59 = .ok (.imul, 1) := by decide +kernel
theorem dX3_leave_60 : decode cX3_leave 60 = .ok (.iload 4, 2) := by decide +kernel
theorem dX3_leave_62 : decode cX3_leave 62 = .ok (.iadd, 1) := by decide +kernel
theorem dX3_leave_63 : decode cX3_leave 63 = .ok (.iconst 1, 1) := by decide +kernel
theorem dX3_leave_64 : decode cX3_leave 64 = .ok (.iadd, 1) := by decide +kernel
theorem dX3_leave_65 : decode cX3_leave 65 = .ok (.iaload, 1) := by decide +kernel
theorem dX3_leave_66 : decode cX3_leave 66 = .ok (.iastore, 1) := by decide +kernel
theorem dX3_leave_67 : decode cX3_leave 67 = .ok (.iinc 4 1, 3) := by decide +kernel
theorem dX3_leave_70 : decode cX3_leave 70 = .ok (.goto (-40), 3) := by decide +kernel
theorem dX3_leave_73 : decode cX3_leave 73 = .ok (.aload_n 0, 1) := by decide +kernel
theorem dX3_leave_74 : decode cX3_leave 74 = .ok (.getfield 28, 3) := by decide +kernel
theorem dX3_leave_77 : decode cX3_leave 77 = .ok (.iload_n 1, 1) := by decide +kernel
theorem dX3_leave_78 : decode cX3_leave 78 = .ok (.iconst 0, 1) := by decide +kernel
theorem dX3_leave_79 : decode cX3_leave 79 = .ok (.bastore, 1) := by decide +kernel
theorem dX3_leave_80 : decode cX3_leave 80 = .ok (.return_, 1) := by decide +kernel
set_option maxRecDepth 20000 in
theorem ggX3_kind_X3_noQueue : GoodIn wsX3_kind wsX3_noQueue := goodIn_r _ [8] (by decide +kernel) (by decide +kernel)
set_option maxRecDepth 20000 in
theorem gX3_kind_X3_noQueue : GoodIn wsX3_kind (va_wsS RX3 69 yX3_noQueue wsX3_noQueue) := goodIn_app (goodIn_of _ (by decide +kernel)) ggX3_kind_X3_noQueue
set_option maxRecDepth 20000 in
theorem ggX3_kind_X3_leave : GoodIn wsX3_kind wsX3_leave := goodIn_r _ [12, 3, 13, 14, 15, 16, 17, 18, 7, 19, 24, 25, 26, 27, 28, 29, 30, 31, 32, 33, 34, 35, 36, 37, 38, 39, 40, 41, 42, 43, 44, 45] (by decide +kernel) (by decide +kernel)
set_option maxRecDepth 20000 in
theorem gX3_kind_X3_leave : GoodIn wsX3_kind (wsV RX3 81 RX3 yX3_leave wsX3_leave) := goodIn_app (goodIn_of _ (by decide +kernel)) ggX3_kind_X3_leave
set_option maxRecDepth 20000 in
theorem ggX3_kind_X3_enter : GoodIn wsX3_kind wsX3_enter := goodIn_r _ [23, 3, 14, 13, 15, 24, 25, 26, 27, 28, 29, 30, 31, 32, 33, 34, 35, 36, 37, 38, 39, 40, 41, 42, 43, 44, 45] (by decide +kernel) (by decide +kernel)
set_option maxRecDepth 20000 in
theorem gX3_kind_X3_enter : GoodIn wsX3_kind (wsV RX3 85 RX3 yX3_enter wsX3_enter) := goodIn_app (goodIn_of _ (by decide +kernel)) ggX3_kind_X3_enter
theorem dX3_kind_0 : decode cX3_kind 0 = .ok (.aload_n 0, 1) := by decide +kernel
theorem dX3_kind_1 : decode cX3_kind 1 = .ok (.iload_n 1, 1) := by decide +kernel
theorem dX3_kind_2 : decode cX3_kind 2 = .ok (.invokestatic 69, 3) := by decide +kernel
theorem dX3_kind_5 : decode cX3_kind 5 = .ok (.ifCond .ne 24, 3) := by decide +kernel
theorem dX3_kind_8 : decode cX3_kind 8 = .ok (.iload_n 2, 1) := by decide +kernel
theorem dX3_kind_9 : decode cX3_kind 9 = .ok (.ifCond .lt 20, 3) := by decide +kernel
theorem dX3_kind_12 : decode cX3_kind 12 = .ok (.iload_n 2, 1) := by decide +kernel
theorem dX3_kind_13 : decode cX3_kind 13 = .ok (.iconst 3, 1) := by decide +kernel
theorem dX3_kind_14 : decode cX3_kind 14 = .ok (.if_icmp .gt 15, 3) := by decide +kernel
theorem dX3_kind_17 : decode cX3_kind 17 = .ok (.iload_n 3, 1) := by decide +kernel
theorem dX3_kind_18 : decode cX3_kind 18 = .ok (.iconst 1, 1) := by decide +kernel
theorem dX3_kind_19 : decode cX3_kind 19 = .ok (.if_icmp .lt 10, 3) := by decide +kernel
theorem dX3_kind_22 : decode cX3_kind 22 = .ok (.iload_n 3, 1) := by decide +kernel
theorem dX3_kind_23 : decode cX3_kind 23 = .ok (.sipush 1000, 3) := by decide +kernel
theorem dX3_kind_26 : decode cX3_kind 26 = .ok (.if_icmp .le 7, 3) := by decide +kernel
theorem dX3_kind_29 : decode cX3_kind 29 = .ok (.iconst 1, 1) := by decide +kernel
theorem dX3_kind_30 : decode cX3_kind 30 = .ok (.goto 4, 3) := by decide +kernel
theorem dX3_kind_33 : decode cX3_kind 33 = .ok (.iconst 0, 1) := by decide +kernel
theorem dX3_kind_34 : decode cX3_kind 34 = .ok (.putfield 65, 3) := by decide +kernel
theorem dX3_kind_37 : decode cX3_kind 37 = .ok (.aload_n 0, 1) := by decide +kernel
theorem dX3_kind_38 : decode cX3_kind 38 = .ok (.getfield 65, 3) := by decide +kernel
theorem dX3_kind_41 : decode cX3_kind 41 = .ok (.ifCond .le 4, 3) := by decide +kernel
theorem dX3_kind_44 : decode cX3_kind 44 = .ok (.return_, 1) := by decide +kernel
theorem dX3_kind_45 : decode cX3_kind 45 = .ok (.aload_n 0, 1) := by decide +kernel
theorem dX3_kind_46 : decode cX3_kind 46 = .ok (.getfield 13, 3) := by decide +kernel
theorem dX3_kind_49 : decode cX3_kind 49 = .ok (.iload_n 1, 1) := by decide +kernel
theorem dX3_kind_50 : decode cX3_kind 50 = .ok (.iload_n 3, 1) := by decide +kernel
theorem dX3_kind_51 : decode cX3_kind 51 = .ok (.iastore, 1) := by decide +kernel
theorem dX3_kind_52 : decode cX3_kind 52 = .ok (.iload_n 2, 1) := by decide +kernel
theorem dX3_kind_53 : decode cX3_kind 53 = .ok (.aload_n 0, 1) := by decide +kernel
theorem dX3_kind_54 : decode cX3_kind 54 = .ok (.getfield 7, 3) := by decide +kernel
theorem dX3_kind_57 : decode cX3_kind 57 = .ok (.iload_n 1, 1) := by decide +kernel
theorem dX3_kind_58 : decode cX3_kind 58 = .ok (.iaload, 1) := by decide +kernel
theorem dX3_kind_59 : decode cX3_kind 59 = .ok (.if_icmp .eq 29, 3) := by decide +kernel
theorem dX3_kind_62 : decode cX3_kind 62 = .ok (.aload_n 0, 1) := by decide +kernel
theorem dX3_kind_63 : decode cX3_kind 63 = .ok (.iload_n 1, 1) := by decide +kernel
theorem dX3_kind_64 : decode cX3_kind 64 = .ok (.invokevirtual 81, 3) := by decide +kernel
theorem dX3_kind_67 : decode cX3_kind 67 = .ok (.aload_n 0, 1) := by decide +kernel
theorem dX3_kind_68 : decode cX3_kind 68 = .ok (.getfield 7, 3) := by decide +kernel
theorem dX3_kind_71 : decode cX3_kind 71 = .ok (.iload_n 1, 1) := by decide +kernel
theorem dX3_kind_72 : decode cX3_kind 72 = .ok (.iload_n 2, 1) := by decide +kernel
theorem dX3_kind_73 : decode cX3_kind 73 = .ok (.iastore, 1) := by decide +kernel
theorem dX3_kind_74 : decode cX3_kind 74 = .ok (.aload_n 0, 1) := by decide +kernel
theorem dX3_kind_75 : decode cX3_kind 75 = .ok (.getfield 22, 3) := by decide +kernel
theorem dX3_kind_78 : decode cX3_kind 78 = .ok (.iload_n 1, 1) := by decide +kernel
theorem dX3_kind_79 : decode cX3_kind 79 = .ok (.iaload, 1) := by decide +kernel
theorem dX3_kind_80 : decode cX3_kind 80 = .ok (.ifCond .le 8, 3) := by decide +kernel
theorem dX3_kind_83 : decode cX3_kind 83 = .ok (.aload_n 0, 1) := by decide +kernel
theorem dX3_kind_84 : decode cX3_kind 84 = .ok (.iload_n 1, 1) := by decide +kernel
theorem dX3_kind_85 : decode cX3_kind 85 = .ok (.invokevirtual 85, 3) := by decide +kernel
theorem dX3_kind_88 : decode cX3_kind 88 = .ok (.return_, 1) := by decide +kernel
theorem dX3_free_0 : decode cX3_free 0 = .ok (.bipush 96, 2) := by decide +kernel
theorem dX3_free_2 : decode cX3_free 2 = .ok (.istore_n 1, 1) := by decide +kernel
theorem dX3_free_3 : decode cX3_free 3 = .ok (.iconst 0, 1) := by decide +kernel
theorem dX3_free_4 : decode cX3_free 4 = .ok (.istore_n 2, 1) := by decide +kernel
theorem dX3_free_5 : decode cX3_free 5 = .ok (.iload_n 2, 1) := by decide +kernel
theorem dX3_free_6 : decode cX3_free 6 = .ok (.bipush 12, 2) := by decide +kernel
theorem dX3_free_8 : decode cX3_free 8 = .ok (.if_icmp .ge 18, 3) := by decide +kernel
theorem dX3_free_11 : decode cX3_free 11 = .ok (.iload_n 1, 1) := by decide +kernel
theorem dX3_free_12 : decode cX3_free 12 = .ok (.aload_n 0, 1) := by decide +kernel
theorem dX3_free_13 : decode cX3_free 13 = .ok (.getfield 22, 3) := by decide +kernel
theorem dX3_free_16 : decode cX3_free 16 = .ok (.iload_n 2, 1) := by decide +kernel
theorem dX3_free_17 : decode cX3_free 17 = .ok (.iaload, 1) := by decide +kernel
theorem dX3_free_18 : decode cX3_free 18 = .ok (.isub, 1) := by decide +kernel
theorem dX3_free_19 : decode cX3_free 19 = .ok (.istore_n 1, 1) := by decide +kernel
theorem dX3_free_20 : decode cX3_free 20 = .ok (.iinc 2 1, 3) := by decide +kernel
theorem dX3_free_23 : decode cX3_free 23 = .ok (.goto (-18), 3) := by decide +kernel
theorem dX3_free_26 : decode cX3_free 26 = .ok (.iload_n 1, 1) := by decide +kernel
theorem dX3_free_27 : decode cX3_free 27 = .ok (.ireturn, 1) := by decide +kernel
theorem dX3_excess_0 : decode cX3_excess 0 = .ok (.aload_n 0, 1) := by decide +kernel
theorem dX3_excess_1 : decode cX3_excess 1 = .ok (.getfield 22, 3) := by decide +kernel
theorem dX3_excess_4 : decode cX3_excess 4 = .ok (.iload_n 1, 1) := by decide +kernel
theorem dX3_excess_5 : decode cX3_excess 5 = .ok (.iaload, 1) := by decide +kernel
theorem dX3_excess_6 : decode cX3_excess 6 = .ok (.aload_n 0, 1) := by decide +kernel
theorem dX3_excess_7 : decode cX3_excess 7 = .ok (.getfield 19, 3) := by decide +kernel
theorem dX3_excess_10 : decode cX3_excess 10 = .ok (.iload_n 1, 1) := by decide +kernel
theorem dX3_excess_11 : decode cX3_excess 11 = .ok (.iaload, 1) := by decide +kernel
theorem dX3_excess_12 : decode cX3_excess 12 = .ok (.isub, 1) := by decide +kernel
theorem dX3_excess_13 : decode cX3_excess 13 = .ok (.ireturn, 1) := by decide +kernel
set_option maxRecDepth 20000 in
theorem ggX3_open_X3_free : GoodIn wsX3_open wsX3_free := goodIn_r _ [5, 6, 12, 13, 14, 15, 16, 17, 18, 19, 20, 21, 22, 23, 24, 25, 26, 27, 28, 29, 30, 31, 32, 33] (by decide +kernel) (by decide +kernel)
set_option maxRecDepth 20000 in
theorem gX3_open_X3_free : GoodIn wsX3_open (wsV RX3 88 RX3 yX3_free wsX3_free) := goodIn_app (goodIn_of _ (by decide +kernel)) ggX3_open_X3_free
set_option maxRecDepth 20000 in
theorem ggX3_open_X3_excess : GoodIn wsX3_open wsX3_excess := goodIn_r _ [10, 6, 11, 12, 13, 14, 15, 16, 17, 18, 19, 20, 21, 22, 23, 24, 25, 26, 27, 28, 29, 30, 31, 32, 33] (by decide +kernel) (by decide +kernel)
set_option maxRecDepth 20000 in
theorem gX3_open_X3_excess : GoodIn wsX3_open (wsV RX3 91 RX3 yX3_excess wsX3_excess) := goodIn_app (goodIn_of _ (by decide +kernel)) ggX3_open_X3_excess
theorem dX3_open_0 : decode cX3_open 0 = .ok (.aload_n 0, 1) := by decide +kernel
theorem dX3_open_1 : decode cX3_open 1 = .ok (.invokevirtual 88, 3) := by decide +kernel
theorem dX3_open_4 : decode cX3_open 4 = .ok (.istore_n 1, 1) := by decide +kernel
theorem dX3_open_5 : decode cX3_open 5 = .ok (.iconst 0, 1) := by decide +kernel
theorem dX3_open_6 : decode cX3_open 6 = .ok (.istore_n 2, 1) := by decide +kernel
theorem dX3_open_7 : decode cX3_open 7 = .ok (.iload_n 2, 1) := by decide +kernel
theorem dX3_open_8 : decode cX3_open 8 = .ok (.bipush 12, 2) := by decide +kernel
theorem dX3_open_10 : decode cX3_open 10 = .ok (.if_icmp .ge 29, 3) := by decide +kernel
theorem dX3_open_13 : decode cX3_open 13 = .ok (.aload_n 0, 1) := by decide +kernel
theorem dX3_open_14 : decode cX3_open 14 = .ok (.iload_n 2, 1) := by decide +kernel
theorem dX3_open_15 : decode cX3_open 15 = .ok (.invokevirtual 91, 3) := by decide +kernel
theorem dX3_open_18 : decode cX3_open 18 = .ok (.ifCond .ge 13, 3) := by decide +kernel
theorem dX3_open_21 : decode cX3_open 21 = .ok (.iload_n 1, 1) := by decide +kernel
theorem dX3_open_22 : decode cX3_open 22 = .ok (.aload_n 0, 1) := by decide +kernel
theorem dX3_open_23 : decode cX3_open 23 = .ok (.iload_n 2, 1) := by decide +kernel
theorem dX3_open_24 : decode cX3_open 24 = .ok (.invokevirtual 91, 3) := by decide +kernel
theorem dX3_open_27 : decode cX3_open 27 = .ok (.iadd, 1) := by decide +kernel
theorem dX3_open_28 : decode cX3_open 28 = .ok (.goto 4, 3) := by decide +kernel
theorem dX3_open_31 : decode cX3_open 31 = .ok (.iload_n 1, 1) := by decide +kernel
theorem dX3_open_32 : decode cX3_open 32 = .ok (.istore_n 1, 1) := by decide +kernel
theorem dX3_open_33 : decode cX3_open 33 = .ok (.iinc 2 1, 3) := by decide +kernel
theorem dX3_open_36 : decode cX3_open 36 = .ok (.goto (-29), 3) := by decide +kernel
theorem dX3_open_39 : decode cX3_open 39 = .ok (.iload_n 1, 1) := by decide +kernel
theorem dX3_open_40 : decode cX3_open 40 = .ok (.ireturn, 1) := by decide +kernel
set_option maxRecDepth 20000 in
theorem ggX3_greediest_X3_excess : GoodIn wsX3_greediest wsX3_excess := goodIn_r _ [5, 6, 7, 8, 9, 10, 11, 12, 13, 14, 15, 16, 17, 18, 19, 20, 21, 22, 23, 24, 25, 26, 27, 28, 29] (by decide +kernel) (by decide +kernel)
set_option maxRecDepth 20000 in
theorem gX3_greediest_X3_excess : GoodIn wsX3_greediest (wsV RX3 91 RX3 yX3_excess wsX3_excess) := goodIn_app (goodIn_of _ (by decide +kernel)) ggX3_greediest_X3_excess
theorem dX3_greediest_0 : decode cX3_greediest 0 = .ok (.iconst 0, 1) := by decide +kernel
theorem dX3_greediest_1 : decode cX3_greediest 1 = .ok (.istore_n 1, 1) := by decide +kernel
theorem dX3_greediest_2 : decode cX3_greediest 2 = .ok (.iconst 1, 1) := by decide +kernel
theorem dX3_greediest_3 : decode cX3_greediest 3 = .ok (.istore_n 2, 1) := by decide +kernel
theorem dX3_greediest_4 : decode cX3_greediest 4 = .ok (.iload_n 2, 1) := by decide +kernel
theorem dX3_greediest_5 : decode cX3_greediest 5 = .ok (.bipush 12, 2) := by decide +kernel
theorem dX3_greediest_7 : decode cX3_greediest 7 = .ok (.if_icmp .ge 28, 3) := by decide +kernel
theorem dX3_greediest_10 : decode cX3_greediest 10 = .ok (.aload_n 0, 1) := by decide +kernel
theorem dX3_greediest_11 : decode cX3_greediest 11 = .ok (.iload_n 2, 1) := by decide +kernel
theorem dX3_greediest_12 : decode cX3_greediest 12 = .ok (.invokevirtual 91, 3) := by decide +kernel
theorem dX3_greediest_15 : decode cX3_greediest 15 = .ok (.aload_n 0, 1) := by decide +kernel
theorem dX3_greediest_16 : decode cX3_greediest 16 = .ok (.iload_n 1, 1) := by decide +kernel
theorem dX3_greediest_17 : decode cX3_greediest 17 = .ok (.invokevirtual 91, 3) := by decide +kernel
theorem dX3_greediest_20 : decode cX3_greediest 20 = .ok (.if_icmp .le 7, 3) := by decide +kernel
theorem dX3_greediest_23 : decode cX3_greediest 23 = .ok (.iload_n 2, 1) := by decide +kernel
theorem dX3_greediest_24 : decode cX3_greediest 24 = .ok (.goto 4, 3) := by decide +kernel
theorem dX3_greediest_27 : decode cX3_greediest 27 = .ok (.iload_n 1, 1) := by decide +kernel
theorem dX3_greediest_28 : decode cX3_greediest 28 = .ok (.istore_n 1, 1) := by decide +kernel
theorem dX3_greediest_29 : decode cX3_greediest 29 = .ok (.iinc 2 1, 3) := by decide +kernel
theorem dX3_greediest_32 : decode cX3_greediest 32 = .ok (.goto (-28), 3) := by decide +kernel
theorem dX3_greediest_35 : decode cX3_greediest 35 = .ok (.iload_n 1, 1) := by decide +kernel
theorem dX3_greediest_36 : decode cX3_greediest 36 = .ok (.ireturn, 1) := by decide +kernel
set_option maxRecDepth 20000 in
theorem ggX3_settle_X3_leave : GoodIn wsX3_settle wsX3_leave := goodIn_r _ [7, 8, 9, 10, 11, 12, 13, 14, 6, 15, 16, 17, 18, 19, 20, 21, 22, 23, 24, 25, 26, 27, 28, 29, 30, 31, 32, 33, 34, 35, 36, 37] (by decide +kernel) (by decide +kernel)
set_option maxRecDepth 20000 in
theorem gX3_settle_X3_leave : GoodIn wsX3_settle (wsV RX3 81 RX3 yX3_leave wsX3_leave) := goodIn_app (goodIn_of _ (by decide +kernel)) ggX3_settle_X3_leave
theorem dX3_settle_0 : decode cX3_settle 0 = .ok (.aload_n 0, 1) := by decide +kernel
theorem dX3_settle_1 : decode cX3_settle 1 = .ok (.getfield 22, 3) := by decide +kernel
theorem dX3_settle_4 : decode cX3_settle 4 = .ok (.iload_n 1, 1) := by decide +kernel
theorem dX3_settle_5 : decode cX3_settle 5 = .ok (.iaload, 1) := by decide +kernel
theorem dX3_settle_6 : decode cX3_settle 6 = .ok (.ifCond .ne 15, 3) := by decide +kernel
theorem dX3_settle_9 : decode cX3_settle 9 = .ok (.aload_n 0, 1) := by decide +kernel
theorem dX3_settle_10 : decode cX3_settle 10 = .ok (.iload_n 1, 1) := by decide +kernel
theorem dX3_settle_11 : decode cX3_settle 11 = .ok (.invokevirtual 81, 3) := by decide +kernel
theorem dX3_settle_14 : decode cX3_settle 14 = .ok (.aload_n 0, 1) := by decide +kernel
theorem dX3_settle_15 : decode cX3_settle 15 = .ok (.getfield 25, 3) := by decide +kernel
theorem dX3_settle_18 : decode cX3_settle 18 = .ok (.iload_n 1, 1) := by decide +kernel
theorem dX3_settle_19 : decode cX3_settle 19 = .ok (.iconst 0, 1) := by decide +kernel
theorem dX3_settle_20 : decode cX3_settle 20 = .ok (.iastore, 1) := by decide +kernel
theorem dX3_settle_21 : decode cX3_settle 21 = .ok (.return_, 1) := by decide +kernel
set_option maxRecDepth 20000 in
theorem ggX3_push_X3_noQueue : GoodIn wsX3_push wsX3_noQueue := goodIn_r _ [14] (by decide +kernel) (by decide +kernel)
set_option maxRecDepth 20000 in
theorem gX3_push_X3_noQueue : GoodIn wsX3_push (va_wsS RX3 69 yX3_noQueue wsX3_noQueue) := goodIn_app (goodIn_of _ (by decide +kernel)) ggX3_push_X3_noQueue
set_option maxRecDepth 20000 in
theorem ggX3_push_X3_free : GoodIn wsX3_push wsX3_free := goodIn_r _ [18, 2, 52, 53, 54, 55, 56, 57, 58, 59, 60, 61, 62, 63, 64, 65, 66, 67, 68, 69, 70, 71, 72, 73] (by decide +kernel) (by decide +kernel)
set_option maxRecDepth 20000 in
theorem gX3_push_X3_free : GoodIn wsX3_push (wsV RX3 88 RX3 yX3_free wsX3_free) := goodIn_app (goodIn_of _ (by decide +kernel)) ggX3_push_X3_free
set_option maxRecDepth 20000 in
theorem ggX3_push_X3_excess : GoodIn wsX3_push wsX3_excess := goodIn_r _ [22, 2, 23, 52, 53, 54, 55, 56, 57, 58, 59, 60, 61, 62, 63, 64, 65, 66, 67, 68, 69, 70, 71, 72, 73] (by decide +kernel) (by decide +kernel)
set_option maxRecDepth 20000 in
theorem gX3_push_X3_excess : GoodIn wsX3_push (wsV RX3 91 RX3 yX3_excess wsX3_excess) := goodIn_app (goodIn_of _ (by decide +kernel)) ggX3_push_X3_excess
set_option maxRecDepth 20000 in
theorem ggX3_push_X3_open : GoodIn wsX3_push wsX3_open := goodIn_r _ [27, 15, 16, 17, 13, 18, 2, 19, 20, 21, 22, 23, 52, 53, 54, 55, 56, 57, 58, 59, 60, 61, 62, 63, 64, 65, 66, 67, 68, 69, 70, 71, 72, 73] (by decide +kernel) (by decide +kernel)
set_option maxRecDepth 20000 in
theorem gX3_push_X3_open : GoodIn wsX3_push (wsV RX3 97 RX3 yX3_open wsX3_open) := goodIn_app (goodIn_of _ (by decide +kernel)) ggX3_push_X3_open
set_option maxRecDepth 20000 in
theorem ggX3_push_X3_greediest : GoodIn wsX3_push wsX3_greediest := goodIn_r _ [31, 19, 20, 21, 13, 22, 2, 23, 52, 53, 54, 55, 56, 57, 58, 59, 60, 61, 62, 63, 64, 65, 66, 67, 68, 69, 70, 71, 72, 73] (by decide +kernel) (by decide +kernel)
set_option maxRecDepth 20000 in
theorem gX3_push_X3_greediest : GoodIn wsX3_push (wsV RX3 100 RX3 yX3_greediest wsX3_greediest) := goodIn_app (goodIn_of _ (by decide +kernel)) ggX3_push_X3_greediest
set_option maxRecDepth 20000 in
theorem ggX3_push_X3_settle : GoodIn wsX3_push wsX3_settle := goodIn_r _ [35, 2, 10, 36, 37, 38, 13, 39, 40, 41, 42, 43, 44, 45, 46, 47, 52, 53, 54, 55, 56, 57, 58, 59, 60, 61, 62, 63, 64, 65, 66, 67, 68, 69, 70, 71, 72, 73] (by decide +kernel) (by decide +kernel)
set_option maxRecDepth 20000 in
theorem gX3_push_X3_settle : GoodIn wsX3_push (wsV RX3 106 RX3 yX3_settle wsX3_settle) := goodIn_app (goodIn_of _ (by decide +kernel)) ggX3_push_X3_settle
set_option maxRecDepth 20000 in
theorem ggX3_push_X3_enter : GoodIn wsX3_push wsX3_enter := goodIn_r _ [51, 40, 42, 41, 43, 52, 53, 54, 55, 56, 57, 58, 59, 60, 61, 62, 63, 64, 65, 66, 67, 68, 69, 70, 71, 72, 73] (by decide +kernel) (by decide +kernel)
set_option maxRecDepth 20000 in
theorem gX3_push_X3_enter : GoodIn wsX3_push (wsV RX3 85 RX3 yX3_enter wsX3_enter) := goodIn_app (goodIn_of _ (by decide +kernel)) ggX3_push_X3_enter
theorem dX3_push_0 : decode cX3_push 0 = .ok (.aload_n 0, 1) := by decide +kernel
theorem dX3_push_1 : decode cX3_push 1 = .ok (.iload_n 1, 1) := by decide +kernel
theorem dX3_push_2 : decode cX3_push 2 = .ok (.invokestatic 69, 3) := by decide +kernel
theorem dX3_push_5 : decode cX3_push 5 = .ok (.ifCond .ne 15, 3) := by decide +kernel
theorem dX3_push_8 : decode cX3_push 8 = .ok (.iload_n 3, 1) := by decide +kernel
theorem dX3_push_9 : decode cX3_push 9 = .ok (.iconst 1, 1) := by decide +kernel
theorem dX3_push_10 : decode cX3_push 10 = .ok (.if_icmp .lt 10, 3) := by decide +kernel
theorem dX3_push_13 : decode cX3_push 13 = .ok (.iload_n 3, 1) := by decide +kernel
theorem dX3_push_14 : decode cX3_push 14 = .ok (.sipush 2000, 3) := by decide +kernel
theorem dX3_push_17 : decode cX3_push 17 = .ok (.if_icmp .le 7, 3) := by decide +kernel
theorem dX3_push_20 : decode cX3_push 20 = .ok (.iconst 1, 1) := by decide +kernel
theorem dX3_push_21 : decode cX3_push 21 = .ok (.goto 4, 3) := by decide +kernel
theorem dX3_push_24 : decode cX3_push 24 = .ok (.iconst 0, 1) := by decide +kernel
theorem dX3_push_25 : decode cX3_push 25 = .ok (.putfield 65, 3) := by decide +kernel
theorem dX3_push_28 : decode cX3_push 28 = .ok (.aload_n 0, 1) := by decide +kernel
theorem dX3_push_29 : decode cX3_push 29 = .ok (.getfield 65, 3) := by decide +kernel
theorem dX3_push_32 : decode cX3_push 32 = .ok (.ifCond .le 5, 3) := by decide +kernel
theorem dX3_push_35 : decode cX3_push 35 = .ok (.iconst 0, 1) := by decide +kernel
theorem dX3_push_36 : decode cX3_push 36 = .ok (.ireturn, 1) := by decide +kernel
theorem dX3_push_37 : decode cX3_push 37 = .ok (.aload_n 0, 1) := by decide +kernel
theorem dX3_push_38 : decode cX3_push 38 = .ok (.getfield 22, 3) := by decide +kernel
theorem dX3_push_41 : decode cX3_push 41 = .ok (.iload_n 1, 1) := by decide +kernel
theorem dX3_push_42 : decode cX3_push 42 = .ok (.iaload, 1) := by decide +kernel
theorem dX3_push_43 : decode cX3_push 43 = .ok (.aload_n 0, 1) := by decide +kernel
theorem dX3_push_44 : decode cX3_push 44 = .ok (.getfield 16, 3) := by decide +kernel
theorem dX3_push_47 : decode cX3_push 47 = .ok (.iload_n 1, 1) := by decide +kernel
theorem dX3_push_48 : decode cX3_push 48 = .ok (.iaload, 1) := by decide +kernel
theorem dX3_push_49 : decode cX3_push 49 = .ok (.if_icmp .lt 16, 3) := by decide +kernel
theorem dX3_push_52 : decode cX3_push 52 = .ok (.aload_n 0, 1) := by decide +kernel
theorem dX3_push_53 : decode cX3_push 53 = .ok (.dup, 1) := by decide +kernel
theorem dX3_push_54 : decode cX3_push 54 = .ok (.getfield 94, 3) := by decide +kernel
theorem dX3_push_57 : decode cX3_push 57 = .ok (.iconst 1, 1) := by decide +kernel
theorem dX3_push_58 : decode cX3_push 58 = .ok (.iadd, 1) := by decide +kernel
theorem dX3_push_59 : decode cX3_push 59 = .ok (.putfield 94, 3) := by decide +kernel
theorem dX3_push_62 : decode cX3_push 62 = .ok (.bipush (-2), 2) := by decide +kernel
theorem dX3_push_64 : decode cX3_push 64 = .ok (.ireturn, 1) := by decide +kernel
theorem dX3_push_65 : decode cX3_push 65 = .ok (.bipush 100, 2) := by decide +kernel
theorem dX3_push_67 : decode cX3_push 67 = .ok (.istore 4, 2) := by decide +kernel
theorem dX3_push_69 : decode cX3_push 69 = .ok (.aload_n 0, 1) := by decide +kernel
theorem dX3_push_70 : decode cX3_push 70 = .ok (.invokevirtual 88, 3) := by decide +kernel
theorem dX3_push_73 : decode cX3_push 73 = .ok (.iconst 1, 1) := by decide +kernel
theorem dX3_push_74 : decode cX3_push 74 = .ok (.if_icmp .lt 19, 3) := by decide +kernel
theorem dX3_push_77 : decode cX3_push 77 = .ok (.aload_n 0, 1) := by decide +kernel
theorem dX3_push_78 : decode cX3_push 78 = .ok (.iload_n 1, 1) := by decide +kernel
theorem dX3_push_79 : decode cX3_push 79 = .ok (.invokevirtual 91, 3) := by decide +kernel
theorem dX3_push_82 : decode cX3_push 82 = .ok (.ifCond .lt 74, 3) := by decide +kernel
theorem dX3_push_85 : decode cX3_push 85 = .ok (.aload_n 0, 1) := by decide +kernel
theorem dX3_push_86 : decode cX3_push 86 = .ok (.invokevirtual 97, 3) := by decide +kernel
theorem dX3_push_89 : decode cX3_push 89 = .ok (.iconst 1, 1) := by decide +kernel
theorem dX3_push_90 : decode cX3_push 90 = .ok (.if_icmp .ge 66, 3) := by decide +kernel
theorem dX3_push_93 : decode cX3_push 93 = .ok (.aload_n 0, 1) := by decide +kernel
theorem dX3_push_94 : decode cX3_push 94 = .ok (.invokevirtual 100, 3) := by decide +kernel
theorem dX3_push_97 : decode cX3_push 97 = .ok (.istore 4, 2) := by decide +kernel
theorem dX3_push_99 : decode cX3_push 99 = .ok (.aload_n 0, 1) := by decide +kernel
theorem dX3_push_100 : decode cX3_push 100 = .ok (.iload 4, 2) := by decide +kernel
theorem dX3_push_102 : decode cX3_push 102 = .ok (.invokevirtual 91, 3) := by decide +kernel
theorem dX3_push_105 : decode cX3_push 105 = .ok (.aload_n 0, 1) := by decide +kernel
theorem dX3_push_106 : decode cX3_push 106 = .ok (.iload_n 1, 1) := by decide +kernel
theorem dX3_push_107 : decode cX3_push 107 = .ok (.invokevirtual 91, 3) := by decide +kernel
theorem dX3_push_110 : decode cX3_push 110 = .ok (.iconst 2, 1) := by decide +kernel
theorem dX3_push_111 : decode cX3_push 111 = .ok (.iadd, 1) := by decide +kernel
theorem dX3_push_112 : decode cX3_push 112 = .ok (.if_icmp .ge 16, 3) := by decide +kernel
theorem dX3_push_115 : decode cX3_push 115 = .ok (.aload_n 0, 1) := by decide +kernel
theorem dX3_push_116 : decode cX3_push 116 = .ok (.dup, 1) := by decide +kernel
theorem dX3_push_117 : decode cX3_push 117 = .ok (.getfield 103, 3) := by decide +kernel
theorem dX3_push_120 : decode cX3_push 120 = .ok (.iconst 1, 1) := by decide +kernel
theorem dX3_push_121 : decode cX3_push 121 = .ok (.iadd, 1) := by decide +kernel
theorem dX3_push_122 : decode cX3_push 122 = .ok (.putfield 103, 3) := by decide +kernel
theorem dX3_push_125 : decode cX3_push 125 = .ok (.bipush (-3), 2) := by decide +kernel
theorem dX3_push_127 : decode cX3_push 127 = .ok (.ireturn, 1) := by decide +kernel
theorem dX3_push_128 : decode cX3_push 128 = .ok (.aload_n 0, 1) := by decide +kernel
theorem dX3_push_129 : decode cX3_push 129 = .ok (.getfield 22, 3) := by decide +kernel
theorem dX3_push_132 : decode cX3_push 132 = .ok (.iload 4, 2) := by decide +kernel
theorem dX3_push_134 : decode cX3_push 134 = .ok (.dup2, 1) := by decide +kernel
theorem dX3_push_135 : decode cX3_push 135 = .ok (.iaload, 1) := by decide +kernel
theorem dX3_push_136 : decode cX3_push 136 = .ok (.iconst 1, 1) := by decide +kernel
theorem dX3_push_137 : decode cX3_push 137 = .ok (.isub, 1) := by decide +kernel
theorem dX3_push_138 : decode cX3_push 138 = .ok (.iastore, 1) := by decide +kernel
theorem dX3_push_139 : decode cX3_push 139 = .ok (.aload_n 0, 1) := by decide +kernel
theorem dX3_push_140 : decode cX3_push 140 = .ok (.getfield 41, 3) := by decide +kernel
theorem dX3_push_143 : decode cX3_push 143 = .ok (.iload 4, 2) := by decide +kernel
theorem dX3_push_145 : decode cX3_push 145 = .ok (.dup2, 1) := by decide +kernel
theorem dX3_push_146 : decode cX3_push 146 = .ok (.iaload, 1) := by decide +kernel
theorem dX3_push_147 : decode cX3_push 147 = .ok (.iconst 1, 1) := by decide +kernel
theorem dX3_push_148 : decode cX3_push 148 = .ok (.iadd, 1) := by decide +kernel
theorem dX3_push_149 : decode cX3_push 149 = .ok (.iastore, 1) := by decide +kernel
theorem dX3_push_150 : decode cX3_push 150 = .ok (.aload_n 0, 1) := by decide +kernel
theorem dX3_push_151 : decode cX3_push 151 = .ok (.iload 4, 2) := by decide +kernel
theorem dX3_push_153 : decode cX3_push 153 = .ok (.invokevirtual 106, 3) := by decide +kernel
theorem dX3_push_156 : decode cX3_push 156 = .ok (.aload_n 0, 1) := by decide +kernel
theorem dX3_push_157 : decode cX3_push 157 = .ok (.getfield 32, 3) := by decide +kernel
theorem dX3_push_160 : decode cX3_push 160 = .ok (.bipush 96, 2) := by decide +kernel
theorem dX3_push_162 : decode cX3_push 162 = .ok (.iload_n 1, 1) := by decide +kernel
theorem dX3_push_163 : decode cX3_push 163 = .ok (.imul, 1) := by decide +kernel
theorem dX3_push_164 : decode cX3_push 164 = .ok (.aload_n 0, 1) := by decide +kernel
theorem dX3_push_165 : decode cX3_push 165 = .ok (.getfield 22, 3) := by decide +kernel
theorem dX3_push_168 : decode cX3_push 168 = .ok (.iload_n 1, 1) := by decide +kernel
theorem dX3_push_169 : decode cX3_push 169 = .ok (.iaload, 1) := by decide +kernel
theorem dX3_push_170 : decode cX3_push 170 = .ok (.iadd, 1) := by decide +kernel
theorem dX3_push_171 : decode cX3_push 171 = .ok (.iload_n 2, 1) := by decide +kernel
theorem dX3_push_172 : decode cX3_push 172 = .ok (.iastore, 1) := by decide +kernel
theorem dX3_push_173 : decode cX3_push 173 = .ok (.aload_n 0, 1) := by decide +kernel
theorem dX3_push_174 : decode cX3_push 174 = .ok (.getfield 35, 3) := by decide +kernel
theorem dX3_push_177 : decode cX3_push 177 = .ok (.bipush 96, 2) := by decide +kernel
theorem dX3_push_179 : decode cX3_push 179 = .ok (.iload_n 1, 1) := by decide +kernel
theorem dX3_push_180 : decode cX3_push 180 = .ok (.imul, 1) := by decide +kernel
theorem dX3_push_181 : decode cX3_push 181 = .ok (.aload_n 0, 1) := by decide +kernel
theorem dX3_push_182 : decode cX3_push 182 = .ok (.getfield 22, 3) := by decide +kernel
theorem dX3_push_185 : decode cX3_push 185 = .ok (.iload_n 1, 1) := by decide +kernel
theorem dX3_push_186 : decode cX3_push 186 = .ok (.iaload, 1) := by decide +kernel
theorem dX3_push_187 : decode cX3_push 187 = .ok (.iadd, 1) := by decide +kernel
theorem dX3_push_188 : decode cX3_push 188 = .ok (.iload_n 3, 1) := by decide +kernel
theorem dX3_push_189 : decode cX3_push 189 = .ok (.iastore, 1) := by decide +kernel
theorem dX3_push_190 : decode cX3_push 190 = .ok (.aload_n 0, 1) := by decide +kernel
theorem dX3_push_191 : decode cX3_push 191 = .ok (.getfield 22, 3) := by decide +kernel
theorem dX3_push_194 : decode cX3_push 194 = .ok (.iload_n 1, 1) := by decide +kernel
theorem dX3_push_195 : decode cX3_push 195 = .ok (.dup2, 1) := by decide +kernel
theorem dX3_push_196 : decode cX3_push 196 = .ok (.iaload, 1) := by decide +kernel
theorem dX3_push_197 : decode cX3_push 197 = .ok (.iconst 1, 1) := by decide +kernel
theorem dX3_push_198 : decode cX3_push 198 = .ok (.iadd, 1) := by decide +kernel
theorem dX3_push_199 : decode cX3_push 199 = .ok (.iastore, 1) := by decide +kernel
theorem dX3_push_200 : decode cX3_push 200 = .ok (.aload_n 0, 1) := by decide +kernel
theorem dX3_push_201 : decode cX3_push 201 = .ok (.getfield 38, 3) := by decide +kernel
theorem dX3_push_204 : decode cX3_push 204 = .ok (.iload_n 1, 1) := by decide +kernel
theorem dX3_push_205 : decode cX3_push 205 = .ok (.dup2, 1) := by decide +kernel
theorem dX3_push_206 : decode cX3_push 206 = .ok (.iaload, 1) := by decide +kernel
theorem dX3_push_207 : decode cX3_push 207 = .ok (.iconst 1, 1) := by decide +kernel
theorem dX3_push_208 : decode cX3_push 208 = .ok (.iadd, 1) := by decide +kernel
theorem dX3_push_209 : decode cX3_push 209 = .ok (.iastore, 1) := by decide +kernel
theorem dX3_push_210 : decode cX3_push 210 = .ok (.aload_n 0, 1) := by decide +kernel
theorem dX3_push_211 : decode cX3_push 211 = .ok (.getfield 22, 3) := by decide +kernel
theorem dX3_push_214 : decode cX3_push 214 = .ok (.iload_n 1, 1) := by decide +kernel
theorem dX3_push_215 : decode cX3_push 215 = .ok (.iaload, 1) := by decide +kernel
theorem dX3_push_216 : decode cX3_push 216 = .ok (.iconst 1, 1) := by decide +kernel
theorem dX3_push_217 : decode cX3_push 217 = .ok (.if_icmp .ne 15, 3) := by decide +kernel
theorem dX3_push_220 : decode cX3_push 220 = .ok (.aload_n 0, 1) := by decide +kernel
theorem dX3_push_221 : decode cX3_push 221 = .ok (.getfield 25, 3) := by decide +kernel
theorem dX3_push_224 : decode cX3_push 224 = .ok (.iload_n 1, 1) := by decide +kernel
theorem dX3_push_225 : decode cX3_push 225 = .ok (.iconst 0, 1) := by decide +kernel
theorem dX3_push_226 : decode cX3_push 226 = .ok (.iastore, 1) := by decide +kernel
theorem dX3_push_227 : decode cX3_push 227 = .ok (.aload_n 0, 1) := by decide +kernel
theorem dX3_push_228 : decode cX3_push 228 = .ok (.iload_n 1, 1) := by decide +kernel
theorem dX3_push_229 : decode cX3_push 229 = .ok (.invokevirtual 85, 3) := by decide +kernel
theorem dX3_push_232 : decode cX3_push 232 = .ok (.iload 4, 2) := by decide +kernel
theorem dX3_push_234 : decode cX3_push 234 = .ok (.ireturn, 1) := by decide +kernel
theorem dX3_find_0 : decode cX3_find 0 = .ok (.iconst 0, 1) := by decide +kernel
theorem dX3_find_1 : decode cX3_find 1 = .ok (.istore_n 1, 1) := by decide +kernel
theorem dX3_find_2 : decode cX3_find 2 = .ok (.iload_n 1, 1) := by decide +kernel
theorem dX3_find_3 : decode cX3_find 3 = .ok (.iconst 4, 1) := by decide +kernel
theorem dX3_find_4 : decode cX3_find 4 = .ok (.if_icmp .ge 18, 3) := by decide +kernel
theorem dX3_find_7 : decode cX3_find 7 = .ok (.aload_n 0, 1) := by decide +kernel
theorem dX3_find_8 : decode cX3_find 8 = .ok (.getfield 53, 3) := by decide +kernel
theorem dX3_find_11 : decode cX3_find 11 = .ok (.iload_n 1, 1) := by decide +kernel
theorem dX3_find_12 : decode cX3_find 12 = .ok (.iaload, 1) := by decide +kernel
theorem dX3_find_13 : decode cX3_find 13 = .ok (.ifCond .ne 9, 3) := by decide +kernel
theorem dX3_find_16 : decode cX3_find 16 = .ok (.iinc 1 1, 3) := by decide +kernel
theorem dX3_find_19 : decode cX3_find 19 = .ok (.goto (-17), 3) := by decide +kernel
theorem dX3_find_22 : decode cX3_find 22 = .ok (.iload_n 1, 1) := by decide +kernel
theorem dX3_find_23 : decode cX3_find 23 = .ok (.iconst 4, 1) := by decide +kernel
theorem dX3_find_24 : decode cX3_find 24 = .ok (.if_icmp .ne 5, 3) := by decide +kernel
theorem dX3_find_27 : decode cX3_find 27 = .ok (.iconst (-1), 1) := by decide +kernel
theorem dX3_find_28 : decode cX3_find 28 = .ok (.ireturn, 1) := by decide +kernel
theorem dX3_find_29 : decode cX3_find 29 = .ok (.aload_n 0, 1) := by decide +kernel
theorem dX3_find_30 : decode cX3_find 30 = .ok (.getfield 50, 3) := by decide +kernel
theorem dX3_find_33 : decode cX3_find 33 = .ok (.bipush 12, 2) := by decide +kernel
theorem dX3_find_35 : decode cX3_find 35 = .ok (.iload_n 1, 1) := by decide +kernel
theorem dX3_find_36 : decode cX3_find 36 = .ok (.imul, 1) := by decide +kernel
theorem dX3_find_37 : decode cX3_find 37 = .ok (.iaload, 1) := by decide +kernel
theorem dX3_find_38 : decode cX3_find 38 = .ok (.istore_n 2, 1) := by decide +kernel
theorem dX3_find_39 : decode cX3_find 39 = .ok (.aload_n 0, 1) := by decide +kernel
theorem dX3_find_40 : decode cX3_find 40 = .ok (.getfield 28, 3) := by decide +kernel
theorem dX3_find_43 : decode cX3_find 43 = .ok (.iload_n 2, 1) := by decide +kernel
theorem dX3_find_44 : decode cX3_find 44 = .ok (.baload, 1) := by decide +kernel
theorem dX3_find_45 : decode cX3_find 45 = .ok (.ifCond .ne 29, 3) := by decide +kernel
theorem dX3_find_48 : decode cX3_find 48 = .ok (.aload_n 0, 1) := by decide +kernel
theorem dX3_find_49 : decode cX3_find 49 = .ok (.getfield 28, 3) := by decide +kernel
theorem dX3_find_52 : decode cX3_find 52 = .ok (.iload_n 2, 1) := by decide +kernel
theorem dX3_find_53 : decode cX3_find 53 = .ok (.iconst 1, 1) := by decide +kernel
theorem dX3_find_54 : decode cX3_find 54 = .ok (.bastore, 1) := by decide +kernel
theorem dX3_find_55 : decode cX3_find 55 = .ok (.aload_n 0, 1) := by decide +kernel
theorem dX3_find_56 : decode cX3_find 56 = .ok (.getfield 25, 3) := by decide +kernel
