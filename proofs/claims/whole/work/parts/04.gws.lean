set_option maxRecDepth 20000 in
theorem ggX0_leastCost_X0_withPair : GoodIn wsX0_leastCost wsX0_withPair := goodIn_r _ [14, 2, 15, 16, 17, 18, 8, 19, 32, 33, 34, 35, 36, 20, 21, 22, 23, 24, 25, 26, 27, 28, 29, 30, 31] (by decide +kernel) (by decide +kernel)
set_option maxRecDepth 20000 in
theorem gX0_leastCost_X0_withPair : GoodIn wsX0_leastCost (wsV RX0 39 RX0 yX0_withPair wsX0_withPair) := goodIn_app (goodIn_of _ (by decide +kernel)) ggX0_leastCost_X0_withPair
set_option maxRecDepth 20000 in
theorem ggX0_pairUp_X0_leastCost : GoodIn wsX0_pairUp wsX0_leastCost := goodIn_r _ [9, 1, 3, 10, 2, 11, 12, 13, 14, 15, 16, 17, 18, 8, 19, 20, 21, 22, 23, 24, 29, 30, 31, 32, 33, 34, 35, 36, 37, 38, 39, 40, 41, 42, 43, 44, 45] (by decide +kernel) (by decide +kernel)
set_option maxRecDepth 20000 in
theorem gX0_pairUp_X0_leastCost : GoodIn wsX0_pairUp (wsV RX0 48 RX0 yX0_leastCost wsX0_leastCost) := goodIn_app (goodIn_of _ (by decide +kernel)) ggX0_pairUp_X0_leastCost
set_option maxRecDepth 20000 in
theorem ggX0_pairUp_X0_lastFeltNotLeftOut : GoodIn wsX0_pairUp wsX0_lastFeltNotLeftOut := goodIn_r _ [28, 3, 11, 16, 17, 18, 8, 19, 20, 21, 22, 23, 14, 24, 41, 42, 43, 44, 45, 29, 30, 31, 32, 33, 34, 35, 36, 37, 38, 39, 40] (by decide +kernel) (by decide +kernel)
set_option maxRecDepth 20000 in
theorem gX0_pairUp_X0_lastFeltNotLeftOut : GoodIn wsX0_pairUp (wsV RX0 52 RX0 yX0_lastFeltNotLeftOut wsX0_lastFeltNotLeftOut) := goodIn_app (goodIn_of _ (by decide +kernel)) ggX0_pairUp_X0_lastFeltNotLeftOut
set_option maxRecDepth 20000 in
theorem ggX0_pairUp_X0_withPair : GoodIn wsX0_pairUp wsX0_withPair := goodIn_r _ [19, 3, 20, 21, 22, 23, 14, 24, 41, 42, 43, 44, 45, 29, 30, 31, 32, 33, 34, 35, 36, 37, 38, 39, 40] (by decide +kernel) (by decide +kernel)
set_option maxRecDepth 20000 in
theorem gX0_pairUp_X0_withPair : GoodIn wsX0_pairUp (wsV RX0 39 RX0 yX0_withPair wsX0_withPair) := goodIn_app (goodIn_of _ (by decide +kernel)) ggX0_pairUp_X0_withPair
set_option maxRecDepth 20000 in
theorem ggX0_lastFeltNotLeftOut_X0_withPair : GoodIn wsX0_lastFeltNotLeftOut wsX0_withPair := goodIn_r _ [7, 1, 8, 9, 10, 11, 12, 13, 14, 15, 16, 17, 18, 19, 20, 21, 22, 23, 24, 25, 26, 27, 28, 29, 30] (by decide +kernel) (by decide +kernel)
set_option maxRecDepth 20000 in
theorem gX0_lastFeltNotLeftOut_X0_withPair : GoodIn wsX0_lastFeltNotLeftOut (wsV RX0 39 RX0 yX0_withPair wsX0_withPair) := goodIn_app (goodIn_of _ (by decide +kernel)) ggX0_lastFeltNotLeftOut_X0_withPair
set_option maxRecDepth 20000 in
theorem ggX1_bestYears_X1_isEnough : GoodIn wsX1_bestYears wsX1_isEnough := goodIn_r _ [5, 6, 7, 8, 9, 10, 4, 11, 25, 26, 27, 28, 29, 30] (by decide +kernel) (by decide +kernel)
set_option maxRecDepth 20000 in
theorem gX1_bestYears_X1_isEnough : GoodIn wsX1_bestYears (wsV RX1 31 RX1 yX1_isEnough wsX1_isEnough) := goodIn_app (goodIn_of _ (by decide +kernel)) ggX1_bestYears_X1_isEnough
set_option maxRecDepth 20000 in
theorem ggX1_bestYears_X1_costOf : GoodIn wsX1_bestYears wsX1_costOf := goodIn_r _ [15, 16, 17, 18, 19, 20, 21, 22, 23, 24, 25, 26, 27, 28, 29, 30] (by decide +kernel) (by decide +kernel)
set_option maxRecDepth 20000 in
theorem gX1_bestYears_X1_costOf : GoodIn wsX1_bestYears (wsV RX1 35 RX1 yX1_costOf wsX1_costOf) := goodIn_app (goodIn_of _ (by decide +kernel)) ggX1_bestYears_X1_costOf
set_option maxRecDepth 20000 in
theorem ggX1_isEnough_X1_hasYear : GoodIn wsX1_isEnough wsX1_hasYear := goodIn_r _ [7] (by decide +kernel) (by decide +kernel)
set_option maxRecDepth 20000 in
theorem gX1_isEnough_X1_hasYear : GoodIn wsX1_isEnough (wsV RX1 39 RX1 yX1_hasYear wsX1_hasYear) := goodIn_app (goodIn_of _ (by decide +kernel)) ggX1_isEnough_X1_hasYear
set_option maxRecDepth 20000 in
theorem ggX1_costOf_J6_bitCount_0f7a4 : GoodIn wsX1_costOf wsJ6_bitCount_0f7a4 := goodIn_r _ [6, 7, 8, 9] (by decide +kernel) (by decide +kernel)
set_option maxRecDepth 20000 in
theorem gX1_costOf_J6_bitCount_0f7a4 : GoodIn wsX1_costOf (va_wsS RX1 43 yJ6_bitCount_0f7a4 wsJ6_bitCount_0f7a4) := goodIn_app (goodIn_of _ (by decide +kernel)) ggX1_costOf_J6_bitCount_0f7a4
set_option maxRecDepth 20000 in
theorem ggX1_yearOf_X1_worksAheadOf : GoodIn wsX1_yearOf wsX1_worksAheadOf := goodIn_r _ [6, 7, 8, 13, 14, 15, 16, 17, 18] (by decide +kernel) (by decide +kernel)
set_option maxRecDepth 20000 in
theorem gX1_yearOf_X1_worksAheadOf : GoodIn wsX1_yearOf (wsV RX1 48 RX1 yX1_worksAheadOf wsX1_worksAheadOf) := goodIn_app (goodIn_of _ (by decide +kernel)) ggX1_yearOf_X1_worksAheadOf
set_option maxRecDepth 20000 in
theorem ggX1_yearOf_X1_hasYear : GoodIn wsX1_yearOf wsX1_hasYear := goodIn_r _ [12] (by decide +kernel) (by decide +kernel)
set_option maxRecDepth 20000 in
theorem gX1_yearOf_X1_hasYear : GoodIn wsX1_yearOf (wsV RX1 39 RX1 yX1_hasYear wsX1_hasYear) := goodIn_app (goodIn_of _ (by decide +kernel)) ggX1_yearOf_X1_hasYear
set_option maxRecDepth 20000 in
theorem ggX2_gather_X6_feltAt : GoodIn wsX2_gather wsX6_feltAt := goodIn_r _ [15, 16, 17, 18, 23, 24, 25, 26, 27, 28, 29, 30, 31, 32, 33, 34] (by decide +kernel) (by decide +kernel)
set_option maxRecDepth 20000 in
theorem gX2_gather_X6_feltAt : GoodIn wsX2_gather (wsV RX2 40 RX6 yX6_feltAt wsX6_feltAt) := goodIn_app (goodIn_of _ (by decide +kernel)) ggX2_gather_X6_feltAt
set_option maxRecDepth 20000 in
theorem ggX3_areNear_X3_endOf : GoodIn wsX3_areNear wsX3_endOf := goodIn_r _ [11, 1, 12, 22, 23, 24, 25, 26, 27, 28, 29] (by decide +kernel) (by decide +kernel)
set_option maxRecDepth 20000 in
theorem gX3_areNear_X3_endOf : GoodIn wsX3_areNear (wsV RX3 34 RX3 yX3_endOf wsX3_endOf) := goodIn_app (goodIn_of _ (by decide +kernel)) ggX3_areNear_X3_endOf
set_option maxRecDepth 20000 in
theorem ggX3_areNear_X9_hoursApart : GoodIn wsX3_areNear wsX9_hoursApart := goodIn_r _ [15, 16, 17, 4, 18, 19, 20, 21] (by decide +kernel) (by decide +kernel)
set_option maxRecDepth 20000 in
theorem gX3_areNear_X9_hoursApart_n44 : GoodIn wsX3_areNear (wsX9_hoursApart) := ggX3_areNear_X9_hoursApart
set_option maxRecDepth 20000 in
theorem ggX3_putTogether_X3_spread : GoodIn wsX3_putTogether wsX3_spread := goodIn_r _ [8, 3, 1, 9, 2, 10, 11, 12, 7, 13, 14, 15, 16, 17, 18, 19, 20, 21, 22, 23, 24, 25, 26, 27, 28, 29, 30, 31, 32, 33, 34, 35, 36, 37, 38, 39, 40, 41] (by decide +kernel) (by decide +kernel)
set_option maxRecDepth 20000 in
theorem gX3_putTogether_X3_spread : GoodIn wsX3_putTogether (wsV RX3 50 RX3 yX3_spread wsX3_spread) := goodIn_app (goodIn_of _ (by decide +kernel)) ggX3_putTogether_X3_spread
set_option maxRecDepth 20000 in
theorem ggX3_spread_X3_areNear : GoodIn wsX3_spread wsX3_areNear := goodIn_r _ [9, 10, 11, 12, 13, 14, 15, 16, 17, 18, 8, 19, 20, 21, 22, 23, 24, 25, 26, 27, 28, 29, 30, 31, 32, 33, 34, 35, 36, 37] (by decide +kernel) (by decide +kernel)
set_option maxRecDepth 20000 in
theorem gX3_spread_X3_areNear : GoodIn wsX3_spread (wsV RX3 54 RX3 yX3_areNear wsX3_areNear) := goodIn_app (goodIn_of _ (by decide +kernel)) ggX3_spread_X3_areNear
set_option maxRecDepth 20000 in
theorem ggX3_groupFact_X3_endOf : GoodIn wsX3_groupFact wsX3_endOf := goodIn_r _ [16, 3, 17, 18, 19, 20, 21, 22, 23, 24, 25] (by decide +kernel) (by decide +kernel)
set_option maxRecDepth 20000 in
theorem gX3_groupFact_X3_endOf : GoodIn wsX3_groupFact (wsV RX3 34 RX3 yX3_endOf wsX3_endOf) := goodIn_app (goodIn_of _ (by decide +kernel)) ggX3_groupFact_X3_endOf
set_option maxRecDepth 20000 in
theorem ggX4_init_X2_init : GoodIn wsX4_init wsX2_init := goodIn_r _ [14, 15, 2, 3, 9, 16, 17, 18, 19, 20, 21, 22] (by decide +kernel) (by decide +kernel)
set_option maxRecDepth 20000 in
theorem gX4_init_X2_init : GoodIn wsX4_init (wsX2_init) := ggX4_init_X2_init
set_option maxRecDepth 20000 in
theorem ggX4_leastCost_X2_gather : GoodIn wsX4_leastCost wsX2_gather := goodIn_r _ [10, 11, 12, 13, 14, 15, 16, 17, 18, 19, 20, 21, 22, 23, 24, 25, 26, 27, 28, 63, 64, 65, 66, 67, 68, 69, 70, 71, 72, 73, 74, 75, 76, 77, 78, 79, 80, 81, 82, 83, 84, 85, 86] (by decide +kernel) (by decide +kernel)
set_option maxRecDepth 20000 in
theorem gX4_leastCost_X2_gather : GoodIn wsX4_leastCost (wsV RX4 29 RX2 yX2_gather wsX2_gather) := goodIn_app (goodIn_of _ (by decide +kernel)) ggX4_leastCost_X2_gather
set_option maxRecDepth 20000 in
theorem ggX4_leastCost_J6_bitCount_0f7a4 : GoodIn wsX4_leastCost wsJ6_bitCount_0f7a4 := goodIn_r _ [32, 33, 34, 35] (by decide +kernel) (by decide +kernel)
set_option maxRecDepth 20000 in
theorem gX4_leastCost_J6_bitCount_0f7a4 : GoodIn wsX4_leastCost (va_wsS RX4 36 yJ6_bitCount_0f7a4 wsJ6_bitCount_0f7a4) := goodIn_app (goodIn_of _ (by decide +kernel)) ggX4_leastCost_J6_bitCount_0f7a4
set_option maxRecDepth 20000 in
theorem ggX4_leastCost_X4_leastFrom : GoodIn wsX4_leastCost wsX4_leastFrom := goodIn_r _ [40, 5, 4, 2, 3, 41, 42, 43, 44, 45, 46, 47, 39, 48, 1, 49, 50, 51, 52, 53, 54, 55, 56, 57, 58, 59, 60, 61, 62, 63, 64, 65, 66] (by decide +kernel) (by decide +kernel)
set_option maxRecDepth 20000 in
theorem gX4_leastCost_X4_leastFrom : GoodIn wsX4_leastCost (wsV RX4 42 RX4 yX4_leastFrom wsX4_leastFrom) := goodIn_app (goodIn_of _ (by decide +kernel)) ggX4_leastCost_X4_leastFrom
set_option maxRecDepth 20000 in
theorem ggX4_leastFrom_X4_withPair : GoodIn wsX4_leastFrom wsX4_withPair := goodIn_r _ [13, 14, 15, 3, 16, 17, 7, 18, 19, 2, 20, 21, 22, 23, 24, 6, 8, 25, 26, 27, 28, 29, 30, 31, 32] (by decide +kernel) (by decide +kernel)
set_option maxRecDepth 20000 in
theorem gX4_leastFrom_X4_withPair : GoodIn wsX4_leastFrom (wsV RX4 46 RX4 yX4_withPair wsX4_withPair) := goodIn_app (goodIn_of _ (by decide +kernel)) ggX4_leastFrom_X4_withPair
set_option maxRecDepth 20000 in
theorem ggX4_withPair_X9_hoursApart : GoodIn wsX4_withPair wsX9_hoursApart := goodIn_r _ [12, 13, 5, 6, 7, 14, 15, 16] (by decide +kernel) (by decide +kernel)
set_option maxRecDepth 20000 in
theorem gX4_withPair_X9_hoursApart_n64 : GoodIn wsX4_withPair (wsX9_hoursApart) := ggX4_withPair_X9_hoursApart
set_option maxRecDepth 20000 in
theorem ggX4_otherOf_X4_choiceAt : GoodIn wsX4_otherOf wsX4_choiceAt := goodIn_r _ [9, 4, 2, 10, 11, 12, 13, 8, 14, 1, 15, 16, 17, 18, 19, 20, 21, 22, 23, 24, 25, 26, 27, 28, 29, 30, 31, 32, 33, 34, 35] (by decide +kernel) (by decide +kernel)
set_option maxRecDepth 20000 in
theorem gX4_otherOf_X4_choiceAt : GoodIn wsX4_otherOf (wsV RX4 67 RX4 yX4_choiceAt wsX4_choiceAt) := goodIn_app (goodIn_of _ (by decide +kernel)) ggX4_otherOf_X4_choiceAt
set_option maxRecDepth 20000 in
theorem ggX4_choiceAt_X4_withPair : GoodIn wsX4_choiceAt wsX4_withPair := goodIn_r _ [8, 9, 10, 1, 11, 12, 13, 14, 15, 3, 16, 17, 18, 19, 20, 21, 22, 23, 24, 25, 26, 27, 28, 29, 30] (by decide +kernel) (by decide +kernel)
set_option maxRecDepth 20000 in
theorem gX4_choiceAt_X4_withPair : GoodIn wsX4_choiceAt (wsV RX4 46 RX4 yX4_withPair wsX4_withPair) := goodIn_app (goodIn_of _ (by decide +kernel)) ggX4_choiceAt_X4_withPair
set_option maxRecDepth 20000 in
theorem ggX5_faultOf_X5_isLost : GoodIn wsX5_faultOf wsX5_isLost := goodIn_r _ [6, 1, 12, 13, 14] (by decide +kernel) (by decide +kernel)
set_option maxRecDepth 20000 in
theorem gX5_faultOf_X5_isLost : GoodIn wsX5_faultOf (wsV RX5 28 RX5 yX5_isLost wsX5_isLost) := goodIn_app (goodIn_of _ (by decide +kernel)) ggX5_faultOf_X5_isLost
set_option maxRecDepth 20000 in
theorem ggX5_faultOf_X5_hasItem : GoodIn wsX5_faultOf wsX5_hasItem := goodIn_r _ [10, 11, 12, 13, 14] (by decide +kernel) (by decide +kernel)
set_option maxRecDepth 20000 in
theorem gX5_faultOf_X5_hasItem : GoodIn wsX5_faultOf (wsV RX5 32 RX5 yX5_hasItem wsX5_hasItem) := goodIn_app (goodIn_of _ (by decide +kernel)) ggX5_faultOf_X5_hasItem
set_option maxRecDepth 20000 in
theorem ggX5_store_X5_hasItem : GoodIn wsX5_store wsX5_hasItem := goodIn_r _ [7, 8, 9, 10, 11] (by decide +kernel) (by decide +kernel)
set_option maxRecDepth 20000 in
theorem gX5_store_X5_hasItem : GoodIn wsX5_store (wsV RX5 32 RX5 yX5_hasItem wsX5_hasItem) := goodIn_app (goodIn_of _ (by decide +kernel)) ggX5_store_X5_hasItem
set_option maxRecDepth 20000 in
theorem ggX5_readingAt_X5_hasItem : GoodIn wsX5_readingAt wsX5_hasItem := goodIn_r _ [6, 7, 11, 12, 13] (by decide +kernel) (by decide +kernel)
set_option maxRecDepth 20000 in
theorem gX5_readingAt_X5_hasItem : GoodIn wsX5_readingAt (wsV RX5 32 RX5 yX5_hasItem wsX5_hasItem) := goodIn_app (goodIn_of _ (by decide +kernel)) ggX5_readingAt_X5_hasItem
set_option maxRecDepth 20000 in
theorem ggX5_readingAt_X9_isWithin : GoodIn wsX5_readingAt wsX9_isWithin := goodIn_r _ [10] (by decide +kernel) (by decide +kernel)
set_option maxRecDepth 20000 in
theorem gX5_readingAt_X9_isWithin_n36 : GoodIn wsX5_readingAt (wsX9_isWithin) := ggX5_readingAt_X9_isWithin
set_option maxRecDepth 20000 in
theorem ggX5_hasWeldAt_X5_hasItem : GoodIn wsX5_hasWeldAt wsX5_hasItem := goodIn_r _ [6, 7, 8, 9, 10] (by decide +kernel) (by decide +kernel)
set_option maxRecDepth 20000 in
theorem gX5_hasWeldAt_X5_hasItem : GoodIn wsX5_hasWeldAt (wsV RX5 32 RX5 yX5_hasItem wsX5_hasItem) := goodIn_app (goodIn_of _ (by decide +kernel)) ggX5_hasWeldAt_X5_hasItem
set_option maxRecDepth 20000 in
theorem ggX6_init_X5_init : GoodIn wsX6_init wsX5_init := goodIn_r _ [22, 23, 2, 3, 15, 24, 25, 26, 37, 38, 39] (by decide +kernel) (by decide +kernel)
set_option maxRecDepth 20000 in
theorem gX6_init_X5_init : GoodIn wsX6_init (wsX5_init) := ggX6_init_X5_init
set_option maxRecDepth 20000 in
theorem ggX6_init_X3_init : GoodIn wsX6_init wsX3_init := goodIn_r _ [29, 30, 2, 3, 15, 31, 32, 33, 34, 35, 36, 52, 53, 54, 55, 56, 57, 58, 59] (by decide +kernel) (by decide +kernel)
set_option maxRecDepth 20000 in
theorem gX6_init_X3_init : GoodIn wsX6_init (wsX3_init) := ggX6_init_X3_init
set_option maxRecDepth 20000 in
theorem ggX6_feel_X6_readingsTogether : GoodIn wsX6_feel wsX6_readingsTogether := goodIn_r _ [20, 1, 3, 4, 21, 22, 7, 23, 5, 6, 8, 24, 25, 26, 27, 28, 29, 30, 31, 32, 33, 34, 35, 36, 37, 42, 43, 44, 45, 46, 47, 48, 49, 50, 51, 52, 53, 54, 55, 56] (by decide +kernel) (by decide +kernel)
set_option maxRecDepth 20000 in
theorem gX6_feel_X6_readingsTogether : GoodIn wsX6_feel (wsV RX6 66 RX6 yX6_readingsTogether wsX6_readingsTogether) := goodIn_app (goodIn_of _ (by decide +kernel)) ggX6_feel_X6_readingsTogether
set_option maxRecDepth 20000 in
theorem ggX6_feel_X5_hasWeldAt : GoodIn wsX6_feel wsX5_hasWeldAt := goodIn_r _ [41, 29, 30, 31, 32, 27, 33, 34, 54, 55, 56] (by decide +kernel) (by decide +kernel)
set_option maxRecDepth 20000 in
theorem gX6_feel_X5_hasWeldAt : GoodIn wsX6_feel (wsV RX6 70 RX5 yX5_hasWeldAt wsX5_hasWeldAt) := goodIn_app (goodIn_of _ (by decide +kernel)) ggX6_feel_X5_hasWeldAt
set_option maxRecDepth 20000 in
theorem ggX6_readingsTogether_X5_readingAt : GoodIn wsX6_readingsTogether wsX5_readingAt := goodIn_r _ [15, 16, 17, 18, 19, 14, 20, 21, 22, 23, 24, 37, 38, 39] (by decide +kernel) (by decide +kernel)
set_option maxRecDepth 20000 in
theorem gX6_readingsTogether_X5_readingAt : GoodIn wsX6_readingsTogether (wsV RX6 74 RX5 yX5_readingAt wsX5_readingAt) := goodIn_app (goodIn_of _ (by decide +kernel)) ggX6_readingsTogether_X5_readingAt
set_option maxRecDepth 20000 in
theorem ggX6_markFact_X6_feltAt : GoodIn wsX6_markFact wsX6_feltAt := goodIn_r _ [7, 8, 9, 10, 21, 22, 23, 24, 25, 26, 27, 28, 29, 30, 31, 32] (by decide +kernel) (by decide +kernel)
set_option maxRecDepth 20000 in
theorem gX6_markFact_X6_feltAt : GoodIn wsX6_markFact (wsV RX6 81 RX6 yX6_feltAt wsX6_feltAt) := goodIn_app (goodIn_of _ (by decide +kernel)) ggX6_markFact_X6_feltAt
set_option maxRecDepth 20000 in
theorem ggX6_markFact_X3_fact : GoodIn wsX6_markFact wsX3_fact := goodIn_r _ [15, 16, 17, 18, 19, 20, 33, 34, 35, 36, 37, 38, 39, 40] (by decide +kernel) (by decide +kernel)
set_option maxRecDepth 20000 in
theorem gX6_markFact_X3_fact : GoodIn wsX6_markFact (wsV RX6 84 RX3 yX3_fact wsX3_fact) := goodIn_app (goodIn_of _ (by decide +kernel)) ggX6_markFact_X3_fact
set_option maxRecDepth 20000 in
theorem ggX7_fact_X7_mostTruly : GoodIn wsX7_fact wsX7_mostTruly := goodIn_r _ [9, 10, 11, 12, 3, 13, 24, 25, 26] (by decide +kernel) (by decide +kernel)
set_option maxRecDepth 20000 in
theorem gX7_fact_X7_mostTruly : GoodIn wsX7_fact (wsV RX7 30 RX7 yX7_mostTruly wsX7_mostTruly) := goodIn_app (goodIn_of _ (by decide +kernel)) ggX7_fact_X7_mostTruly
set_option maxRecDepth 20000 in
theorem ggX7_fact_X7_leastTruly : GoodIn wsX7_fact wsX7_leastTruly := goodIn_r _ [17, 10, 1, 2, 3, 4, 24, 25, 26] (by decide +kernel) (by decide +kernel)
set_option maxRecDepth 20000 in
theorem gX7_fact_X7_leastTruly : GoodIn wsX7_fact (wsV RX7 34 RX7 yX7_leastTruly wsX7_leastTruly) := goodIn_app (goodIn_of _ (by decide +kernel)) ggX7_fact_X7_leastTruly
set_option maxRecDepth 20000 in
theorem ggX7_fact_X7_lastYear : GoodIn wsX7_fact wsX7_lastYear := goodIn_r _ [21, 22, 23, 24, 25, 26] (by decide +kernel) (by decide +kernel)
set_option maxRecDepth 20000 in
theorem gX7_fact_X7_lastYear : GoodIn wsX7_fact (wsV RX7 37 RX7 yX7_lastYear wsX7_lastYear) := goodIn_app (goodIn_of _ (by decide +kernel)) ggX7_fact_X7_lastYear
set_option maxRecDepth 20000 in
theorem ggX8_mayOpen_X8_isOpen : GoodIn wsX8_mayOpen wsX8_isOpen := goodIn_r _ [6, 7, 8, 9] (by decide +kernel) (by decide +kernel)
set_option maxRecDepth 20000 in
theorem gX8_mayOpen_X8_isOpen : GoodIn wsX8_mayOpen (wsV RX8 19 RX8 yX8_isOpen wsX8_isOpen) := goodIn_app (goodIn_of _ (by decide +kernel)) ggX8_mayOpen_X8_isOpen
set_option maxRecDepth 20000 in
theorem ggX9_init_X6_init : GoodIn wsX9_init wsX6_init := goodIn_r _ [34, 35, 2, 3, 36, 37, 38, 39, 40, 41, 42, 43, 44, 45, 46, 47, 48, 49, 50, 51, 52, 53, 54, 55, 56, 57, 58, 59, 60, 61, 62, 63, 64, 65, 66, 67, 68, 159, 160, 161, 117, 118, 119, 120, 121, 122, 123, 124, 125, 126, 127, 128, 162, 163, 164, 165, 166, 167, 168, 169] (by decide +kernel) (by decide +kernel)
set_option maxRecDepth 20000 in
theorem gX9_init_X6_init : GoodIn wsX9_init (wsX6_init) := ggX9_init_X6_init
set_option maxRecDepth 20000 in
theorem ggX9_init_X0_init : GoodIn wsX9_init wsX0_init := goodIn_r _ [71, 72, 2, 3, 47, 73, 74, 75, 76, 77, 139, 140, 141, 142, 143] (by decide +kernel) (by decide +kernel)
set_option maxRecDepth 20000 in
theorem gX9_init_X0_init : GoodIn wsX9_init (wsX0_init) := ggX9_init_X0_init
set_option maxRecDepth 20000 in
theorem ggX9_init_X4_init : GoodIn wsX9_init wsX4_init := goodIn_r _ [80, 81, 2, 3, 82, 83, 84, 85, 86, 47, 87, 88, 89, 90, 91, 92, 93, 94, 95, 170, 171, 172, 173, 144, 145, 146, 147] (by decide +kernel) (by decide +kernel)
set_option maxRecDepth 20000 in
theorem gX9_init_X4_init : GoodIn wsX9_init (wsX4_init) := ggX9_init_X4_init
set_option maxRecDepth 20000 in
theorem ggX9_init_X7_init : GoodIn wsX9_init wsX7_init := goodIn_r _ [98, 99, 2, 3, 100, 101, 102, 148, 149, 150] (by decide +kernel) (by decide +kernel)
set_option maxRecDepth 20000 in
theorem gX9_init_X7_init : GoodIn wsX9_init (wsX7_init) := ggX9_init_X7_init
set_option maxRecDepth 20000 in
theorem ggX9_init_X1_init : GoodIn wsX9_init wsX1_init := goodIn_r _ [105, 106, 2, 3, 47, 107, 108, 109, 110, 151, 152, 153, 154, 155, 156] (by decide +kernel) (by decide +kernel)
set_option maxRecDepth 20000 in
theorem gX9_init_X1_init : GoodIn wsX9_init (wsX1_init) := ggX9_init_X1_init
set_option maxRecDepth 20000 in
theorem ggX9_init_X8_init : GoodIn wsX9_init wsX8_init := goodIn_r _ [113, 114, 2, 3, 115, 116, 157, 158] (by decide +kernel) (by decide +kernel)
set_option maxRecDepth 20000 in
theorem gX9_init_X8_init : GoodIn wsX9_init (wsX8_init) := ggX9_init_X8_init
set_option maxRecDepth 20000 in
theorem ggX9_reel_X9_reelAt : GoodIn wsX9_reel wsX9_reelAt := goodIn_r _ [5, 6, 7, 8, 4, 9, 10, 11, 12, 13, 14, 15, 16, 17, 18, 19, 20, 44, 45, 46, 47, 48, 49, 50, 51, 52, 53, 54, 55, 56, 57, 58, 59, 60, 61, 62, 63, 64, 65] (by decide +kernel) (by decide +kernel)
set_option maxRecDepth 20000 in
theorem gX9_reel_X9_reelAt : GoodIn wsX9_reel (wsV RX9 64 RX9 yX9_reelAt wsX9_reelAt) := goodIn_app (goodIn_of _ (by decide +kernel)) ggX9_reel_X9_reelAt
set_option maxRecDepth 20000 in
theorem ggX9_reel_X9_isForm : GoodIn wsX9_reel wsX9_isForm := goodIn_r _ [23, 24, 25, 4, 26] (by decide +kernel) (by decide +kernel)
set_option maxRecDepth 20000 in
theorem gX9_reel_X9_isForm : GoodIn wsX9_reel (va_wsS RX9 68 yX9_isForm wsX9_isForm) := goodIn_app (goodIn_of _ (by decide +kernel)) ggX9_reel_X9_isForm
set_option maxRecDepth 20000 in
theorem ggX9_reel_X9_found : GoodIn wsX9_reel wsX9_found := goodIn_r _ [30, 31, 44, 45, 46, 47, 48, 49, 50, 51, 52, 53] (by decide +kernel) (by decide +kernel)
set_option maxRecDepth 20000 in
theorem gX9_reel_X9_found : GoodIn wsX9_reel (wsV RX9 72 RX9 yX9_found wsX9_found) := goodIn_app (goodIn_of _ (by decide +kernel)) ggX9_reel_X9_found
set_option maxRecDepth 20000 in
theorem ggX9_reel_X5_begin : GoodIn wsX9_reel wsX5_begin := goodIn_r _ [36, 37, 38, 39, 40, 41, 42, 43, 66, 67, 68] (by decide +kernel) (by decide +kernel)
set_option maxRecDepth 20000 in
theorem gX9_reel_X5_begin : GoodIn wsX9_reel (wsV RX9 76 RX5 yX5_begin wsX5_begin) := goodIn_app (goodIn_of _ (by decide +kernel)) ggX9_reel_X5_begin
set_option maxRecDepth 20000 in
theorem ggX9_lose_X9_reelAt : GoodIn wsX9_lose wsX9_reelAt := goodIn_r _ [6, 7, 8, 9, 5, 10, 11, 12, 13, 14, 15, 16, 17, 18, 19, 20, 21, 41, 42, 43, 44, 45, 46, 47, 48, 49, 50, 51, 52, 53, 54, 55, 56, 57, 58, 59, 60, 61, 62] (by decide +kernel) (by decide +kernel)
set_option maxRecDepth 20000 in
theorem gX9_lose_X9_reelAt : GoodIn wsX9_lose (wsV RX9 64 RX9 yX9_reelAt wsX9_reelAt) := goodIn_app (goodIn_of _ (by decide +kernel)) ggX9_lose_X9_reelAt
set_option maxRecDepth 20000 in
theorem ggX9_lose_X5_isLost : GoodIn wsX9_lose wsX5_isLost := goodIn_r _ [26, 27, 38, 39, 40] (by decide +kernel) (by decide +kernel)
set_option maxRecDepth 20000 in
theorem gX9_lose_X5_isLost : GoodIn wsX9_lose (wsV RX9 82 RX5 yX5_isLost wsX5_isLost) := goodIn_app (goodIn_of _ (by decide +kernel)) ggX9_lose_X5_isLost
set_option maxRecDepth 20000 in
theorem ggX9_lose_X9_found : GoodIn wsX9_lose wsX9_found := goodIn_r _ [31, 32, 41, 42, 43, 44, 45, 46, 47, 48, 49, 50] (by decide +kernel) (by decide +kernel)
set_option maxRecDepth 20000 in
theorem gX9_lose_X9_found : GoodIn wsX9_lose (wsV RX9 72 RX9 yX9_found wsX9_found) := goodIn_app (goodIn_of _ (by decide +kernel)) ggX9_lose_X9_found
set_option maxRecDepth 20000 in
theorem ggX9_lose_X5_drop : GoodIn wsX9_lose wsX5_drop := goodIn_r _ [36, 27, 37, 38, 39, 40] (by decide +kernel) (by decide +kernel)
set_option maxRecDepth 20000 in
theorem gX9_lose_X5_drop : GoodIn wsX9_lose (wsV RX9 89 RX5 yX5_drop wsX5_drop) := goodIn_app (goodIn_of _ (by decide +kernel)) ggX9_lose_X5_drop
set_option maxRecDepth 20000 in
theorem ggX9_put_X9_reelAt : GoodIn wsX9_put wsX9_reelAt := goodIn_r _ [5, 6, 7, 8, 4, 9, 10, 11, 12, 13, 14, 15, 16, 17, 18, 19, 20, 52, 53, 54, 55, 56, 57, 58, 59, 60, 61, 62, 63, 64, 65, 66, 67, 68, 69, 70, 71, 72, 73] (by decide +kernel) (by decide +kernel)
set_option maxRecDepth 20000 in
theorem gX9_put_X9_reelAt : GoodIn wsX9_put (wsV RX9 64 RX9 yX9_reelAt wsX9_reelAt) := goodIn_app (goodIn_of _ (by decide +kernel)) ggX9_put_X9_reelAt
set_option maxRecDepth 20000 in
theorem ggX9_put_X9_isForm : GoodIn wsX9_put wsX9_isForm := goodIn_r _ [23, 24, 25, 4, 26] (by decide +kernel) (by decide +kernel)
set_option maxRecDepth 20000 in
theorem gX9_put_X9_isForm : GoodIn wsX9_put (va_wsS RX9 68 yX9_isForm wsX9_isForm) := goodIn_app (goodIn_of _ (by decide +kernel)) ggX9_put_X9_isForm
set_option maxRecDepth 20000 in
theorem ggX9_put_X5_faultOf : GoodIn wsX9_put wsX5_faultOf := goodIn_r _ [31, 32, 33, 34, 35, 30, 36, 37, 38, 39, 40, 41, 74, 75, 76] (by decide +kernel) (by decide +kernel)
set_option maxRecDepth 20000 in
theorem gX9_put_X5_faultOf : GoodIn wsX9_put (wsV RX9 92 RX5 yX5_faultOf wsX5_faultOf) := goodIn_app (goodIn_of _ (by decide +kernel)) ggX9_put_X5_faultOf
set_option maxRecDepth 20000 in
theorem ggX9_put_X9_found : GoodIn wsX9_put wsX9_found := goodIn_r _ [45, 46, 52, 53, 54, 55, 56, 57, 58, 59, 60, 61] (by decide +kernel) (by decide +kernel)
set_option maxRecDepth 20000 in
theorem gX9_put_X9_found : GoodIn wsX9_put (wsV RX9 72 RX9 yX9_found wsX9_found) := goodIn_app (goodIn_of _ (by decide +kernel)) ggX9_put_X9_found
set_option maxRecDepth 20000 in
theorem ggX9_put_X5_store : GoodIn wsX9_put wsX5_store := goodIn_r _ [50, 32, 51, 37, 38, 39, 30, 40, 41, 74, 75, 76] (by decide +kernel) (by decide +kernel)
set_option maxRecDepth 20000 in
theorem gX9_put_X5_store : GoodIn wsX9_put (wsV RX9 96 RX5 yX5_store wsX5_store) := goodIn_app (goodIn_of _ (by decide +kernel)) ggX9_put_X5_store
set_option maxRecDepth 20000 in
theorem ggX9_get_X9_reelAt : GoodIn wsX9_get wsX9_reelAt := goodIn_r _ [7, 8, 9, 10, 6, 11, 12, 13, 14, 15, 16, 17, 18, 19, 20, 21, 22, 52, 53, 54, 55, 56, 57, 58, 59, 60, 61, 62, 63, 64, 65, 66, 67, 68, 69, 70, 71, 72, 73] (by decide +kernel) (by decide +kernel)
set_option maxRecDepth 20000 in
theorem gX9_get_X9_reelAt : GoodIn wsX9_get (wsV RX9 64 RX9 yX9_reelAt wsX9_reelAt) := goodIn_app (goodIn_of _ (by decide +kernel)) ggX9_get_X9_reelAt
set_option maxRecDepth 20000 in
theorem ggX9_get_X9_isForm : GoodIn wsX9_get wsX9_isForm := goodIn_r _ [25, 26, 27, 6, 28] (by decide +kernel) (by decide +kernel)
set_option maxRecDepth 20000 in
theorem gX9_get_X9_isForm : GoodIn wsX9_get (va_wsS RX9 68 yX9_isForm wsX9_isForm) := goodIn_app (goodIn_of _ (by decide +kernel)) ggX9_get_X9_isForm
set_option maxRecDepth 20000 in
theorem ggX9_get_X5_faultOf : GoodIn wsX9_get wsX5_faultOf := goodIn_r _ [33, 34, 35, 36, 37, 32, 38, 39, 40, 41, 42, 43, 49, 50, 51] (by decide +kernel) (by decide +kernel)
set_option maxRecDepth 20000 in
theorem gX9_get_X5_faultOf : GoodIn wsX9_get (wsV RX9 92 RX5 yX5_faultOf wsX5_faultOf) := goodIn_app (goodIn_of _ (by decide +kernel)) ggX9_get_X5_faultOf
set_option maxRecDepth 20000 in
theorem ggX9_get_X9_found : GoodIn wsX9_get wsX9_found := goodIn_r _ [47, 48, 52, 53, 54, 55, 56, 57, 58, 59, 60, 61] (by decide +kernel) (by decide +kernel)
set_option maxRecDepth 20000 in
theorem gX9_get_X9_found : GoodIn wsX9_get (wsV RX9 72 RX9 yX9_found wsX9_found) := goodIn_app (goodIn_of _ (by decide +kernel)) ggX9_get_X9_found
set_option maxRecDepth 20000 in
theorem ggX9_copy_X9_reelAt : GoodIn wsX9_copy wsX9_reelAt := goodIn_r _ [11, 12, 13, 14, 10, 15, 16, 17, 18, 19, 20, 21, 22, 23, 24, 25, 26, 46, 47, 48, 49, 50, 51, 52, 53, 54, 55, 56, 57, 58, 59, 60, 61, 62, 63, 64, 65, 66, 67] (by decide +kernel) (by decide +kernel)
set_option maxRecDepth 20000 in
theorem gX9_copy_X9_reelAt : GoodIn wsX9_copy (wsV RX9 64 RX9 yX9_reelAt wsX9_reelAt) := goodIn_app (goodIn_of _ (by decide +kernel)) ggX9_copy_X9_reelAt
set_option maxRecDepth 20000 in
theorem ggX9_copy_X5_isLost : GoodIn wsX9_copy wsX5_isLost := goodIn_r _ [31, 32, 43, 44, 45] (by decide +kernel) (by decide +kernel)
set_option maxRecDepth 20000 in
theorem gX9_copy_X5_isLost : GoodIn wsX9_copy (wsV RX9 82 RX5 yX5_isLost wsX5_isLost) := goodIn_app (goodIn_of _ (by decide +kernel)) ggX9_copy_X5_isLost
set_option maxRecDepth 20000 in
theorem ggX9_copy_X9_found : GoodIn wsX9_copy wsX9_found := goodIn_r _ [36, 37, 46, 47, 48, 49, 50, 51, 52, 53, 54, 55] (by decide +kernel) (by decide +kernel)
set_option maxRecDepth 20000 in
theorem gX9_copy_X9_found : GoodIn wsX9_copy (wsV RX9 72 RX9 yX9_found wsX9_found) := goodIn_app (goodIn_of _ (by decide +kernel)) ggX9_copy_X9_found
set_option maxRecDepth 20000 in
theorem ggX9_copy_X5_hasItems : GoodIn wsX9_copy wsX5_hasItems := goodIn_r _ [41, 42, 43, 44, 45] (by decide +kernel) (by decide +kernel)
set_option maxRecDepth 20000 in
theorem gX9_copy_X5_hasItems : GoodIn wsX9_copy (wsV RX9 107 RX5 yX5_hasItems wsX5_hasItems) := goodIn_app (goodIn_of _ (by decide +kernel)) ggX9_copy_X5_hasItems
set_option maxRecDepth 20000 in
theorem ggX9_run_X9_runAt : GoodIn wsX9_run wsX9_runAt := goodIn_r _ [5, 6, 7, 57, 58, 59, 60, 61, 62, 63, 64, 65, 66] (by decide +kernel) (by decide +kernel)
set_option maxRecDepth 20000 in
theorem gX9_run_X9_runAt : GoodIn wsX9_run (wsV RX9 117 RX9 yX9_runAt wsX9_runAt) := goodIn_app (goodIn_of _ (by decide +kernel)) ggX9_run_X9_runAt
set_option maxRecDepth 20000 in
theorem ggX9_run_X9_isWithin : GoodIn wsX9_run wsX9_isWithin := goodIn_r _ [10] (by decide +kernel) (by decide +kernel)
set_option maxRecDepth 20000 in
theorem gX9_run_X9_isWithin : GoodIn wsX9_run (va_wsS RX9 121 yX9_isWithin wsX9_isWithin) := goodIn_app (goodIn_of _ (by decide +kernel)) ggX9_run_X9_isWithin
set_option maxRecDepth 20000 in
theorem ggX9_run_X6_feel : GoodIn wsX9_run wsX6_feel := goodIn_r _ [15, 16, 17, 18, 19, 20, 21, 22, 23, 24, 25, 26, 27, 28, 29, 30, 31, 32, 33, 14, 34, 35, 36, 37, 38, 39, 40, 41, 42, 43, 44, 45, 46, 47, 48, 9, 4, 10, 49, 50, 51, 52, 67, 68, 69, 70, 71, 72, 73, 74, 75, 76, 77, 78, 79, 80, 81] (by decide +kernel) (by decide +kernel)
set_option maxRecDepth 20000 in
theorem gX9_run_X6_feel : GoodIn wsX9_run (wsV RX9 125 RX6 yX6_feel wsX6_feel) := goodIn_app (goodIn_of _ (by decide +kernel)) ggX9_run_X6_feel
set_option maxRecDepth 20000 in
theorem ggX9_run_X6_fact : GoodIn wsX9_run wsX6_fact := goodIn_r _ [56, 24, 25, 27, 26, 67, 68, 69, 70, 71, 72, 73, 74, 75, 76, 77, 78] (by decide +kernel) (by decide +kernel)
set_option maxRecDepth 20000 in
theorem gX9_run_X6_fact : GoodIn wsX9_run (wsV RX9 128 RX6 yX6_fact wsX6_fact) := goodIn_app (goodIn_of _ (by decide +kernel)) ggX9_run_X6_fact
set_option maxRecDepth 20000 in
theorem ggX9_way_X9_runAt : GoodIn wsX9_way wsX9_runAt := goodIn_r _ [7, 8, 9, 66, 67, 68, 69, 70, 71, 72, 73, 74, 75] (by decide +kernel) (by decide +kernel)
set_option maxRecDepth 20000 in
theorem gX9_way_X9_runAt : GoodIn wsX9_way (wsV RX9 117 RX9 yX9_runAt wsX9_runAt) := goodIn_app (goodIn_of _ (by decide +kernel)) ggX9_way_X9_runAt
set_option maxRecDepth 20000 in
theorem ggX9_way_X6_feel : GoodIn wsX9_way wsX6_feel := goodIn_r _ [14, 15, 16, 17, 18, 19, 20, 21, 22, 23, 24, 25, 26, 27, 28, 29, 30, 31, 32, 13, 33, 34, 35, 36, 37, 38, 39, 40, 41, 42, 43, 44, 45, 46, 47, 48, 6, 49, 50, 51, 52, 53, 54, 55, 56, 57, 58, 59, 60, 61, 62, 63, 64, 65, 76, 77, 78] (by decide +kernel) (by decide +kernel)
set_option maxRecDepth 20000 in
theorem gX9_way_X6_feel : GoodIn wsX9_way (wsV RX9 125 RX6 yX6_feel wsX6_feel) := goodIn_app (goodIn_of _ (by decide +kernel)) ggX9_way_X6_feel
set_option maxRecDepth 20000 in
theorem ggX9_felt_X9_runAt : GoodIn wsX9_felt wsX9_runAt := goodIn_r _ [8, 9, 10, 68, 69, 70, 71, 72, 73, 74, 75, 76, 77] (by decide +kernel) (by decide +kernel)
set_option maxRecDepth 20000 in
theorem gX9_felt_X9_runAt : GoodIn wsX9_felt (wsV RX9 117 RX9 yX9_runAt wsX9_runAt) := goodIn_app (goodIn_of _ (by decide +kernel)) ggX9_felt_X9_runAt
set_option maxRecDepth 20000 in
theorem ggX9_felt_X9_isWithin : GoodIn wsX9_felt wsX9_isWithin := goodIn_r _ [13] (by decide +kernel) (by decide +kernel)
set_option maxRecDepth 20000 in
theorem gX9_felt_X9_isWithin : GoodIn wsX9_felt (va_wsS RX9 121 yX9_isWithin wsX9_isWithin) := goodIn_app (goodIn_of _ (by decide +kernel)) ggX9_felt_X9_isWithin
set_option maxRecDepth 20000 in
theorem ggX9_felt_X6_feel : GoodIn wsX9_felt wsX6_feel := goodIn_r _ [18, 19, 20, 21, 22, 23, 24, 25, 26, 27, 28, 29, 30, 31, 32, 33, 34, 35, 36, 17, 37, 38, 39, 40, 41, 42, 43, 44, 45, 46, 47, 48, 49, 50, 51, 12, 7, 13, 52, 53, 54, 55, 56, 57, 58, 59, 60, 61, 62, 63, 64, 65, 66, 67, 78, 79, 80] (by decide +kernel) (by decide +kernel)
set_option maxRecDepth 20000 in
theorem gX9_felt_X6_feel : GoodIn wsX9_felt (wsV RX9 125 RX6 yX6_feel wsX6_feel) := goodIn_app (goodIn_of _ (by decide +kernel)) ggX9_felt_X6_feel
set_option maxRecDepth 20000 in
theorem ggX9_joint_X9_isWithin : GoodIn wsX9_joint wsX9_isWithin := goodIn_r _ [6] (by decide +kernel) (by decide +kernel)
set_option maxRecDepth 20000 in
theorem gX9_joint_X9_isWithin : GoodIn wsX9_joint (va_wsS RX9 121 yX9_isWithin wsX9_isWithin) := goodIn_app (goodIn_of _ (by decide +kernel)) ggX9_joint_X9_isWithin
set_option maxRecDepth 20000 in
theorem ggX9_joint_X0_add : GoodIn wsX9_joint wsX0_add := goodIn_r _ [11, 12, 13, 24, 25, 26, 27, 28] (by decide +kernel) (by decide +kernel)
set_option maxRecDepth 20000 in
theorem gX9_joint_X0_add : GoodIn wsX9_joint (wsV RX9 147 RX0 yX0_add wsX0_add) := goodIn_app (goodIn_of _ (by decide +kernel)) ggX9_joint_X0_add
set_option maxRecDepth 20000 in
theorem ggX9_costs_X9_isWithin : GoodIn wsX9_costs wsX9_isWithin := goodIn_r _ [8] (by decide +kernel) (by decide +kernel)
set_option maxRecDepth 20000 in
theorem gX9_costs_X9_isWithin : GoodIn wsX9_costs (va_wsS RX9 121 yX9_isWithin wsX9_isWithin) := goodIn_app (goodIn_of _ (by decide +kernel)) ggX9_costs_X9_isWithin
set_option maxRecDepth 20000 in
theorem ggX9_match_X9_runAt : GoodIn wsX9_match wsX9_runAt := goodIn_r _ [6, 7, 8, 73, 74, 75, 76, 77, 78, 79, 80, 81, 82] (by decide +kernel) (by decide +kernel)
set_option maxRecDepth 20000 in
theorem gX9_match_X9_runAt : GoodIn wsX9_match (wsV RX9 117 RX9 yX9_runAt wsX9_runAt) := goodIn_app (goodIn_of _ (by decide +kernel)) ggX9_match_X9_runAt
set_option maxRecDepth 20000 in
theorem ggX9_match_X6_feel : GoodIn wsX9_match wsX6_feel := goodIn_r _ [13, 14, 15, 16, 17, 18, 19, 20, 21, 22, 23, 24, 25, 26, 27, 28, 29, 30, 31, 12, 32, 33, 34, 35, 36, 37, 38, 39, 40, 41, 42, 43, 44, 45, 46, 47, 5, 48, 49, 50, 51, 52, 83, 84, 85, 86, 87, 88, 89, 90, 91, 92, 93, 94, 95, 96, 97] (by decide +kernel) (by decide +kernel)
set_option maxRecDepth 20000 in
theorem gX9_match_X6_feel : GoodIn wsX9_match (wsV RX9 125 RX6 yX6_feel wsX6_feel) := goodIn_app (goodIn_of _ (by decide +kernel)) ggX9_match_X6_feel
set_option maxRecDepth 20000 in
theorem ggX9_match_X0_leastCost : GoodIn wsX9_match wsX0_leastCost := goodIn_r _ [57, 58, 59, 60, 61, 62, 63, 34, 20, 35, 64, 65, 66, 56, 67, 68, 69, 70, 71, 72, 83, 84, 85, 86, 87, 88, 89, 90, 91, 92, 93, 94, 98, 99, 100, 101, 102] (by decide +kernel) (by decide +kernel)
set_option maxRecDepth 20000 in
theorem gX9_match_X0_leastCost : GoodIn wsX9_match (wsV RX9 158 RX0 yX0_leastCost wsX0_leastCost) := goodIn_app (goodIn_of _ (by decide +kernel)) ggX9_match_X0_leastCost
set_option maxRecDepth 20000 in
theorem ggX9_paired_X9_runAt : GoodIn wsX9_paired wsX9_runAt := goodIn_r _ [7, 8, 9, 87, 88, 89, 90, 91, 92, 93, 94, 95, 96] (by decide +kernel) (by decide +kernel)
set_option maxRecDepth 20000 in
theorem gX9_paired_X9_runAt : GoodIn wsX9_paired (wsV RX9 117 RX9 yX9_runAt wsX9_runAt) := goodIn_app (goodIn_of _ (by decide +kernel)) ggX9_paired_X9_runAt
set_option maxRecDepth 20000 in
theorem ggX9_paired_X0_hasJoint : GoodIn wsX9_paired wsX0_hasJoint := goodIn_r _ [14, 15, 109, 110, 111, 112, 113] (by decide +kernel) (by decide +kernel)
set_option maxRecDepth 20000 in
theorem gX9_paired_X0_hasJoint : GoodIn wsX9_paired (wsV RX9 162 RX0 yX0_hasJoint wsX0_hasJoint) := goodIn_app (goodIn_of _ (by decide +kernel)) ggX9_paired_X0_hasJoint
set_option maxRecDepth 20000 in
theorem ggX9_paired_X6_feel : GoodIn wsX9_paired wsX6_feel := goodIn_r _ [20, 21, 22, 23, 24, 25, 26, 27, 28, 29, 30, 31, 32, 33, 34, 35, 36, 37, 38, 19, 39, 40, 41, 42, 43, 44, 45, 46, 47, 48, 49, 50, 51, 52, 53, 54, 6, 55, 56, 57, 58, 59, 97, 98, 99, 100, 101, 102, 103, 104, 105, 106, 107, 108, 114, 115, 116] (by decide +kernel) (by decide +kernel)
set_option maxRecDepth 20000 in
theorem gX9_paired_X6_feel : GoodIn wsX9_paired (wsV RX9 125 RX6 yX6_feel wsX6_feel) := goodIn_app (goodIn_of _ (by decide +kernel)) ggX9_paired_X6_feel
set_option maxRecDepth 20000 in
theorem ggX9_paired_X0_pairUp : GoodIn wsX9_paired wsX0_pairUp := goodIn_r _ [63, 64, 15, 65, 66, 67, 68, 69, 13, 70, 71, 72, 73, 41, 27, 42, 74, 75, 76, 77, 78, 79, 80, 81, 82, 83, 84, 85, 86, 97, 98, 99, 100, 101, 102, 103, 104, 105, 106, 107, 108, 109, 110, 111, 112, 113] (by decide +kernel) (by decide +kernel)
set_option maxRecDepth 20000 in
theorem gX9_paired_X0_pairUp : GoodIn wsX9_paired (wsV RX9 165 RX0 yX0_pairUp wsX0_pairUp) := goodIn_app (goodIn_of _ (by decide +kernel)) ggX9_paired_X0_pairUp
set_option maxRecDepth 20000 in
theorem ggX9_mark_X9_runAt : GoodIn wsX9_mark wsX9_runAt := goodIn_r _ [7, 8, 9, 35, 36, 37, 38, 39, 40, 41, 42, 43, 44] (by decide +kernel) (by decide +kernel)
set_option maxRecDepth 20000 in
theorem gX9_mark_X9_runAt : GoodIn wsX9_mark (wsV RX9 117 RX9 yX9_runAt wsX9_runAt) := goodIn_app (goodIn_of _ (by decide +kernel)) ggX9_mark_X9_runAt
set_option maxRecDepth 20000 in
theorem ggX9_mark_X9_isWithin : GoodIn wsX9_mark wsX9_isWithin := goodIn_r _ [12] (by decide +kernel) (by decide +kernel)
set_option maxRecDepth 20000 in
theorem gX9_mark_X9_isWithin : GoodIn wsX9_mark (va_wsS RX9 121 yX9_isWithin wsX9_isWithin) := goodIn_app (goodIn_of _ (by decide +kernel)) ggX9_mark_X9_isWithin
set_option maxRecDepth 20000 in
theorem ggX9_mark_X3_add : GoodIn wsX9_mark wsX3_add := goodIn_r _ [17, 18, 19, 20, 21, 22, 45, 46, 47, 48, 49, 50, 51, 52] (by decide +kernel) (by decide +kernel)
set_option maxRecDepth 20000 in
theorem gX9_mark_X3_add : GoodIn wsX9_mark (wsV RX9 177 RX3 yX3_add wsX3_add) := goodIn_app (goodIn_of _ (by decide +kernel)) ggX9_mark_X3_add
set_option maxRecDepth 20000 in
theorem ggX9_clear_X9_runAt : GoodIn wsX9_clear wsX9_runAt := goodIn_r _ [7, 8, 9, 30, 31, 32, 33, 34, 35, 36, 37, 38, 39] (by decide +kernel) (by decide +kernel)
set_option maxRecDepth 20000 in
theorem gX9_clear_X9_runAt : GoodIn wsX9_clear (wsV RX9 117 RX9 yX9_runAt wsX9_runAt) := goodIn_app (goodIn_of _ (by decide +kernel)) ggX9_clear_X9_runAt
set_option maxRecDepth 20000 in
theorem ggX9_about_X9_runAt : GoodIn wsX9_about wsX9_runAt := goodIn_r _ [8, 9, 10, 118, 119, 120, 121, 122, 123, 124, 125, 126, 127] (by decide +kernel) (by decide +kernel)
set_option maxRecDepth 20000 in
theorem gX9_about_X9_runAt : GoodIn wsX9_about (wsV RX9 117 RX9 yX9_runAt wsX9_runAt) := goodIn_app (goodIn_of _ (by decide +kernel)) ggX9_about_X9_runAt
set_option maxRecDepth 20000 in
theorem ggX9_about_X3_hasMark : GoodIn wsX9_about wsX3_hasMark := goodIn_r _ [15, 16, 128, 129, 130, 131, 132, 133, 134, 135] (by decide +kernel) (by decide +kernel)
set_option maxRecDepth 20000 in
theorem gX9_about_X3_hasMark : GoodIn wsX9_about (wsV RX9 183 RX3 yX3_hasMark wsX3_hasMark) := goodIn_app (goodIn_of _ (by decide +kernel)) ggX9_about_X3_hasMark
set_option maxRecDepth 20000 in
theorem ggX9_about_X9_isWithin : GoodIn wsX9_about wsX9_isWithin := goodIn_r _ [19] (by decide +kernel) (by decide +kernel)
set_option maxRecDepth 20000 in
theorem gX9_about_X9_isWithin : GoodIn wsX9_about (va_wsS RX9 121 yX9_isWithin wsX9_isWithin) := goodIn_app (goodIn_of _ (by decide +kernel)) ggX9_about_X9_isWithin
set_option maxRecDepth 20000 in
theorem ggX9_about_X6_feel : GoodIn wsX9_about wsX6_feel := goodIn_r _ [24, 25, 26, 27, 28, 29, 30, 31, 32, 33, 34, 35, 36, 37, 38, 39, 40, 41, 42, 23, 43, 44, 45, 46, 47, 48, 49, 50, 51, 52, 53, 54, 55, 56, 57, 18, 7, 19, 58, 59, 60, 61, 106, 107, 108, 109, 110, 111, 112, 113, 114, 115, 116, 117, 136, 137, 138] (by decide +kernel) (by decide +kernel)
set_option maxRecDepth 20000 in
theorem gX9_about_X6_feel : GoodIn wsX9_about (wsV RX9 125 RX6 yX6_feel wsX6_feel) := goodIn_app (goodIn_of _ (by decide +kernel)) ggX9_about_X6_feel
set_option maxRecDepth 20000 in
theorem ggX9_about_X3_putTogether : GoodIn wsX9_about wsX3_putTogether := goodIn_r _ [65, 66, 16, 67, 68, 69, 70, 14, 71, 72, 73, 74, 75, 76, 77, 78, 30, 31, 32, 79, 80, 81, 82, 83, 84, 85, 7, 86, 87, 88, 89, 90, 45, 46, 128, 129, 130, 131, 132, 133, 134, 135] (by decide +kernel) (by decide +kernel)
set_option maxRecDepth 20000 in
theorem gX9_about_X3_putTogether : GoodIn wsX9_about (wsV RX9 186 RX3 yX3_putTogether wsX3_putTogether) := goodIn_app (goodIn_of _ (by decide +kernel)) ggX9_about_X3_putTogether
set_option maxRecDepth 20000 in
theorem ggX9_about_X6_markFact : GoodIn wsX9_about wsX6_markFact := goodIn_r _ [94, 95, 96, 97, 98, 99, 23, 100, 35, 38, 39, 101, 102, 103, 14, 104, 77, 79, 105, 84, 67, 106, 107, 108, 109, 110, 111, 112, 113, 114, 115, 116, 117, 128, 129, 130, 131, 132, 133, 134, 135] (by decide +kernel) (by decide +kernel)
set_option maxRecDepth 20000 in
theorem gX9_about_X6_markFact : GoodIn wsX9_about (wsV RX9 189 RX6 yX6_markFact wsX6_markFact) := goodIn_app (goodIn_of _ (by decide +kernel)) ggX9_about_X6_markFact
set_option maxRecDepth 20000 in
theorem ggX9_near_X9_isWithin : GoodIn wsX9_near wsX9_isWithin := goodIn_r _ [7] (by decide +kernel) (by decide +kernel)
set_option maxRecDepth 20000 in
theorem gX9_near_X9_isWithin : GoodIn wsX9_near (va_wsS RX9 121 yX9_isWithin wsX9_isWithin) := goodIn_app (goodIn_of _ (by decide +kernel)) ggX9_near_X9_isWithin
set_option maxRecDepth 20000 in
theorem ggX9_groups_X9_runAt : GoodIn wsX9_groups wsX9_runAt := goodIn_r _ [9, 10, 11, 60, 61, 62, 63, 64, 65, 66, 67, 68, 69] (by decide +kernel) (by decide +kernel)
set_option maxRecDepth 20000 in
theorem gX9_groups_X9_runAt : GoodIn wsX9_groups (wsV RX9 117 RX9 yX9_runAt wsX9_runAt) := goodIn_app (goodIn_of _ (by decide +kernel)) ggX9_groups_X9_runAt
set_option maxRecDepth 20000 in
theorem ggX9_groups_X3_putTogether : GoodIn wsX9_groups wsX3_putTogether := goodIn_r _ [16, 17, 18, 19, 20, 21, 22, 15, 23, 24, 25, 26, 27, 28, 29, 30, 31, 32, 33, 34, 35, 36, 37, 38, 39, 40, 8, 41, 42, 43, 44, 45, 46, 47, 70, 71, 72, 73, 74, 75, 76, 77] (by decide +kernel) (by decide +kernel)
set_option maxRecDepth 20000 in
theorem gX9_groups_X3_putTogether : GoodIn wsX9_groups (wsV RX9 186 RX3 yX3_putTogether wsX3_putTogether) := goodIn_app (goodIn_of _ (by decide +kernel)) ggX9_groups_X3_putTogether
set_option maxRecDepth 20000 in
theorem ggX9_group_X9_runAt : GoodIn wsX9_group wsX9_runAt := goodIn_r _ [9, 10, 11, 69, 70, 71, 72, 73, 74, 75, 76, 77, 78] (by decide +kernel) (by decide +kernel)
set_option maxRecDepth 20000 in
theorem gX9_group_X9_runAt : GoodIn wsX9_group (wsV RX9 117 RX9 yX9_runAt wsX9_runAt) := goodIn_app (goodIn_of _ (by decide +kernel)) ggX9_group_X9_runAt
set_option maxRecDepth 20000 in
theorem ggX9_group_X9_isWithin : GoodIn wsX9_group wsX9_isWithin := goodIn_r _ [14] (by decide +kernel) (by decide +kernel)
set_option maxRecDepth 20000 in
theorem gX9_group_X9_isWithin : GoodIn wsX9_group (va_wsS RX9 121 yX9_isWithin wsX9_isWithin) := goodIn_app (goodIn_of _ (by decide +kernel)) ggX9_group_X9_isWithin
set_option maxRecDepth 20000 in
theorem ggX9_group_X3_putTogether : GoodIn wsX9_group wsX3_putTogether := goodIn_r _ [19, 20, 21, 22, 23, 24, 25, 18, 26, 27, 28, 29, 30, 31, 32, 33, 34, 35, 36, 37, 38, 39, 40, 41, 42, 43, 8, 44, 45, 46, 47, 48, 49, 50, 79, 80, 81, 82, 83, 84, 85, 86] (by decide +kernel) (by decide +kernel)
set_option maxRecDepth 20000 in
theorem gX9_group_X3_putTogether : GoodIn wsX9_group (wsV RX9 186 RX3 yX3_putTogether wsX3_putTogether) := goodIn_app (goodIn_of _ (by decide +kernel)) ggX9_group_X3_putTogether
set_option maxRecDepth 20000 in
theorem ggX9_group_X3_groupFact : GoodIn wsX9_group wsX3_groupFact := goodIn_r _ [54, 21, 22, 32, 55, 49, 35, 50, 33, 34, 36, 56, 38, 39, 40, 18, 41, 42, 79, 80, 81, 82, 83, 84, 85, 86] (by decide +kernel) (by decide +kernel)
set_option maxRecDepth 20000 in
theorem gX9_group_X3_groupFact : GoodIn wsX9_group (wsV RX9 195 RX3 yX3_groupFact wsX3_groupFact) := goodIn_app (goodIn_of _ (by decide +kernel)) ggX9_group_X3_groupFact
set_option maxRecDepth 20000 in
theorem ggX9_alone_X9_isWithin : GoodIn wsX9_alone wsX9_isWithin := goodIn_r _ [7] (by decide +kernel) (by decide +kernel)
set_option maxRecDepth 20000 in
theorem gX9_alone_X9_isWithin : GoodIn wsX9_alone (va_wsS RX9 121 yX9_isWithin wsX9_isWithin) := goodIn_app (goodIn_of _ (by decide +kernel)) ggX9_alone_X9_isWithin
set_option maxRecDepth 20000 in
theorem ggX9_pairing_X0_hasJoint : GoodIn wsX9_pairing wsX0_hasJoint := goodIn_r _ [10, 11, 162, 163, 164, 165, 166] (by decide +kernel) (by decide +kernel)
set_option maxRecDepth 20000 in
theorem gX9_pairing_X0_hasJoint : GoodIn wsX9_pairing (wsV RX9 162 RX0 yX0_hasJoint wsX0_hasJoint) := goodIn_app (goodIn_of _ (by decide +kernel)) ggX9_pairing_X0_hasJoint
set_option maxRecDepth 20000 in
theorem ggX9_pairing_X9_matchBothRuns : GoodIn wsX9_pairing wsX9_matchBothRuns := goodIn_r _ [16, 3, 1, 5, 17, 18, 19, 20, 21, 22, 23, 24, 25, 26, 27, 28, 29, 30, 31, 32, 33, 34, 35, 36, 37, 38, 39, 40, 41, 42, 43, 44, 45, 46, 47, 48, 49, 50, 51, 52, 53, 54, 55, 15, 56, 57, 58, 59, 60, 61, 62, 63, 9, 64, 65, 11, 66, 67, 68, 69, 70, 71, 72, 73, 74, 75, 76, 77, 78, 79, 80, 81, 82, 83, 84, 85, 86, 87, 140, 141, 142, 143, 144, 145, 146, 147, 148, 149, 150, 151, 152, 153, 154, 155, 156, 157, 158, 159, 160, 161, 167, 168, 169, 162, 163, 164, 165, 166] (by decide +kernel) (by decide +kernel)
set_option maxRecDepth 20000 in
theorem gX9_pairing_X9_matchBothRuns : GoodIn wsX9_pairing (wsV RX9 201 RX9 yX9_matchBothRuns wsX9_matchBothRuns) := goodIn_app (goodIn_of _ (by decide +kernel)) ggX9_pairing_X9_matchBothRuns
set_option maxRecDepth 20000 in
theorem ggX9_pairing_X4_leastCost : GoodIn wsX9_pairing wsX4_leastCost := goodIn_r _ [92, 93, 94, 95, 96, 97, 98, 99, 100, 101, 102, 103, 104, 105, 106, 107, 108, 109, 110, 111, 112, 113, 114, 115, 20, 116, 32, 35, 36, 117, 118, 119, 120, 121, 122, 123, 124, 125, 126, 91, 127, 128, 42, 28, 43, 129, 130, 131, 132, 133, 134, 82, 83, 135, 136, 15, 137, 138, 139, 170, 171, 172, 173, 174, 175, 176, 177, 150, 151, 152, 153, 154, 155, 156, 157, 158, 159, 160, 161, 178, 179, 180, 181, 182, 183, 184, 185] (by decide +kernel) (by decide +kernel)
set_option maxRecDepth 20000 in
theorem gX9_pairing_X4_leastCost : GoodIn wsX9_pairing (wsV RX9 204 RX4 yX4_leastCost wsX4_leastCost) := goodIn_app (goodIn_of _ (by decide +kernel)) ggX9_pairing_X4_leastCost
set_option maxRecDepth 20000 in
theorem ggX9_twin_X3_hasMark : GoodIn wsX9_twin wsX3_hasMark := goodIn_r _ [7, 8, 184, 185, 186, 187, 188, 189, 190, 191] (by decide +kernel) (by decide +kernel)
set_option maxRecDepth 20000 in
theorem gX9_twin_X3_hasMark : GoodIn wsX9_twin (wsV RX9 183 RX3 yX3_hasMark wsX3_hasMark) := goodIn_app (goodIn_of _ (by decide +kernel)) ggX9_twin_X3_hasMark
set_option maxRecDepth 20000 in
theorem ggX9_twin_X9_twinOf : GoodIn wsX9_twin wsX9_twinOf := goodIn_r _ [13, 14, 1, 2, 15, 16, 17, 18, 19, 20, 21, 12, 22, 23, 24, 25, 26, 27, 28, 29, 30, 31, 32, 33, 34, 35, 36, 37, 38, 39, 40, 41, 42, 43, 44, 45, 46, 47, 48, 49, 50, 51, 52, 53, 54, 55, 56, 57, 58, 59, 60, 61, 62, 63, 64, 65, 66, 67, 68, 69, 70, 71, 72, 73, 74, 75, 76, 77, 78, 79, 80, 81, 82, 83, 84, 85, 86, 87, 88, 89, 90, 91, 92, 93, 94, 95, 96, 97, 98, 99, 100, 101, 102, 103, 104, 105, 106, 107, 108, 109, 110, 111, 112, 113, 114, 115, 116, 117, 118, 119, 120, 121, 122, 123, 124, 125, 126, 127, 128, 129, 130, 131, 132, 133, 134, 135, 136, 137, 138, 139, 140, 141, 142, 143, 144, 145, 146, 147, 148, 149, 150, 151, 152, 153, 154, 155, 156, 157, 158, 159, 160, 161, 162, 163, 164, 165, 166, 167, 168, 169, 170, 171, 172, 173, 174, 175, 176, 177, 178, 179, 180, 181, 182, 183, 184, 185, 186, 187, 188, 189, 190, 191, 192, 193, 194, 195, 196, 197, 198, 199, 200, 201, 202, 203, 204, 205, 206, 207] (by decide +kernel) (by decide +kernel)
set_option maxRecDepth 20000 in
theorem gX9_twin_X9_twinOf : GoodIn wsX9_twin (wsV RX9 207 RX9 yX9_twinOf wsX9_twinOf) := goodIn_app (goodIn_of _ (by decide +kernel)) ggX9_twin_X9_twinOf
set_option maxRecDepth 20000 in
theorem ggX9_tool_X9_isWithin : GoodIn wsX9_tool wsX9_isWithin := goodIn_r _ [8] (by decide +kernel) (by decide +kernel)
set_option maxRecDepth 20000 in
theorem gX9_tool_X9_isWithin : GoodIn wsX9_tool (va_wsS RX9 121 yX9_isWithin wsX9_isWithin) := goodIn_app (goodIn_of _ (by decide +kernel)) ggX9_tool_X9_isWithin
set_option maxRecDepth 20000 in
theorem ggX9_growth_X3_hasMark : GoodIn wsX9_growth wsX3_hasMark := goodIn_r _ [10, 11, 209, 210, 211, 212, 213, 214, 215, 216] (by decide +kernel) (by decide +kernel)
set_option maxRecDepth 20000 in
theorem gX9_growth_X3_hasMark : GoodIn wsX9_growth (wsV RX9 183 RX3 yX3_hasMark wsX3_hasMark) := goodIn_app (goodIn_of _ (by decide +kernel)) ggX9_growth_X3_hasMark
set_option maxRecDepth 20000 in
theorem ggX9_growth_X9_isWithin : GoodIn wsX9_growth wsX9_isWithin := goodIn_r _ [15] (by decide +kernel) (by decide +kernel)
set_option maxRecDepth 20000 in
theorem gX9_growth_X9_isWithin : GoodIn wsX9_growth (va_wsS RX9 121 yX9_isWithin wsX9_isWithin) := goodIn_app (goodIn_of _ (by decide +kernel)) ggX9_growth_X9_isWithin
set_option maxRecDepth 20000 in
theorem ggX9_growth_X9_twinOf : GoodIn wsX9_growth wsX9_twinOf := goodIn_r _ [19, 20, 1, 2, 21, 22, 23, 3, 24, 25, 26, 14, 27, 28, 29, 30, 31, 32, 33, 34, 35, 36, 37, 38, 39, 40, 41, 42, 43, 44, 45, 46, 47, 48, 49, 50, 51, 52, 53, 54, 55, 56, 57, 58, 59, 60, 61, 62, 63, 64, 65, 13, 15, 66, 67, 68, 69, 70, 71, 72, 73, 74, 75, 76, 77, 78, 79, 80, 81, 82, 83, 84, 85, 86, 87, 88, 89, 90, 91, 92, 93, 94, 95, 96, 97, 98, 99, 100, 101, 102, 103, 104, 105, 106, 107, 108, 109, 110, 111, 112, 113, 114, 115, 116, 117, 118, 119, 120, 121, 122, 123, 124, 125, 126, 127, 128, 129, 130, 131, 132, 133, 134, 135, 136, 137, 138, 139, 140, 141, 142, 143, 144, 145, 146, 147, 148, 149, 150, 151, 152, 153, 154, 155, 156, 157, 158, 159, 160, 161, 162, 163, 164, 187, 188, 189, 190, 191, 192, 193, 194, 195, 196, 197, 198, 199, 200, 201, 202, 203, 204, 205, 206, 207, 208, 209, 210, 211, 212, 213, 214, 215, 216, 217, 218, 219, 220, 221, 222, 223, 224, 225, 226, 227, 228, 229, 230, 231, 232] (by decide +kernel) (by decide +kernel)
set_option maxRecDepth 20000 in
theorem gX9_growth_X9_twinOf : GoodIn wsX9_growth (wsV RX9 207 RX9 yX9_twinOf wsX9_twinOf) := goodIn_app (goodIn_of _ (by decide +kernel)) ggX9_growth_X9_twinOf
set_option maxRecDepth 20000 in
theorem ggX9_growth_X7_fact : GoodIn wsX9_growth wsX7_fact := goodIn_r _ [169, 170, 38, 39, 40, 171, 172, 173, 168, 174, 175, 176, 53, 54, 177, 178, 179, 180, 181, 182, 183, 184, 185, 186, 233, 234, 235] (by decide +kernel) (by decide +kernel)
set_option maxRecDepth 20000 in
theorem gX9_growth_X7_fact : GoodIn wsX9_growth (wsV RX9 222 RX7 yX7_fact wsX7_fact) := goodIn_app (goodIn_of _ (by decide +kernel)) ggX9_growth_X7_fact
set_option maxRecDepth 20000 in
theorem ggX9_work_X9_isWithin : GoodIn wsX9_work wsX9_isWithin := goodIn_r _ [5] (by decide +kernel) (by decide +kernel)
set_option maxRecDepth 20000 in
theorem gX9_work_X9_isWithin : GoodIn wsX9_work (va_wsS RX9 121 yX9_isWithin wsX9_isWithin) := goodIn_app (goodIn_of _ (by decide +kernel)) ggX9_work_X9_isWithin
set_option maxRecDepth 20000 in
theorem ggX9_work_X1_add : GoodIn wsX9_work wsX1_add := goodIn_r _ [10, 11, 12, 13, 14, 25, 26, 27, 28, 29, 30] (by decide +kernel) (by decide +kernel)
set_option maxRecDepth 20000 in
theorem gX9_work_X1_add : GoodIn wsX9_work (wsV RX9 225 RX1 yX1_add wsX1_add) := goodIn_app (goodIn_of _ (by decide +kernel)) ggX9_work_X1_add
set_option maxRecDepth 20000 in
theorem ggX9_yearly_X9_isWithin : GoodIn wsX9_yearly wsX9_isWithin := goodIn_r _ [7] (by decide +kernel) (by decide +kernel)
set_option maxRecDepth 20000 in
theorem gX9_yearly_X9_isWithin : GoodIn wsX9_yearly (va_wsS RX9 121 yX9_isWithin wsX9_isWithin) := goodIn_app (goodIn_of _ (by decide +kernel)) ggX9_yearly_X9_isWithin
set_option maxRecDepth 20000 in
theorem ggX9_plan_X1_bestYears : GoodIn wsX9_plan wsX1_bestYears := goodIn_r _ [6, 7, 8, 9, 5, 10, 11, 12, 13, 14, 15, 16, 17, 18, 19, 20, 21, 22, 23, 24, 25, 26, 27, 28, 29, 41, 42, 43, 44, 45, 46] (by decide +kernel) (by decide +kernel)
set_option maxRecDepth 20000 in
theorem gX9_plan_X1_bestYears : GoodIn wsX9_plan (wsV RX9 233 RX1 yX1_bestYears wsX1_bestYears) := goodIn_app (goodIn_of _ (by decide +kernel)) ggX9_plan_X1_bestYears
set_option maxRecDepth 20000 in
theorem ggX9_plan_X1_costOf : GoodIn wsX9_plan wsX1_costOf := goodIn_r _ [20, 21, 22, 23, 24, 25, 26, 27, 28, 29, 41, 42, 43, 44, 45, 46] (by decide +kernel) (by decide +kernel)
set_option maxRecDepth 20000 in
theorem gX9_plan_X1_costOf : GoodIn wsX9_plan (wsV RX9 237 RX1 yX1_costOf wsX1_costOf) := goodIn_app (goodIn_of _ (by decide +kernel)) ggX9_plan_X1_costOf
set_option maxRecDepth 20000 in
theorem ggX9_years_X1_bestYears : GoodIn wsX9_years wsX1_bestYears := goodIn_r _ [6, 7, 8, 9, 5, 10, 11, 12, 13, 14, 15, 16, 17, 18, 19, 20, 21, 22, 23, 24, 25, 26, 27, 28, 29, 40, 41, 42, 43, 44, 45] (by decide +kernel) (by decide +kernel)
set_option maxRecDepth 20000 in
theorem gX9_years_X1_bestYears : GoodIn wsX9_years (wsV RX9 233 RX1 yX1_bestYears wsX1_bestYears) := goodIn_app (goodIn_of _ (by decide +kernel)) ggX9_years_X1_bestYears
set_option maxRecDepth 20000 in
theorem ggX9_when_X1_bestYears : GoodIn wsX9_when wsX1_bestYears := goodIn_r _ [7, 8, 9, 10, 6, 11, 12, 13, 14, 15, 16, 17, 18, 19, 20, 21, 22, 23, 24, 25, 26, 27, 28, 29, 30, 51, 52, 53, 54, 55, 56] (by decide +kernel) (by decide +kernel)
set_option maxRecDepth 20000 in
theorem gX9_when_X1_bestYears : GoodIn wsX9_when (wsV RX9 233 RX1 yX1_bestYears wsX1_bestYears) := goodIn_app (goodIn_of _ (by decide +kernel)) ggX9_when_X1_bestYears
set_option maxRecDepth 20000 in
theorem ggX9_when_X1_yearOf : GoodIn wsX9_when wsX1_yearOf := goodIn_r _ [34, 13, 35, 36, 37, 6, 38, 39, 40, 14, 15, 16, 17, 51, 52, 53, 54, 55, 56] (by decide +kernel) (by decide +kernel)
set_option maxRecDepth 20000 in
theorem gX9_when_X1_yearOf : GoodIn wsX9_when (wsV RX9 241 RX1 yX1_yearOf wsX1_yearOf) := goodIn_app (goodIn_of _ (by decide +kernel)) ggX9_when_X1_yearOf
set_option maxRecDepth 20000 in
theorem ggX9_trap_X9_isWithin : GoodIn wsX9_trap wsX9_isWithin := goodIn_r _ [5] (by decide +kernel) (by decide +kernel)
set_option maxRecDepth 20000 in
theorem gX9_trap_X9_isWithin : GoodIn wsX9_trap (va_wsS RX9 121 yX9_isWithin wsX9_isWithin) := goodIn_app (goodIn_of _ (by decide +kernel)) ggX9_trap_X9_isWithin
set_option maxRecDepth 20000 in
theorem ggX9_trap_X8_isOpen : GoodIn wsX9_trap wsX8_isOpen := goodIn_r _ [10, 11, 36, 37] (by decide +kernel) (by decide +kernel)
set_option maxRecDepth 20000 in
theorem gX9_trap_X8_isOpen : GoodIn wsX9_trap (wsV RX9 244 RX8 yX8_isOpen wsX8_isOpen) := goodIn_app (goodIn_of _ (by decide +kernel)) ggX9_trap_X8_isOpen
set_option maxRecDepth 20000 in
theorem ggX9_trap_X8_shut : GoodIn wsX9_trap wsX8_shut := goodIn_r _ [15, 11, 36, 37] (by decide +kernel) (by decide +kernel)
set_option maxRecDepth 20000 in
theorem gX9_trap_X8_shut : GoodIn wsX9_trap (wsV RX9 247 RX8 yX8_shut wsX8_shut) := goodIn_app (goodIn_of _ (by decide +kernel)) ggX9_trap_X8_shut
set_option maxRecDepth 20000 in
theorem ggX9_trap_X8_mayOpen : GoodIn wsX9_trap wsX8_mayOpen := goodIn_r _ [19, 20, 21, 7, 8, 9, 10, 11, 36, 37] (by decide +kernel) (by decide +kernel)
set_option maxRecDepth 20000 in
theorem gX9_trap_X8_mayOpen : GoodIn wsX9_trap (wsV RX9 251 RX8 yX8_mayOpen wsX8_mayOpen) := goodIn_app (goodIn_of _ (by decide +kernel)) ggX9_trap_X8_mayOpen
set_option maxRecDepth 20000 in
theorem ggX9_trap_X8_open : GoodIn wsX9_trap wsX8_open := goodIn_r _ [25, 11, 20, 36, 37] (by decide +kernel) (by decide +kernel)
set_option maxRecDepth 20000 in
theorem gX9_trap_X8_open : GoodIn wsX9_trap (wsV RX9 254 RX8 yX8_open wsX8_open) := goodIn_app (goodIn_of _ (by decide +kernel)) ggX9_trap_X8_open
set_option maxRecDepth 20000 in
theorem ggX9_digest_X9_count : GoodIn wsX9_digest wsX9_count := goodIn_r _ [9, 10, 11, 3, 12, 13, 4, 14, 15, 16, 17, 18, 19, 140, 141, 142, 143, 144, 145, 146, 147, 148, 149, 150, 151, 152, 153, 154, 155, 156, 157, 158, 159, 160, 161, 162, 163, 164, 165, 166, 167, 168, 169, 170, 171, 172, 173, 174, 175, 176, 177, 178, 179, 180, 181, 182] (by decide +kernel) (by decide +kernel)
set_option maxRecDepth 20000 in
theorem gX9_digest_X9_count : GoodIn wsX9_digest (wsV RX9 268 RX9 yX9_count wsX9_count) := goodIn_app (goodIn_of _ (by decide +kernel)) ggX9_digest_X9_count
set_option maxRecDepth 20000 in
theorem ggX9_digest_X9_digestOfRun : GoodIn wsX9_digest wsX9_digestOfRun := goodIn_r _ [23, 2, 24, 25, 10, 12, 26, 27, 13, 28, 29, 30, 31, 32, 33, 34, 35, 36, 37, 38, 39, 40, 41, 42, 43, 44, 45, 46, 47, 48, 49, 50, 51, 52, 53, 54, 55, 56, 57, 58, 59, 60, 61, 62, 63, 64, 65, 66, 8, 67, 68, 69, 70, 71, 72, 73, 74, 75, 76, 77, 78, 79, 80, 81, 82, 83, 84, 85, 86, 87, 88, 89, 90, 91, 92, 93, 94, 95, 96, 97, 98, 99, 100, 101, 102, 103, 104, 105, 106, 107, 108, 109, 110, 111, 112, 113, 114, 115, 116, 117, 118, 119, 120, 121, 122, 123, 124, 125, 126, 127, 128, 129, 130, 131, 132, 133, 134, 135, 136, 137, 138, 139, 155, 156, 157, 158, 159, 160, 161, 162, 163, 164, 165, 166, 140, 141, 142, 143, 144, 145, 146, 147, 148, 149, 167, 168, 169, 170, 171, 172, 173, 174, 183, 184, 185, 150, 151, 152, 153, 154] (by decide +kernel) (by decide +kernel)
set_option maxRecDepth 20000 in
theorem gX9_digest_X9_digestOfRun : GoodIn wsX9_digest (wsV RX9 271 RX9 yX9_digestOfRun wsX9_digestOfRun) := goodIn_app (goodIn_of _ (by decide +kernel)) ggX9_digest_X9_digestOfRun
set_option maxRecDepth 20000 in
theorem ggX9_isForm_X9_isWithin : GoodIn wsX9_isForm wsX9_isWithin := goodIn_r _ [4] (by decide +kernel) (by decide +kernel)
set_option maxRecDepth 20000 in
theorem gX9_isForm_X9_isWithin : GoodIn wsX9_isForm (va_wsS RX9 121 yX9_isWithin wsX9_isWithin) := goodIn_app (goodIn_of _ (by decide +kernel)) ggX9_isForm_X9_isWithin
set_option maxRecDepth 20000 in
theorem ggX9_reelAt_X9_runAt : GoodIn wsX9_reelAt wsX9_runAt := goodIn_r _ [5, 6, 7, 17, 18, 19, 20, 21, 22, 23, 24, 25, 26] (by decide +kernel) (by decide +kernel)
set_option maxRecDepth 20000 in
theorem gX9_reelAt_X9_runAt : GoodIn wsX9_reelAt (wsV RX9 117 RX9 yX9_runAt wsX9_runAt) := goodIn_app (goodIn_of _ (by decide +kernel)) ggX9_reelAt_X9_runAt
set_option maxRecDepth 20000 in
theorem ggX9_reelAt_X6_reelAt : GoodIn wsX9_reelAt wsX6_reelAt := goodIn_r _ [12, 13, 14, 15, 16, 27, 28, 29, 30, 31, 32, 33, 34, 35, 36, 37, 38] (by decide +kernel) (by decide +kernel)
set_option maxRecDepth 20000 in
theorem gX9_reelAt_X6_reelAt : GoodIn wsX9_reelAt (wsV RX9 283 RX6 yX6_reelAt wsX6_reelAt) := goodIn_app (goodIn_of _ (by decide +kernel)) ggX9_reelAt_X6_reelAt
set_option maxRecDepth 20000 in
theorem ggX9_matchBothRuns_X6_feel : GoodIn wsX9_matchBothRuns wsX6_feel := goodIn_r _ [8, 9, 10, 11, 12, 13, 14, 15, 16, 17, 18, 19, 20, 21, 22, 23, 24, 25, 26, 7, 27, 28, 29, 30, 31, 32, 33, 34, 35, 36, 37, 38, 39, 40, 41, 42, 43, 44, 45, 46, 47, 48, 88, 89, 90, 91, 92, 93, 94, 95, 96, 97, 98, 99, 100, 101, 102] (by decide +kernel) (by decide +kernel)
set_option maxRecDepth 20000 in
theorem gX9_matchBothRuns_X6_feel : GoodIn wsX9_matchBothRuns (wsV RX9 125 RX6 yX6_feel wsX6_feel) := goodIn_app (goodIn_of _ (by decide +kernel)) ggX9_matchBothRuns_X6_feel
set_option maxRecDepth 20000 in
theorem ggX9_matchBothRuns_X0_pairUp : GoodIn wsX9_matchBothRuns wsX0_pairUp := goodIn_r _ [53, 54, 55, 56, 57, 58, 59, 60, 52, 61, 62, 63, 64, 29, 15, 30, 65, 66, 67, 68, 69, 70, 71, 72, 73, 74, 75, 76, 77, 88, 89, 90, 91, 92, 93, 94, 95, 96, 97, 98, 99, 103, 104, 105, 106, 107] (by decide +kernel) (by decide +kernel)
set_option maxRecDepth 20000 in
theorem gX9_matchBothRuns_X0_pairUp : GoodIn wsX9_matchBothRuns (wsV RX9 165 RX0 yX0_pairUp wsX0_pairUp) := goodIn_app (goodIn_of _ (by decide +kernel)) ggX9_matchBothRuns_X0_pairUp
set_option maxRecDepth 20000 in
theorem ggX9_twinOf_X9_matchBothRuns : GoodIn wsX9_twinOf wsX9_matchBothRuns := goodIn_r _ [12, 2, 1, 7, 13, 14, 15, 16, 17, 18, 19, 20, 21, 22, 23, 24, 25, 26, 27, 28, 29, 30, 31, 32, 33, 34, 35, 36, 37, 38, 39, 40, 41, 42, 43, 44, 45, 46, 47, 48, 49, 50, 51, 11, 52, 53, 54, 55, 56, 57, 58, 59, 60, 61, 62, 63, 64, 65, 66, 67, 68, 69, 70, 71, 72, 73, 74, 75, 76, 77, 78, 79, 80, 81, 82, 83, 84, 85, 152, 153, 154, 155, 156, 157, 158, 159, 160, 161, 162, 163, 164, 165, 166, 167, 168, 169, 170, 171, 172, 173, 182, 183, 184, 185, 186, 187, 188, 189] (by decide +kernel) (by decide +kernel)
set_option maxRecDepth 20000 in
theorem gX9_twinOf_X9_matchBothRuns : GoodIn wsX9_twinOf (wsV RX9 201 RX9 yX9_matchBothRuns wsX9_matchBothRuns) := goodIn_app (goodIn_of _ (by decide +kernel)) ggX9_twinOf_X9_matchBothRuns
set_option maxRecDepth 20000 in
theorem ggX9_twinOf_X6_feltAt : GoodIn wsX9_twinOf wsX6_feltAt := goodIn_r _ [89, 28, 31, 32, 162, 163, 164, 165, 166, 167, 168, 169, 170, 171, 172, 173] (by decide +kernel) (by decide +kernel)
set_option maxRecDepth 20000 in
theorem gX9_twinOf_X6_feltAt : GoodIn wsX9_twinOf (wsV RX9 285 RX6 yX6_feltAt wsX6_feltAt) := goodIn_app (goodIn_of _ (by decide +kernel)) ggX9_twinOf_X6_feltAt
set_option maxRecDepth 20000 in
theorem ggX9_twinOf_X0_jointPairedWith : GoodIn wsX9_twinOf wsX0_jointPairedWith := goodIn_r _ [93, 63, 65, 185, 186, 187, 188, 189, 162, 163, 164, 165, 166, 167, 168, 169, 170, 171, 172, 173] (by decide +kernel) (by decide +kernel)
set_option maxRecDepth 20000 in
theorem gX9_twinOf_X0_jointPairedWith : GoodIn wsX9_twinOf (wsV RX9 288 RX0 yX0_jointPairedWith wsX0_jointPairedWith) := goodIn_app (goodIn_of _ (by decide +kernel)) ggX9_twinOf_X0_jointPairedWith
set_option maxRecDepth 20000 in
theorem ggX9_twinOf_X4_leastCost : GoodIn wsX9_twinOf wsX4_leastCost := goodIn_r _ [98, 99, 100, 101, 102, 103, 104, 105, 106, 107, 108, 109, 110, 111, 112, 113, 114, 115, 116, 117, 118, 119, 87, 88, 16, 89, 28, 31, 32, 120, 121, 122, 123, 124, 125, 126, 127, 128, 129, 97, 130, 131, 38, 24, 39, 132, 133, 134, 135, 136, 137, 80, 81, 138, 139, 11, 140, 141, 142, 190, 191, 192, 193, 194, 195, 196, 197, 162, 163, 164, 165, 166, 167, 168, 169, 170, 171, 172, 173, 174, 175, 176, 177, 178, 179, 180, 181] (by decide +kernel) (by decide +kernel)
set_option maxRecDepth 20000 in
theorem gX9_twinOf_X4_leastCost : GoodIn wsX9_twinOf (wsV RX9 204 RX4 yX4_leastCost wsX4_leastCost) := goodIn_app (goodIn_of _ (by decide +kernel)) ggX9_twinOf_X4_leastCost
set_option maxRecDepth 20000 in
theorem ggX9_twinOf_X4_otherOf : GoodIn wsX9_twinOf wsX4_otherOf := goodIn_r _ [146, 99, 101, 147, 100, 148, 149, 150, 97, 151, 102, 132, 133, 134, 135, 136, 137, 80, 24, 81, 138, 139, 11, 140, 141, 142, 38, 39, 190, 191, 192, 193, 194, 195, 196, 197] (by decide +kernel) (by decide +kernel)
set_option maxRecDepth 20000 in
theorem gX9_twinOf_X4_otherOf : GoodIn wsX9_twinOf (wsV RX9 292 RX4 yX4_otherOf wsX4_otherOf) := goodIn_app (goodIn_of _ (by decide +kernel)) ggX9_twinOf_X4_otherOf
set_option maxRecDepth 20000 in
theorem ggX9_digestOfRun_X6_feel : GoodIn wsX9_digestOfRun wsX6_feel := goodIn_r _ [13, 14, 15, 16, 17, 18, 19, 20, 21, 22, 23, 24, 25, 26, 27, 28, 29, 30, 31, 12, 32, 33, 34, 35, 36, 37, 38, 39, 40, 41, 42, 43, 44, 45, 46, 47, 48, 49, 50, 51, 52, 53, 122, 123, 124, 125, 126, 127, 128, 129, 130, 131, 132, 133, 152, 153, 154] (by decide +kernel) (by decide +kernel)
set_option maxRecDepth 20000 in
theorem gX9_digestOfRun_X6_feel : GoodIn wsX9_digestOfRun (wsV RX9 125 RX6 yX6_feel wsX6_feel) := goodIn_app (goodIn_of _ (by decide +kernel)) ggX9_digestOfRun_X6_feel
set_option maxRecDepth 20000 in
theorem ggX9_digestOfRun_X6_fact : GoodIn wsX9_digestOfRun wsX6_fact := goodIn_r _ [57, 22, 23, 25, 24, 122, 123, 124, 125, 126, 127, 128, 129, 130, 131, 132, 133] (by decide +kernel) (by decide +kernel)
set_option maxRecDepth 20000 in
theorem gX9_digestOfRun_X6_fact : GoodIn wsX9_digestOfRun (wsV RX9 128 RX6 yX6_fact wsX6_fact) := goodIn_app (goodIn_of _ (by decide +kernel)) ggX9_digestOfRun_X6_fact
set_option maxRecDepth 20000 in
theorem ggX9_digestOfRun_X0_leastCost : GoodIn wsX9_digestOfRun wsX0_leastCost := goodIn_r _ [62, 63, 64, 65, 66, 67, 68, 34, 20, 35, 69, 70, 71, 61, 72, 73, 74, 75, 76, 77, 122, 123, 124, 125, 126, 127, 128, 129, 130, 131, 132, 133, 155, 156, 157, 158, 159] (by decide +kernel) (by decide +kernel)
set_option maxRecDepth 20000 in
theorem gX9_digestOfRun_X0_leastCost : GoodIn wsX9_digestOfRun (wsV RX9 158 RX0 yX0_leastCost wsX0_leastCost) := goodIn_app (goodIn_of _ (by decide +kernel)) ggX9_digestOfRun_X0_leastCost
set_option maxRecDepth 20000 in
theorem ggX9_digestOfRun_X3_putTogether : GoodIn wsX9_digestOfRun wsX3_putTogether := goodIn_r _ [82, 83, 84, 85, 86, 87, 88, 81, 89, 90, 91, 92, 93, 94, 95, 96, 19, 20, 21, 97, 98, 99, 100, 101, 102, 103, 48, 104, 105, 76, 77, 106, 34, 35, 144, 145, 146, 147, 148, 149, 150, 151] (by decide +kernel) (by decide +kernel)
set_option maxRecDepth 20000 in
theorem gX9_digestOfRun_X3_putTogether : GoodIn wsX9_digestOfRun (wsV RX9 186 RX3 yX3_putTogether wsX3_putTogether) := goodIn_app (goodIn_of _ (by decide +kernel)) ggX9_digestOfRun_X3_putTogether
set_option maxRecDepth 20000 in
theorem ggX9_digestOfRun_X6_markFact : GoodIn wsX9_digestOfRun wsX6_markFact := goodIn_r _ [110, 111, 112, 113, 114, 115, 12, 116, 24, 27, 28, 117, 118, 119, 81, 120, 95, 97, 121, 102, 85, 122, 123, 124, 125, 126, 127, 128, 129, 130, 131, 132, 133, 144, 145, 146, 147, 148, 149, 150, 151] (by decide +kernel) (by decide +kernel)
set_option maxRecDepth 20000 in
theorem gX9_digestOfRun_X6_markFact : GoodIn wsX9_digestOfRun (wsV RX9 189 RX6 yX6_markFact wsX6_markFact) := goodIn_app (goodIn_of _ (by decide +kernel)) ggX9_digestOfRun_X6_markFact
set_option maxRecDepth 20000 in
theorem ggX10_isReel_X10_in : GoodIn wsX10_isReel wsX10_in := goodIn_r _ [4] (by decide +kernel) (by decide +kernel)
set_option maxRecDepth 20000 in
theorem gX10_isReel_X10_in : GoodIn wsX10_isReel (va_wsS RX10 120 yX10_in wsX10_in) := goodIn_app (goodIn_of _ (by decide +kernel)) ggX10_isReel_X10_in
set_option maxRecDepth 20000 in
theorem ggX10_reel_X10_isReel : GoodIn wsX10_reel wsX10_isReel := goodIn_r _ [8, 9, 10, 7, 11] (by decide +kernel) (by decide +kernel)
set_option maxRecDepth 20000 in
theorem gX10_reel_X10_isReel : GoodIn wsX10_reel (va_wsS RX10 124 yX10_isReel wsX10_isReel) := goodIn_app (goodIn_of _ (by decide +kernel)) ggX10_reel_X10_isReel
set_option maxRecDepth 20000 in
theorem ggX10_reel_X10_in : GoodIn wsX10_reel wsX10_in := goodIn_r _ [11] (by decide +kernel) (by decide +kernel)
set_option maxRecDepth 20000 in
theorem gX10_reel_X10_in : GoodIn wsX10_reel (va_wsS RX10 120 yX10_in wsX10_in) := goodIn_app (goodIn_of _ (by decide +kernel)) ggX10_reel_X10_in
set_option maxRecDepth 20000 in
theorem ggX10_reel_X10_meets : GoodIn wsX10_reel wsX10_meets := goodIn_r _ [15, 16, 17, 18, 19, 20, 21, 22, 23, 24, 25, 26, 27, 28, 29, 30, 31, 32, 33, 34, 35, 36, 37, 38, 39, 40, 41, 42, 43, 44, 45, 46, 47, 48, 49, 50, 51, 52, 53, 54, 55, 56, 57, 58, 59] (by decide +kernel) (by decide +kernel)
set_option maxRecDepth 20000 in
theorem gX10_reel_X10_meets : GoodIn wsX10_reel (wsV RX10 128 RX10 yX10_meets wsX10_meets) := goodIn_app (goodIn_of _ (by decide +kernel)) ggX10_reel_X10_meets
set_option maxRecDepth 20000 in
theorem ggX10_lose_X10_isReel : GoodIn wsX10_lose wsX10_isReel := goodIn_r _ [6, 7, 8, 5, 9] (by decide +kernel) (by decide +kernel)
set_option maxRecDepth 20000 in
theorem gX10_lose_X10_isReel : GoodIn wsX10_lose (va_wsS RX10 124 yX10_isReel wsX10_isReel) := goodIn_app (goodIn_of _ (by decide +kernel)) ggX10_lose_X10_isReel
set_option maxRecDepth 20000 in
theorem ggX10_lose_X10_meets : GoodIn wsX10_lose wsX10_meets := goodIn_r _ [13, 14, 15, 16, 17, 18, 19, 20, 21, 22, 23, 24, 25, 26, 27, 28, 29, 30, 31, 32, 33, 34, 35, 36, 37, 38, 39, 40, 41, 42, 43, 44, 45, 46, 47, 48, 49, 50, 51, 52, 53, 54, 55, 56, 57] (by decide +kernel) (by decide +kernel)
set_option maxRecDepth 20000 in
theorem gX10_lose_X10_meets : GoodIn wsX10_lose (wsV RX10 128 RX10 yX10_meets wsX10_meets) := goodIn_app (goodIn_of _ (by decide +kernel)) ggX10_lose_X10_meets
set_option maxRecDepth 20000 in
theorem ggX10_lacks_X10_in : GoodIn wsX10_lacks wsX10_in := goodIn_r _ [7] (by decide +kernel) (by decide +kernel)
set_option maxRecDepth 20000 in
theorem gX10_lacks_X10_in : GoodIn wsX10_lacks (va_wsS RX10 120 yX10_in wsX10_in) := goodIn_app (goodIn_of _ (by decide +kernel)) ggX10_lacks_X10_in
set_option maxRecDepth 20000 in
theorem ggX10_put_X10_isReel : GoodIn wsX10_put wsX10_isReel := goodIn_r _ [5, 6, 7, 4, 8] (by decide +kernel) (by decide +kernel)
set_option maxRecDepth 20000 in
theorem gX10_put_X10_isReel : GoodIn wsX10_put (va_wsS RX10 124 yX10_isReel wsX10_isReel) := goodIn_app (goodIn_of _ (by decide +kernel)) ggX10_put_X10_isReel
set_option maxRecDepth 20000 in
theorem ggX10_put_X10_in : GoodIn wsX10_put wsX10_in := goodIn_r _ [8] (by decide +kernel) (by decide +kernel)
set_option maxRecDepth 20000 in
theorem gX10_put_X10_in : GoodIn wsX10_put (va_wsS RX10 120 yX10_in wsX10_in) := goodIn_app (goodIn_of _ (by decide +kernel)) ggX10_put_X10_in
set_option maxRecDepth 20000 in
theorem ggX10_put_X10_lacks : GoodIn wsX10_put wsX10_lacks := goodIn_r _ [12, 13, 14, 15, 6, 7, 4, 8, 21, 22, 23, 24, 25, 26, 27, 28, 29, 30, 31, 32, 33, 34, 35, 36, 37, 38, 39, 40, 41, 42, 43, 44, 45, 46, 47, 48, 49, 50, 51, 52, 53, 54, 55, 56, 57, 58, 59, 60, 61, 62, 63] (by decide +kernel) (by decide +kernel)
set_option maxRecDepth 20000 in
theorem gX10_put_X10_lacks : GoodIn wsX10_put (wsV RX10 132 RX10 yX10_lacks wsX10_lacks) := goodIn_app (goodIn_of _ (by decide +kernel)) ggX10_put_X10_lacks
set_option maxRecDepth 20000 in
theorem ggX10_put_X10_meets : GoodIn wsX10_put wsX10_meets := goodIn_r _ [19, 20, 21, 22, 23, 24, 25, 26, 27, 28, 29, 30, 31, 32, 33, 34, 35, 36, 37, 38, 39, 40, 41, 42, 43, 44, 45, 46, 47, 48, 49, 50, 51, 52, 53, 54, 55, 56, 57, 58, 59, 60, 61, 62, 63] (by decide +kernel) (by decide +kernel)
set_option maxRecDepth 20000 in
theorem gX10_put_X10_meets : GoodIn wsX10_put (wsV RX10 128 RX10 yX10_meets wsX10_meets) := goodIn_app (goodIn_of _ (by decide +kernel)) ggX10_put_X10_meets
set_option maxRecDepth 20000 in
theorem ggX10_get_X10_isReel : GoodIn wsX10_get wsX10_isReel := goodIn_r _ [7, 8, 9, 6, 10] (by decide +kernel) (by decide +kernel)
set_option maxRecDepth 20000 in
theorem gX10_get_X10_isReel : GoodIn wsX10_get (va_wsS RX10 124 yX10_isReel wsX10_isReel) := goodIn_app (goodIn_of _ (by decide +kernel)) ggX10_get_X10_isReel
set_option maxRecDepth 20000 in
theorem ggX10_get_X10_in : GoodIn wsX10_get wsX10_in := goodIn_r _ [10] (by decide +kernel) (by decide +kernel)
set_option maxRecDepth 20000 in
theorem gX10_get_X10_in : GoodIn wsX10_get (va_wsS RX10 120 yX10_in wsX10_in) := goodIn_app (goodIn_of _ (by decide +kernel)) ggX10_get_X10_in
set_option maxRecDepth 20000 in
theorem ggX10_get_X10_lacks : GoodIn wsX10_get wsX10_lacks := goodIn_r _ [14, 15, 16, 17, 8, 9, 6, 10, 18, 19, 20, 21, 22, 23, 24, 25, 26, 27, 28, 29, 30, 31, 32, 33, 34, 35, 36, 37, 38, 39, 40, 41, 42, 43, 44, 45, 46, 47, 48, 49, 50, 51, 52, 53, 54, 55, 56, 57, 58, 59, 60] (by decide +kernel) (by decide +kernel)
set_option maxRecDepth 20000 in
theorem gX10_get_X10_lacks : GoodIn wsX10_get (wsV RX10 132 RX10 yX10_lacks wsX10_lacks) := goodIn_app (goodIn_of _ (by decide +kernel)) ggX10_get_X10_lacks
set_option maxRecDepth 20000 in
theorem ggX10_copy_X10_isReel : GoodIn wsX10_copy wsX10_isReel := goodIn_r _ [9, 10, 11, 8, 12] (by decide +kernel) (by decide +kernel)
set_option maxRecDepth 20000 in
theorem gX10_copy_X10_isReel : GoodIn wsX10_copy (va_wsS RX10 124 yX10_isReel wsX10_isReel) := goodIn_app (goodIn_of _ (by decide +kernel)) ggX10_copy_X10_isReel
set_option maxRecDepth 20000 in
theorem ggX10_copy_X10_meets : GoodIn wsX10_copy wsX10_meets := goodIn_r _ [16, 17, 18, 19, 20, 21, 22, 23, 24, 25, 26, 27, 28, 29, 30, 31, 32, 33, 34, 35, 36, 37, 38, 39, 40, 41, 42, 43, 44, 45, 46, 47, 48, 49, 50, 51, 52, 53, 54, 55, 56, 57, 58, 59, 60] (by decide +kernel) (by decide +kernel)
set_option maxRecDepth 20000 in
theorem gX10_copy_X10_meets : GoodIn wsX10_copy (wsV RX10 128 RX10 yX10_meets wsX10_meets) := goodIn_app (goodIn_of _ (by decide +kernel)) ggX10_copy_X10_meets
set_option maxRecDepth 20000 in
theorem ggX10_isRun_X10_in : GoodIn wsX10_isRun wsX10_in := goodIn_r _ [4] (by decide +kernel) (by decide +kernel)
set_option maxRecDepth 20000 in
theorem gX10_isRun_X10_in : GoodIn wsX10_isRun (va_wsS RX10 120 yX10_in wsX10_in) := goodIn_app (goodIn_of _ (by decide +kernel)) ggX10_isRun_X10_in
set_option maxRecDepth 20000 in
theorem ggX10_reading_X10_in : GoodIn wsX10_reading wsX10_in := goodIn_r _ [7] (by decide +kernel) (by decide +kernel)
set_option maxRecDepth 20000 in
theorem gX10_reading_X10_in : GoodIn wsX10_reading (va_wsS RX10 120 yX10_in wsX10_in) := goodIn_app (goodIn_of _ (by decide +kernel)) ggX10_reading_X10_in
set_option maxRecDepth 20000 in
theorem ggX10_goThrough_X10_reading : GoodIn wsX10_goThrough wsX10_reading := goodIn_r _ [14, 4, 5, 7, 15, 16, 13, 17, 21, 22, 23, 24, 25, 26, 27, 28, 29, 30, 31, 32, 33, 34, 35, 36, 37, 38, 39, 40, 41, 42, 43, 44, 45, 46, 47, 48, 49, 50, 51, 52, 53, 54, 55, 56, 57, 58, 59, 60, 61, 62, 63] (by decide +kernel) (by decide +kernel)
set_option maxRecDepth 20000 in
theorem gX10_goThrough_X10_reading : GoodIn wsX10_goThrough (wsV RX10 146 RX10 yX10_reading wsX10_reading) := goodIn_app (goodIn_of _ (by decide +kernel)) ggX10_goThrough_X10_reading
set_option maxRecDepth 20000 in
theorem ggX10_goThrough_X10_middle : GoodIn wsX10_goThrough wsX10_middle := goodIn_r _ [20] (by decide +kernel) (by decide +kernel)
set_option maxRecDepth 20000 in
theorem gX10_goThrough_X10_middle : GoodIn wsX10_goThrough (va_wsS RX10 150 yX10_middle wsX10_middle) := goodIn_app (goodIn_of _ (by decide +kernel)) ggX10_goThrough_X10_middle
set_option maxRecDepth 20000 in
theorem ggX10_run_X10_isRun : GoodIn wsX10_run wsX10_isRun := goodIn_r _ [8, 9, 10, 7, 11] (by decide +kernel) (by decide +kernel)
set_option maxRecDepth 20000 in
theorem gX10_run_X10_isRun : GoodIn wsX10_run (va_wsS RX10 153 yX10_isRun wsX10_isRun) := goodIn_app (goodIn_of _ (by decide +kernel)) ggX10_run_X10_isRun
set_option maxRecDepth 20000 in
theorem ggX10_run_X10_goThrough : GoodIn wsX10_run wsX10_goThrough := goodIn_r _ [15, 1, 2, 4, 16, 17, 3, 18, 19, 20, 21, 22, 23, 7, 24, 9, 10, 11, 25, 26, 27, 28, 29, 30, 31, 32, 33, 34, 35, 36, 37, 38, 39, 40, 41, 42, 43, 44, 45, 46, 47, 48, 49, 50, 51, 52, 53, 54, 55, 56, 57, 58, 59, 60, 61, 62, 63, 64, 65, 66, 67, 68, 69, 70] (by decide +kernel) (by decide +kernel)
set_option maxRecDepth 20000 in
theorem gX10_run_X10_goThrough : GoodIn wsX10_run (wsV RX10 156 RX10 yX10_goThrough wsX10_goThrough) := goodIn_app (goodIn_of _ (by decide +kernel)) ggX10_run_X10_goThrough
set_option maxRecDepth 20000 in
theorem ggX10_way_X10_isRun : GoodIn wsX10_way wsX10_isRun := goodIn_r _ [6, 7, 8, 5, 9] (by decide +kernel) (by decide +kernel)
set_option maxRecDepth 20000 in
theorem gX10_way_X10_isRun : GoodIn wsX10_way (va_wsS RX10 153 yX10_isRun wsX10_isRun) := goodIn_app (goodIn_of _ (by decide +kernel)) ggX10_way_X10_isRun
set_option maxRecDepth 20000 in
theorem ggX10_way_X10_goThrough : GoodIn wsX10_way wsX10_goThrough := goodIn_r _ [13, 1, 14, 15, 16, 17, 2, 18, 19, 20, 21, 22, 23, 5, 24, 7, 8, 9, 25, 26, 27, 28, 29, 30, 31, 32, 33, 34, 35, 36, 37, 38, 39, 40, 41, 42, 43, 44, 45, 46, 47, 48, 49, 50, 51, 52, 53, 54, 55, 56, 57, 58, 59, 60, 61, 62, 63, 64, 65, 66, 67, 68, 69, 70] (by decide +kernel) (by decide +kernel)
set_option maxRecDepth 20000 in
theorem gX10_way_X10_goThrough : GoodIn wsX10_way (wsV RX10 156 RX10 yX10_goThrough wsX10_goThrough) := goodIn_app (goodIn_of _ (by decide +kernel)) ggX10_way_X10_goThrough
set_option maxRecDepth 20000 in
theorem ggX10_way_X10_in : GoodIn wsX10_way wsX10_in := goodIn_r _ [9] (by decide +kernel) (by decide +kernel)
set_option maxRecDepth 20000 in
theorem gX10_way_X10_in : GoodIn wsX10_way (va_wsS RX10 120 yX10_in wsX10_in) := goodIn_app (goodIn_of _ (by decide +kernel)) ggX10_way_X10_in
set_option maxRecDepth 20000 in
theorem ggX10_felt_X10_isRun : GoodIn wsX10_felt wsX10_isRun := goodIn_r _ [7, 8, 9, 6, 10] (by decide +kernel) (by decide +kernel)
set_option maxRecDepth 20000 in
theorem gX10_felt_X10_isRun : GoodIn wsX10_felt (va_wsS RX10 153 yX10_isRun wsX10_isRun) := goodIn_app (goodIn_of _ (by decide +kernel)) ggX10_felt_X10_isRun
set_option maxRecDepth 20000 in
theorem ggX10_felt_X10_in : GoodIn wsX10_felt wsX10_in := goodIn_r _ [10] (by decide +kernel) (by decide +kernel)
set_option maxRecDepth 20000 in
theorem gX10_felt_X10_in : GoodIn wsX10_felt (va_wsS RX10 120 yX10_in wsX10_in) := goodIn_app (goodIn_of _ (by decide +kernel)) ggX10_felt_X10_in
set_option maxRecDepth 20000 in
theorem ggX10_felt_X10_goThrough : GoodIn wsX10_felt wsX10_goThrough := goodIn_r _ [14, 15, 16, 1, 17, 18, 19, 20, 2, 3, 21, 22, 23, 6, 24, 8, 9, 10, 25, 26, 27, 28, 29, 30, 31, 32, 33, 34, 35, 36, 37, 38, 39, 40, 41, 42, 43, 44, 45, 46, 47, 48, 49, 50, 51, 52, 53, 54, 55, 56, 57, 58, 59, 60, 61, 62, 63, 64, 65, 66, 67, 68, 69, 70] (by decide +kernel) (by decide +kernel)
set_option maxRecDepth 20000 in
theorem gX10_felt_X10_goThrough : GoodIn wsX10_felt (wsV RX10 156 RX10 yX10_goThrough wsX10_goThrough) := goodIn_app (goodIn_of _ (by decide +kernel)) ggX10_felt_X10_goThrough
set_option maxRecDepth 20000 in
theorem ggX10_joint_X10_in : GoodIn wsX10_joint wsX10_in := goodIn_r _ [7] (by decide +kernel) (by decide +kernel)
set_option maxRecDepth 20000 in
theorem gX10_joint_X10_in : GoodIn wsX10_joint (va_wsS RX10 120 yX10_in wsX10_in) := goodIn_app (goodIn_of _ (by decide +kernel)) ggX10_joint_X10_in
set_option maxRecDepth 20000 in
theorem ggX10_costs_X10_in : GoodIn wsX10_costs wsX10_in := goodIn_r _ [7] (by decide +kernel) (by decide +kernel)
set_option maxRecDepth 20000 in
theorem gX10_costs_X10_in : GoodIn wsX10_costs (va_wsS RX10 120 yX10_in wsX10_in) := goodIn_app (goodIn_of _ (by decide +kernel)) ggX10_costs_X10_in
set_option maxRecDepth 20000 in
theorem ggX10_pairCost_X10_apart : GoodIn wsX10_pairCost wsX10_apart := goodIn_r _ [7] (by decide +kernel) (by decide +kernel)
set_option maxRecDepth 20000 in
theorem gX10_pairCost_X10_apart : GoodIn wsX10_pairCost (va_wsS RX10 165 yX10_apart wsX10_apart) := goodIn_app (goodIn_of _ (by decide +kernel)) ggX10_pairCost_X10_apart
set_option maxRecDepth 20000 in
theorem ggX10_matches_X10_goThrough : GoodIn wsX10_matches wsX10_goThrough := goodIn_r _ [12, 13, 14, 2, 15, 16, 17, 18, 19, 20, 21, 22, 23, 11, 24, 25, 26, 27, 28, 29, 30, 39, 40, 41, 42, 43, 44, 45, 46, 47, 48, 49, 50, 51, 52, 53, 54, 55, 56, 57, 58, 59, 60, 61, 62, 63, 64, 65, 66, 67, 68, 69, 70, 71, 72, 73, 74, 75, 76, 77, 78, 79, 80, 81] (by decide +kernel) (by decide +kernel)
set_option maxRecDepth 20000 in
theorem gX10_matches_X10_goThrough : GoodIn wsX10_matches (wsV RX10 156 RX10 yX10_goThrough wsX10_goThrough) := goodIn_app (goodIn_of _ (by decide +kernel)) ggX10_matches_X10_goThrough
set_option maxRecDepth 20000 in
theorem ggX10_matches_X10_pairCost : GoodIn wsX10_matches wsX10_pairCost := goodIn_r _ [34, 4, 35, 20, 36, 37, 11, 38, 39, 40, 41, 42, 43, 44, 45, 46, 47, 48, 49, 50, 51, 52, 53, 54, 55, 56, 57, 58, 59, 60, 61, 62, 63, 64, 65, 66, 67, 68, 69, 70, 71, 72, 73, 74, 75, 76, 77, 78, 79, 80, 81] (by decide +kernel) (by decide +kernel)
set_option maxRecDepth 20000 in
theorem gX10_matches_X10_pairCost : GoodIn wsX10_matches (wsV RX10 169 RX10 yX10_pairCost wsX10_pairCost) := goodIn_app (goodIn_of _ (by decide +kernel)) ggX10_matches_X10_pairCost
set_option maxRecDepth 20000 in
theorem ggX10_match_X10_isRun : GoodIn wsX10_match wsX10_isRun := goodIn_r _ [7, 8, 9, 6, 10] (by decide +kernel) (by decide +kernel)
set_option maxRecDepth 20000 in
theorem gX10_match_X10_isRun : GoodIn wsX10_match (va_wsS RX10 153 yX10_isRun wsX10_isRun) := goodIn_app (goodIn_of _ (by decide +kernel)) ggX10_match_X10_isRun
set_option maxRecDepth 20000 in
theorem ggX10_match_X10_matches : GoodIn wsX10_match wsX10_matches := goodIn_r _ [14, 2, 3, 15, 1, 16, 17, 18, 19, 20, 21, 6, 22, 23, 24, 25, 26, 27, 28, 29, 30, 31, 32, 33, 34, 8, 9, 10, 35, 36, 37, 38, 39, 40, 41, 42, 43, 44, 45, 46, 47, 48, 49, 50, 51, 52, 53, 54, 55, 56, 57, 58, 59, 60, 61, 62, 63, 64, 65, 66, 67, 68, 69, 70, 71, 72, 73, 74, 75, 76, 77, 78, 79, 80, 81, 82, 83, 84, 85, 86, 87, 88] (by decide +kernel) (by decide +kernel)
set_option maxRecDepth 20000 in
theorem gX10_match_X10_matches : GoodIn wsX10_match (wsV RX10 172 RX10 yX10_matches wsX10_matches) := goodIn_app (goodIn_of _ (by decide +kernel)) ggX10_match_X10_matches
set_option maxRecDepth 20000 in
theorem ggX10_paired_X10_isRun : GoodIn wsX10_paired wsX10_isRun := goodIn_r _ [6, 7, 8, 5, 9] (by decide +kernel) (by decide +kernel)
set_option maxRecDepth 20000 in
theorem gX10_paired_X10_isRun : GoodIn wsX10_paired (va_wsS RX10 153 yX10_isRun wsX10_isRun) := goodIn_app (goodIn_of _ (by decide +kernel)) ggX10_paired_X10_isRun
set_option maxRecDepth 20000 in
theorem ggX10_paired_X10_in : GoodIn wsX10_paired wsX10_in := goodIn_r _ [9] (by decide +kernel) (by decide +kernel)
set_option maxRecDepth 20000 in
theorem gX10_paired_X10_in : GoodIn wsX10_paired (va_wsS RX10 120 yX10_in wsX10_in) := goodIn_app (goodIn_of _ (by decide +kernel)) ggX10_paired_X10_in
set_option maxRecDepth 20000 in
theorem ggX10_paired_X10_matches : GoodIn wsX10_paired wsX10_matches := goodIn_r _ [13, 1, 14, 15, 16, 17, 18, 2, 19, 20, 21, 5, 22, 23, 24, 25, 26, 27, 28, 29, 30, 31, 32, 33, 34, 7, 8, 9, 35, 36, 37, 38, 39, 40, 41, 42, 43, 44, 45, 46, 47, 48, 49, 50, 51, 52, 53, 54, 55, 56, 57, 58, 59, 60, 61, 62, 63, 64, 65, 66, 67, 68, 69, 70, 71, 72, 73, 74, 75, 76, 77, 78, 79, 80, 81, 82, 83, 84, 85, 86, 87, 88] (by decide +kernel) (by decide +kernel)
set_option maxRecDepth 20000 in
theorem gX10_paired_X10_matches : GoodIn wsX10_paired (wsV RX10 172 RX10 yX10_matches wsX10_matches) := goodIn_app (goodIn_of _ (by decide +kernel)) ggX10_paired_X10_matches
set_option maxRecDepth 20000 in
theorem ggX10_isMark_X10_isRun : GoodIn wsX10_isMark wsX10_isRun := goodIn_r _ [5, 6, 7, 4, 8] (by decide +kernel) (by decide +kernel)
set_option maxRecDepth 20000 in
theorem gX10_isMark_X10_isRun : GoodIn wsX10_isMark (va_wsS RX10 153 yX10_isRun wsX10_isRun) := goodIn_app (goodIn_of _ (by decide +kernel)) ggX10_isMark_X10_isRun
set_option maxRecDepth 20000 in
theorem ggX10_isMark_X10_in : GoodIn wsX10_isMark wsX10_in := goodIn_r _ [8] (by decide +kernel) (by decide +kernel)
set_option maxRecDepth 20000 in
theorem gX10_isMark_X10_in : GoodIn wsX10_isMark (va_wsS RX10 120 yX10_in wsX10_in) := goodIn_app (goodIn_of _ (by decide +kernel)) ggX10_isMark_X10_in
set_option maxRecDepth 20000 in
theorem ggX10_mark_X10_isRun : GoodIn wsX10_mark wsX10_isRun := goodIn_r _ [10, 11, 12, 9, 13] (by decide +kernel) (by decide +kernel)
set_option maxRecDepth 20000 in
theorem gX10_mark_X10_isRun : GoodIn wsX10_mark (va_wsS RX10 153 yX10_isRun wsX10_isRun) := goodIn_app (goodIn_of _ (by decide +kernel)) ggX10_mark_X10_isRun
set_option maxRecDepth 20000 in
theorem ggX10_mark_X10_in : GoodIn wsX10_mark wsX10_in := goodIn_r _ [13] (by decide +kernel) (by decide +kernel)
set_option maxRecDepth 20000 in
theorem gX10_mark_X10_in : GoodIn wsX10_mark (va_wsS RX10 120 yX10_in wsX10_in) := goodIn_app (goodIn_of _ (by decide +kernel)) ggX10_mark_X10_in
set_option maxRecDepth 20000 in
theorem ggX10_clear_X10_isRun : GoodIn wsX10_clear wsX10_isRun := goodIn_r _ [5, 6, 7, 4, 8] (by decide +kernel) (by decide +kernel)
set_option maxRecDepth 20000 in
theorem gX10_clear_X10_isRun : GoodIn wsX10_clear (va_wsS RX10 153 yX10_isRun wsX10_isRun) := goodIn_app (goodIn_of _ (by decide +kernel)) ggX10_clear_X10_isRun
set_option maxRecDepth 20000 in
theorem ggX10_jointAt_X10_in : GoodIn wsX10_jointAt wsX10_in := goodIn_r _ [7] (by decide +kernel) (by decide +kernel)
set_option maxRecDepth 20000 in
theorem gX10_jointAt_X10_in : GoodIn wsX10_jointAt (va_wsS RX10 120 yX10_in wsX10_in) := goodIn_app (goodIn_of _ (by decide +kernel)) ggX10_jointAt_X10_in
set_option maxRecDepth 20000 in
theorem ggX10_hours_X10_apart : GoodIn wsX10_hours wsX10_apart := goodIn_r _ [4] (by decide +kernel) (by decide +kernel)
set_option maxRecDepth 20000 in
theorem gX10_hours_X10_apart : GoodIn wsX10_hours (va_wsS RX10 165 yX10_apart wsX10_apart) := goodIn_app (goodIn_of _ (by decide +kernel)) ggX10_hours_X10_apart
set_option maxRecDepth 20000 in
theorem ggX10_areNear_X10_hours : GoodIn wsX10_areNear wsX10_hours := goodIn_r _ [9, 10, 11, 8, 12] (by decide +kernel) (by decide +kernel)
set_option maxRecDepth 20000 in
theorem gX10_areNear_X10_hours : GoodIn wsX10_areNear (va_wsS RX10 176 yX10_hours wsX10_hours) := goodIn_app (goodIn_of _ (by decide +kernel)) ggX10_areNear_X10_hours
set_option maxRecDepth 20000 in
theorem ggX10_joinMarks_X10_areNear : GoodIn wsX10_joinMarks wsX10_areNear := goodIn_r _ [8, 9, 10, 11, 12, 13, 14, 15, 7, 16, 17, 18, 19, 20, 21, 22, 23, 24, 25, 26, 27, 28, 29, 30, 31, 32, 33, 34, 35, 36, 37, 38, 39, 40, 41, 42, 43, 44, 45, 46, 47, 48, 49, 50, 51, 52, 53, 54, 55, 56, 57, 58, 59, 60, 61, 62] (by decide +kernel) (by decide +kernel)
set_option maxRecDepth 20000 in
theorem gX10_joinMarks_X10_areNear : GoodIn wsX10_joinMarks (wsV RX10 182 RX10 yX10_areNear wsX10_areNear) := goodIn_app (goodIn_of _ (by decide +kernel)) ggX10_joinMarks_X10_areNear
set_option maxRecDepth 20000 in
theorem ggX10_about_X10_isMark : GoodIn wsX10_about wsX10_isMark := goodIn_r _ [10, 11, 12, 13, 9, 14, 15, 16, 17, 59, 60, 61, 62, 63, 64, 65, 66, 67, 68, 69, 70, 71, 72, 73, 74, 75, 76, 77, 78, 79, 80, 81, 82, 83, 84, 85, 86, 87, 88, 89, 90, 91, 92, 93, 94, 95, 96, 97, 98, 99, 100, 101] (by decide +kernel) (by decide +kernel)
set_option maxRecDepth 20000 in
theorem gX10_about_X10_isMark : GoodIn wsX10_about (wsV RX10 186 RX10 yX10_isMark wsX10_isMark) := goodIn_app (goodIn_of _ (by decide +kernel)) ggX10_about_X10_isMark
set_option maxRecDepth 20000 in
theorem ggX10_about_X10_goThrough : GoodIn wsX10_about wsX10_goThrough := goodIn_r _ [21, 22, 23, 24, 25, 26, 27, 28, 29, 30, 31, 32, 33, 9, 34, 15, 16, 17, 35, 36, 37, 59, 60, 61, 62, 63, 64, 65, 66, 67, 68, 69, 70, 71, 72, 73, 74, 75, 76, 77, 78, 79, 80, 81, 82, 83, 84, 85, 86, 87, 88, 89, 90, 91, 92, 93, 94, 95, 96, 97, 98, 99, 100, 101] (by decide +kernel) (by decide +kernel)
set_option maxRecDepth 20000 in
theorem gX10_about_X10_goThrough : GoodIn wsX10_about (wsV RX10 156 RX10 yX10_goThrough wsX10_goThrough) := goodIn_app (goodIn_of _ (by decide +kernel)) ggX10_about_X10_goThrough
set_option maxRecDepth 20000 in
theorem ggX10_about_X10_jointAt : GoodIn wsX10_about wsX10_jointAt := goodIn_r _ [41, 24, 29, 30, 15, 16, 9, 17, 59, 60, 61, 62, 63, 64, 65, 66, 67, 68, 69, 70, 71, 72, 73, 74, 75, 76, 77, 78, 79, 80, 81, 82, 83, 84, 85, 86, 87, 88, 89, 90, 91, 92, 93, 94, 95, 96, 97, 98, 99, 100, 101] (by decide +kernel) (by decide +kernel)
set_option maxRecDepth 20000 in
theorem gX10_about_X10_jointAt : GoodIn wsX10_about (wsV RX10 189 RX10 yX10_jointAt wsX10_jointAt) := goodIn_app (goodIn_of _ (by decide +kernel)) ggX10_about_X10_jointAt
set_option maxRecDepth 20000 in
theorem ggX10_about_X10_joinMarks : GoodIn wsX10_about wsX10_joinMarks := goodIn_r _ [45, 46, 5, 11, 47, 48, 49, 9, 50, 1, 4, 51, 2, 52, 53, 54, 55, 56, 57, 58, 59, 60, 61, 62, 63, 64, 65, 66, 67, 68, 69, 70, 71, 72, 73, 74, 75, 76, 77, 78, 79, 80, 81, 82, 83, 84, 85, 86, 87, 88, 89, 90, 91, 92, 93, 94, 95, 96, 97, 98, 99, 100, 101] (by decide +kernel) (by decide +kernel)
set_option maxRecDepth 20000 in
theorem gX10_about_X10_joinMarks : GoodIn wsX10_about (wsV RX10 192 RX10 yX10_joinMarks wsX10_joinMarks) := goodIn_app (goodIn_of _ (by decide +kernel)) ggX10_about_X10_joinMarks
set_option maxRecDepth 20000 in
theorem ggX10_near_X10_in : GoodIn wsX10_near wsX10_in := goodIn_r _ [7] (by decide +kernel) (by decide +kernel)
set_option maxRecDepth 20000 in
theorem gX10_near_X10_in : GoodIn wsX10_near (va_wsS RX10 120 yX10_in wsX10_in) := goodIn_app (goodIn_of _ (by decide +kernel)) ggX10_near_X10_in
set_option maxRecDepth 20000 in
theorem ggX10_groups_X10_isRun : GoodIn wsX10_groups wsX10_isRun := goodIn_r _ [5, 6, 7, 4, 8] (by decide +kernel) (by decide +kernel)
set_option maxRecDepth 20000 in
theorem gX10_groups_X10_isRun : GoodIn wsX10_groups (va_wsS RX10 153 yX10_isRun wsX10_isRun) := goodIn_app (goodIn_of _ (by decide +kernel)) ggX10_groups_X10_isRun
set_option maxRecDepth 20000 in
theorem ggX10_groups_X10_joinMarks : GoodIn wsX10_groups wsX10_joinMarks := goodIn_r _ [12, 1, 13, 14, 15, 16, 17, 4, 18, 19, 20, 21, 22, 23, 24, 25, 26, 27, 28, 29, 30, 31, 32, 33, 34, 35, 36, 37, 38, 39, 40, 41, 42, 43, 44, 45, 46, 47, 48, 49, 50, 51, 52, 53, 54, 55, 56, 57, 58, 59, 60, 61, 62, 63, 64, 65, 66, 67, 68, 69, 70, 71, 72] (by decide +kernel) (by decide +kernel)
set_option maxRecDepth 20000 in
theorem gX10_groups_X10_joinMarks : GoodIn wsX10_groups (wsV RX10 192 RX10 yX10_joinMarks wsX10_joinMarks) := goodIn_app (goodIn_of _ (by decide +kernel)) ggX10_groups_X10_joinMarks
set_option maxRecDepth 20000 in
theorem ggX10_group_X10_isRun : GoodIn wsX10_group wsX10_isRun := goodIn_r _ [10, 11, 12, 9, 13] (by decide +kernel) (by decide +kernel)
set_option maxRecDepth 20000 in
theorem gX10_group_X10_isRun : GoodIn wsX10_group (va_wsS RX10 153 yX10_isRun wsX10_isRun) := goodIn_app (goodIn_of _ (by decide +kernel)) ggX10_group_X10_isRun
set_option maxRecDepth 20000 in
theorem ggX10_group_X10_in : GoodIn wsX10_group wsX10_in := goodIn_r _ [13] (by decide +kernel) (by decide +kernel)
set_option maxRecDepth 20000 in
theorem gX10_group_X10_in : GoodIn wsX10_group (va_wsS RX10 120 yX10_in wsX10_in) := goodIn_app (goodIn_of _ (by decide +kernel)) ggX10_group_X10_in
set_option maxRecDepth 20000 in
theorem ggX10_group_X10_joinMarks : GoodIn wsX10_group wsX10_joinMarks := goodIn_r _ [17, 1, 3, 2, 18, 19, 20, 9, 21, 4, 5, 22, 23, 24, 25, 26, 27, 28, 29, 30, 31, 32, 33, 34, 35, 36, 37, 38, 39, 40, 41, 42, 43, 44, 45, 46, 47, 48, 49, 50, 51, 52, 53, 54, 55, 56, 57, 58, 59, 60, 61, 62, 63, 64, 65, 66, 67, 68, 69, 70, 71, 72, 73] (by decide +kernel) (by decide +kernel)
set_option maxRecDepth 20000 in
theorem gX10_group_X10_joinMarks : GoodIn wsX10_group (wsV RX10 192 RX10 yX10_joinMarks wsX10_joinMarks) := goodIn_app (goodIn_of _ (by decide +kernel)) ggX10_group_X10_joinMarks
set_option maxRecDepth 20000 in
theorem ggX10_alone_X10_in : GoodIn wsX10_alone wsX10_in := goodIn_r _ [6] (by decide +kernel) (by decide +kernel)
set_option maxRecDepth 20000 in
theorem gX10_alone_X10_in : GoodIn wsX10_alone (va_wsS RX10 120 yX10_in wsX10_in) := goodIn_app (goodIn_of _ (by decide +kernel)) ggX10_alone_X10_in
set_option maxRecDepth 20000 in
theorem ggX10_gather_X10_matches : GoodIn wsX10_gather wsX10_matches := goodIn_r _ [12, 13, 14, 15, 16, 17, 18, 2, 19, 20, 21, 11, 22, 23, 24, 25, 26, 27, 28, 7, 29, 30, 31, 32, 33, 34, 35, 36, 37, 38, 39, 40, 41, 42, 43, 44, 45, 46, 47, 52, 53, 54, 55, 56, 57, 58, 59, 60, 61, 62, 63, 64, 65, 66, 67, 68, 69, 70, 71, 72, 73, 74, 75, 76, 77, 78, 79, 80, 81, 82, 83, 84, 85, 86, 87, 88, 89, 90, 91, 92, 93, 94] (by decide +kernel) (by decide +kernel)
set_option maxRecDepth 20000 in
theorem gX10_gather_X10_matches : GoodIn wsX10_gather (wsV RX10 172 RX10 yX10_matches wsX10_matches) := goodIn_app (goodIn_of _ (by decide +kernel)) ggX10_gather_X10_matches
set_option maxRecDepth 20000 in
theorem ggX10_gather_X10_jointAt : GoodIn wsX10_gather wsX10_jointAt := goodIn_r _ [51, 14, 7, 29, 34, 35, 11, 36, 52, 53, 54, 55, 56, 57, 58, 59, 60, 61, 62, 63, 64, 65, 66, 67, 68, 69, 70, 71, 72, 73, 74, 75, 76, 77, 78, 79, 80, 81, 82, 83, 84, 85, 86, 87, 88, 89, 90, 91, 92, 93, 94] (by decide +kernel) (by decide +kernel)
set_option maxRecDepth 20000 in
theorem gX10_gather_X10_jointAt : GoodIn wsX10_gather (wsV RX10 189 RX10 yX10_jointAt wsX10_jointAt) := goodIn_app (goodIn_of _ (by decide +kernel)) ggX10_gather_X10_jointAt
set_option maxRecDepth 20000 in
theorem ggX10_choiceCost_X10_apart : GoodIn wsX10_choiceCost wsX10_apart := goodIn_r _ [10] (by decide +kernel) (by decide +kernel)
set_option maxRecDepth 20000 in
theorem gX10_choiceCost_X10_apart : GoodIn wsX10_choiceCost (va_wsS RX10 165 yX10_apart wsX10_apart) := goodIn_app (goodIn_of _ (by decide +kernel)) ggX10_choiceCost_X10_apart
set_option maxRecDepth 20000 in
theorem ggX10_choiceCost_X10_hours : GoodIn wsX10_choiceCost wsX10_hours := goodIn_r _ [13, 7, 8, 9, 10] (by decide +kernel) (by decide +kernel)
set_option maxRecDepth 20000 in
theorem gX10_choiceCost_X10_hours : GoodIn wsX10_choiceCost (va_wsS RX10 176 yX10_hours wsX10_hours) := goodIn_app (goodIn_of _ (by decide +kernel)) ggX10_choiceCost_X10_hours
set_option maxRecDepth 20000 in
theorem ggX10_pairs_X10_gather : GoodIn wsX10_pairs wsX10_gather := goodIn_r _ [7, 8, 9, 10, 11, 12, 13, 14, 15, 16, 17, 6, 18, 19, 20, 21, 22, 23, 24, 25, 26, 27, 28, 29, 30, 31, 32, 33, 34, 35, 36, 37, 38, 39, 40, 41, 42, 43, 44, 45, 46, 47, 48, 49, 50, 51, 52, 53, 54, 55, 56, 57, 71, 72, 73, 74, 75, 76, 77, 78, 79, 80, 81, 82, 83, 84, 85, 86, 87, 88, 89, 90, 91, 92, 93, 94, 95, 96, 97, 98, 99, 100, 101, 102, 103, 104, 105, 106, 107, 108, 109, 110, 111, 112, 113] (by decide +kernel) (by decide +kernel)
set_option maxRecDepth 20000 in
theorem gX10_pairs_X10_gather : GoodIn wsX10_pairs (wsV RX10 195 RX10 yX10_gather wsX10_gather) := goodIn_app (goodIn_of _ (by decide +kernel)) ggX10_pairs_X10_gather
set_option maxRecDepth 20000 in
theorem ggX10_pairs_X10_choiceCost : GoodIn wsX10_pairs wsX10_choiceCost := goodIn_r _ [61, 62, 8, 1, 13, 63, 12, 51, 52, 6, 53, 64, 65, 66, 71, 72, 73, 74, 75, 76, 77, 78, 79, 80, 81, 82, 83, 84, 85, 86, 87, 88, 89, 90, 91, 92, 93, 94, 95, 96, 97, 98, 99, 100, 101, 102, 103, 104, 105, 106, 107, 108, 109, 110, 111, 112, 113] (by decide +kernel) (by decide +kernel)
set_option maxRecDepth 20000 in
theorem gX10_pairs_X10_choiceCost : GoodIn wsX10_pairs (wsV RX10 198 RX10 yX10_choiceCost wsX10_choiceCost) := goodIn_app (goodIn_of _ (by decide +kernel)) ggX10_pairs_X10_choiceCost
set_option maxRecDepth 20000 in
theorem ggX10_pairs_X10_choosesOn : GoodIn wsX10_pairs wsX10_choosesOn := goodIn_r _ [70, 8, 1, 71, 72, 73, 74, 75, 76, 77, 78, 79, 80, 81, 82, 83, 84, 85, 86, 87, 88, 89, 90, 91, 92, 93, 94, 95, 96, 97, 98, 99, 100, 101, 102, 103, 104, 105, 106, 107, 108, 109, 110, 111, 112, 113] (by decide +kernel) (by decide +kernel)
set_option maxRecDepth 20000 in
theorem gX10_pairs_X10_choosesOn : GoodIn wsX10_pairs (wsV RX10 202 RX10 yX10_choosesOn wsX10_choosesOn) := goodIn_app (goodIn_of _ (by decide +kernel)) ggX10_pairs_X10_choosesOn
set_option maxRecDepth 20000 in
theorem ggX10_pairing_X10_in : GoodIn wsX10_pairing wsX10_in := goodIn_r _ [5] (by decide +kernel) (by decide +kernel)
set_option maxRecDepth 20000 in
theorem gX10_pairing_X10_in : GoodIn wsX10_pairing (va_wsS RX10 120 yX10_in wsX10_in) := goodIn_app (goodIn_of _ (by decide +kernel)) ggX10_pairing_X10_in
set_option maxRecDepth 20000 in
theorem ggX10_pairing_X10_pairs : GoodIn wsX10_pairing wsX10_pairs := goodIn_r _ [9, 10, 11, 12, 13, 14, 4, 15, 16, 17, 18, 19, 20, 21, 22, 23, 24, 25, 26, 1, 27, 28, 29, 30, 31, 32, 33, 34, 35, 36, 37, 38, 39, 40, 41, 42, 43, 44, 45, 46, 2, 3, 5, 47, 48, 49, 50, 51, 52, 53, 54, 55, 56, 57, 58, 59, 60, 61, 62, 63, 64, 65, 66, 67, 68, 69, 70, 71, 72, 73, 74, 75, 76, 77, 78, 79, 80, 81, 82, 83, 84, 85, 86, 87, 88, 89, 90, 91, 92, 93, 94, 95, 96, 97, 98, 99, 100, 101, 102, 103, 104, 105, 106, 107, 108, 109, 110, 111, 112, 113, 114, 115, 116, 117] (by decide +kernel) (by decide +kernel)
set_option maxRecDepth 20000 in
theorem gX10_pairing_X10_pairs : GoodIn wsX10_pairing (wsV RX10 206 RX10 yX10_pairs wsX10_pairs) := goodIn_app (goodIn_of _ (by decide +kernel)) ggX10_pairing_X10_pairs
set_option maxRecDepth 20000 in
theorem ggX10_twinOf_X10_matches : GoodIn wsX10_twinOf wsX10_matches := goodIn_r _ [11, 2, 12, 13, 14, 15, 16, 3, 17, 18, 19, 10, 20, 21, 22, 23, 24, 25, 26, 27, 28, 29, 30, 31, 32, 33, 34, 35, 36, 37, 38, 39, 40, 41, 42, 43, 44, 45, 46, 75, 76, 77, 78, 79, 80, 81, 82, 83, 84, 85, 86, 87, 88, 89, 90, 91, 92, 93, 94, 95, 96, 97, 98, 99, 100, 101, 102, 103, 104, 105, 106, 107, 108, 109, 110, 111, 112, 113, 114, 115, 116, 117] (by decide +kernel) (by decide +kernel)
set_option maxRecDepth 20000 in
theorem gX10_twinOf_X10_matches : GoodIn wsX10_twinOf (wsV RX10 172 RX10 yX10_matches wsX10_matches) := goodIn_app (goodIn_of _ (by decide +kernel)) ggX10_twinOf_X10_matches
set_option maxRecDepth 20000 in
theorem ggX10_twinOf_X10_jointAt : GoodIn wsX10_twinOf wsX10_jointAt := goodIn_r _ [50, 12, 27, 28, 33, 34, 10, 35, 75, 76, 77, 78, 79, 80, 81, 82, 83, 84, 85, 86, 87, 88, 89, 90, 91, 92, 93, 94, 95, 96, 97, 98, 99, 100, 101, 102, 103, 104, 105, 106, 107, 108, 109, 110, 111, 112, 113, 114, 115, 116, 117] (by decide +kernel) (by decide +kernel)
set_option maxRecDepth 20000 in
theorem gX10_twinOf_X10_jointAt : GoodIn wsX10_twinOf (wsV RX10 189 RX10 yX10_jointAt wsX10_jointAt) := goodIn_app (goodIn_of _ (by decide +kernel)) ggX10_twinOf_X10_jointAt
set_option maxRecDepth 20000 in
theorem ggX10_twinOf_X10_pairs : GoodIn wsX10_twinOf wsX10_pairs := goodIn_r _ [54, 55, 6, 56, 57, 58, 10, 59, 4, 3, 60, 1, 5, 61, 27, 7, 8, 9, 11, 2, 12, 13, 14, 15, 16, 17, 18, 19, 20, 21, 22, 23, 24, 25, 26, 28, 29, 30, 31, 32, 33, 34, 35, 36, 37, 38, 39, 40, 41, 42, 43, 44, 45, 46, 47, 48, 49, 50, 62, 63, 64, 65, 66, 67, 68, 69, 70, 71, 72, 73, 74, 75, 76, 77, 78, 79, 80, 81, 82, 83, 84, 85, 86, 87, 88, 89, 90, 91, 92, 93, 94, 95, 96, 97, 98, 99, 100, 101, 102, 103, 104, 105, 106, 107, 108, 109, 110, 111, 112, 113, 114, 115, 116, 117] (by decide +kernel) (by decide +kernel)
set_option maxRecDepth 20000 in
theorem gX10_twinOf_X10_pairs : GoodIn wsX10_twinOf (wsV RX10 206 RX10 yX10_pairs wsX10_pairs) := goodIn_app (goodIn_of _ (by decide +kernel)) ggX10_twinOf_X10_pairs
set_option maxRecDepth 20000 in
theorem ggX10_twin_X10_isMark : GoodIn wsX10_twin wsX10_isMark := goodIn_r _ [5, 6, 7, 8, 4, 9, 10, 11, 12, 86, 87, 88, 89, 90, 91, 92, 93, 94, 95, 96, 97, 98, 99, 100, 101, 102, 103, 104, 105, 106, 107, 108, 109, 110, 111, 112, 113, 114, 115, 116, 117, 118, 119, 120, 121, 122, 123, 124, 125, 126, 127, 128] (by decide +kernel) (by decide +kernel)
set_option maxRecDepth 20000 in
theorem gX10_twin_X10_isMark : GoodIn wsX10_twin (wsV RX10 186 RX10 yX10_isMark wsX10_isMark) := goodIn_app (goodIn_of _ (by decide +kernel)) ggX10_twin_X10_isMark
set_option maxRecDepth 20000 in
theorem ggX10_twin_X10_twinOf : GoodIn wsX10_twin wsX10_twinOf := goodIn_r _ [16, 17, 18, 19, 20, 21, 22, 23, 24, 25, 4, 26, 27, 28, 29, 30, 31, 32, 33, 34, 35, 36, 37, 38, 39, 40, 41, 42, 43, 44, 45, 46, 47, 10, 11, 12, 48, 49, 50, 51, 52, 53, 54, 55, 56, 57, 58, 59, 60, 61, 62, 63, 64, 65, 66, 67, 68, 69, 70, 71, 6, 72, 73, 74, 75, 76, 77, 78, 79, 80, 81, 82, 83, 84, 85, 86, 87, 88, 89, 90, 91, 92, 93, 94, 95, 96, 97, 98, 99, 100, 101, 102, 103, 104, 105, 106, 107, 108, 109, 110, 111, 112, 113, 114, 115, 116, 117, 118, 119, 120, 121, 122, 123, 124, 125, 126, 127, 128] (by decide +kernel) (by decide +kernel)
set_option maxRecDepth 20000 in
theorem gX10_twin_X10_twinOf : GoodIn wsX10_twin (wsV RX10 209 RX10 yX10_twinOf wsX10_twinOf) := goodIn_app (goodIn_of _ (by decide +kernel)) ggX10_twin_X10_twinOf
set_option maxRecDepth 20000 in
theorem ggX10_tool_X10_in : GoodIn wsX10_tool wsX10_in := goodIn_r _ [7] (by decide +kernel) (by decide +kernel)
set_option maxRecDepth 20000 in
theorem gX10_tool_X10_in : GoodIn wsX10_tool (va_wsS RX10 120 yX10_in wsX10_in) := goodIn_app (goodIn_of _ (by decide +kernel)) ggX10_tool_X10_in
set_option maxRecDepth 20000 in
theorem ggX10_growth_X10_isMark : GoodIn wsX10_growth wsX10_isMark := goodIn_r _ [8, 9, 10, 11, 7, 12, 13, 14, 15, 98, 99, 100, 101, 102, 103, 104, 105, 106, 107, 108, 109, 110, 111, 112, 113, 114, 115, 116, 117, 118, 119, 120, 121, 122, 123, 124, 125, 126, 127, 128, 129, 130, 131, 132, 133, 134, 135, 136, 137, 138, 139, 140] (by decide +kernel) (by decide +kernel)
set_option maxRecDepth 20000 in
theorem gX10_growth_X10_isMark : GoodIn wsX10_growth (wsV RX10 186 RX10 yX10_isMark wsX10_isMark) := goodIn_app (goodIn_of _ (by decide +kernel)) ggX10_growth_X10_isMark
set_option maxRecDepth 20000 in
theorem ggX10_growth_X10_in : GoodIn wsX10_growth wsX10_in := goodIn_r _ [15] (by decide +kernel) (by decide +kernel)
set_option maxRecDepth 20000 in
theorem gX10_growth_X10_in : GoodIn wsX10_growth (va_wsS RX10 120 yX10_in wsX10_in) := goodIn_app (goodIn_of _ (by decide +kernel)) ggX10_growth_X10_in
set_option maxRecDepth 20000 in
theorem ggX10_growth_X10_twinOf : GoodIn wsX10_growth wsX10_twinOf := goodIn_r _ [19, 20, 21, 22, 23, 24, 25, 26, 27, 28, 7, 29, 30, 31, 32, 33, 34, 35, 36, 37, 38, 39, 40, 41, 42, 43, 44, 45, 46, 47, 48, 49, 50, 13, 14, 15, 51, 52, 53, 54, 55, 56, 57, 58, 59, 60, 61, 62, 63, 64, 65, 66, 67, 68, 69, 70, 71, 72, 73, 74, 9, 75, 76, 77, 78, 79, 80, 81, 82, 83, 84, 85, 86, 87, 88, 98, 99, 100, 101, 102, 103, 104, 105, 106, 107, 108, 109, 110, 111, 112, 113, 114, 115, 116, 117, 118, 119, 120, 121, 122, 123, 124, 125, 126, 127, 128, 129, 130, 131, 132, 133, 134, 135, 136, 137, 138, 139, 140] (by decide +kernel) (by decide +kernel)
set_option maxRecDepth 20000 in
theorem gX10_growth_X10_twinOf : GoodIn wsX10_growth (wsV RX10 209 RX10 yX10_twinOf wsX10_twinOf) := goodIn_app (goodIn_of _ (by decide +kernel)) ggX10_growth_X10_twinOf
set_option maxRecDepth 20000 in
theorem ggX10_growth_X10_lowOf : GoodIn wsX10_growth wsX10_lowOf := goodIn_r _ [92, 93, 98, 99, 100, 101, 102, 103, 104, 105, 106, 107, 108, 109, 110, 111, 112, 113, 114, 115, 116, 117, 118, 119, 120, 121, 122, 123, 124, 125, 126, 127, 128, 129, 130, 131, 132, 133, 134, 135, 136, 137, 138, 139, 140] (by decide +kernel) (by decide +kernel)
set_option maxRecDepth 20000 in
theorem gX10_growth_X10_lowOf : GoodIn wsX10_growth (wsV RX10 212 RX10 yX10_lowOf wsX10_lowOf) := goodIn_app (goodIn_of _ (by decide +kernel)) ggX10_growth_X10_lowOf
set_option maxRecDepth 20000 in
theorem ggX10_growth_X10_highOf : GoodIn wsX10_growth wsX10_highOf := goodIn_r _ [97, 93, 98, 99, 100, 101, 102, 103, 104, 105, 106, 107, 108, 109, 110, 111, 112, 113, 114, 115, 116, 117, 118, 119, 120, 121, 122, 123, 124, 125, 126, 127, 128, 129, 130, 131, 132, 133, 134, 135, 136, 137, 138, 139, 140] (by decide +kernel) (by decide +kernel)
set_option maxRecDepth 20000 in
theorem gX10_growth_X10_highOf : GoodIn wsX10_growth (wsV RX10 215 RX10 yX10_highOf wsX10_highOf) := goodIn_app (goodIn_of _ (by decide +kernel)) ggX10_growth_X10_highOf
set_option maxRecDepth 20000 in
theorem ggX10_work_X10_in : GoodIn wsX10_work wsX10_in := goodIn_r _ [7] (by decide +kernel) (by decide +kernel)
set_option maxRecDepth 20000 in
theorem gX10_work_X10_in : GoodIn wsX10_work (va_wsS RX10 120 yX10_in wsX10_in) := goodIn_app (goodIn_of _ (by decide +kernel)) ggX10_work_X10_in
set_option maxRecDepth 20000 in
theorem ggX10_yearly_X10_in : GoodIn wsX10_yearly wsX10_in := goodIn_r _ [6] (by decide +kernel) (by decide +kernel)
set_option maxRecDepth 20000 in
theorem gX10_yearly_X10_in : GoodIn wsX10_yearly (va_wsS RX10 120 yX10_in wsX10_in) := goodIn_app (goodIn_of _ (by decide +kernel)) ggX10_yearly_X10_in
set_option maxRecDepth 20000 in
theorem ggX10_willDo_X10_many : GoodIn wsX10_willDo wsX10_many := goodIn_r _ [7] (by decide +kernel) (by decide +kernel)
set_option maxRecDepth 20000 in
theorem gX10_willDo_X10_many : GoodIn wsX10_willDo (va_wsS RX10 221 yX10_many wsX10_many) := goodIn_app (goodIn_of _ (by decide +kernel)) ggX10_willDo_X10_many
set_option maxRecDepth 20000 in
theorem ggX10_planned_X10_willDo : GoodIn wsX10_planned wsX10_willDo := goodIn_r _ [6, 7, 8, 9, 10, 11, 5, 12, 13, 14, 15, 16, 17, 18, 19, 20, 21, 22, 23, 24, 25, 26, 27, 28, 29, 30, 31, 32, 33, 34, 35, 36, 37, 38, 39, 40, 41, 42, 43, 44, 45, 46, 47, 48, 49, 50, 51, 52, 53, 54, 55] (by decide +kernel) (by decide +kernel)
set_option maxRecDepth 20000 in
theorem gX10_planned_X10_willDo : GoodIn wsX10_planned (wsV RX10 224 RX10 yX10_willDo wsX10_willDo) := goodIn_app (goodIn_of _ (by decide +kernel)) ggX10_planned_X10_willDo
set_option maxRecDepth 20000 in
theorem ggX10_planned_X10_many : GoodIn wsX10_planned wsX10_many := goodIn_r _ [12] (by decide +kernel) (by decide +kernel)
set_option maxRecDepth 20000 in
theorem gX10_planned_X10_many : GoodIn wsX10_planned (va_wsS RX10 221 yX10_many wsX10_many) := goodIn_app (goodIn_of _ (by decide +kernel)) ggX10_planned_X10_many
set_option maxRecDepth 20000 in
theorem ggX10_plan_X10_planned : GoodIn wsX10_plan wsX10_planned := goodIn_r _ [8, 1, 9, 10, 11, 7, 12, 2, 13, 14, 15, 16, 17, 18, 19, 20, 21, 22, 23, 24, 25, 26, 27, 28, 29, 30, 31, 32, 33, 34, 35, 36, 37, 38, 39, 40, 41, 42, 43, 44, 45, 46, 47, 48, 49, 50, 51, 52, 53, 54, 55, 56, 57, 58, 59, 60] (by decide +kernel) (by decide +kernel)
set_option maxRecDepth 20000 in
theorem gX10_plan_X10_planned : GoodIn wsX10_plan (wsV RX10 227 RX10 yX10_planned wsX10_planned) := goodIn_app (goodIn_of _ (by decide +kernel)) ggX10_plan_X10_planned
set_option maxRecDepth 20000 in
theorem ggX10_plan_X10_many : GoodIn wsX10_plan wsX10_many := goodIn_r _ [17] (by decide +kernel) (by decide +kernel)
set_option maxRecDepth 20000 in
theorem gX10_plan_X10_many : GoodIn wsX10_plan (va_wsS RX10 221 yX10_many wsX10_many) := goodIn_app (goodIn_of _ (by decide +kernel)) ggX10_plan_X10_many
set_option maxRecDepth 20000 in
theorem ggX10_years_X10_planned : GoodIn wsX10_years wsX10_planned := goodIn_r _ [5, 6, 7, 8, 9, 4, 10, 11, 12, 13, 14, 15, 16, 17, 18, 19, 20, 21, 22, 23, 24, 25, 26, 27, 28, 29, 30, 31, 32, 33, 34, 35, 36, 37, 38, 39, 40, 41, 42, 43, 44, 45, 46, 47, 48, 49, 50, 51, 52, 53, 54, 55, 56, 57, 58, 59] (by decide +kernel) (by decide +kernel)
set_option maxRecDepth 20000 in
theorem gX10_years_X10_planned : GoodIn wsX10_years (wsV RX10 227 RX10 yX10_planned wsX10_planned) := goodIn_app (goodIn_of _ (by decide +kernel)) ggX10_years_X10_planned
set_option maxRecDepth 20000 in
theorem ggX10_when_X10_in : GoodIn wsX10_when wsX10_in := goodIn_r _ [7] (by decide +kernel) (by decide +kernel)
set_option maxRecDepth 20000 in
theorem gX10_when_X10_in : GoodIn wsX10_when (va_wsS RX10 120 yX10_in wsX10_in) := goodIn_app (goodIn_of _ (by decide +kernel)) ggX10_when_X10_in
set_option maxRecDepth 20000 in
theorem ggX10_when_X10_planned : GoodIn wsX10_when wsX10_planned := goodIn_r _ [11, 12, 13, 14, 15, 6, 16, 1, 2, 3, 17, 18, 19, 20, 21, 22, 23, 24, 25, 26, 27, 28, 29, 30, 31, 32, 33, 34, 35, 36, 37, 38, 39, 40, 41, 42, 43, 44, 45, 46, 47, 48, 49, 50, 51, 52, 53, 54, 55, 56, 57, 58, 59, 60, 61, 62] (by decide +kernel) (by decide +kernel)
set_option maxRecDepth 20000 in
theorem gX10_when_X10_planned : GoodIn wsX10_when (wsV RX10 227 RX10 yX10_planned wsX10_planned) := goodIn_app (goodIn_of _ (by decide +kernel)) ggX10_when_X10_planned
set_option maxRecDepth 20000 in
theorem ggX10_trap_X10_in : GoodIn wsX10_trap wsX10_in := goodIn_r _ [6] (by decide +kernel) (by decide +kernel)
set_option maxRecDepth 20000 in
theorem gX10_trap_X10_in : GoodIn wsX10_trap (va_wsS RX10 120 yX10_in wsX10_in) := goodIn_app (goodIn_of _ (by decide +kernel)) ggX10_trap_X10_in
set_option maxRecDepth 20000 in
theorem ggX10_trap_X10_mayOpen : GoodIn wsX10_trap wsX10_mayOpen := goodIn_r _ [10, 1, 2, 11, 12, 13, 14, 15, 16, 17, 18, 19, 20, 21, 22, 23, 24, 25, 26, 27, 28, 29, 30, 31, 32, 33, 34, 35, 36, 37, 38, 39, 40, 41, 42, 43, 44, 45, 46, 47, 48, 49, 50, 51, 52, 53] (by decide +kernel) (by decide +kernel)
set_option maxRecDepth 20000 in
theorem gX10_trap_X10_mayOpen : GoodIn wsX10_trap (wsV RX10 234 RX10 yX10_mayOpen wsX10_mayOpen) := goodIn_app (goodIn_of _ (by decide +kernel)) ggX10_trap_X10_mayOpen
set_option maxRecDepth 20000 in
theorem ggX10_digest_X10_count : GoodIn wsX10_digest wsX10_count := goodIn_r _ [10, 11, 5, 12, 13, 14, 15, 96, 97, 98, 99, 100, 101, 102, 103, 104, 105, 106, 107, 108, 109, 110, 111, 112, 113, 114, 115, 116, 117, 118, 119, 120, 121, 122, 123, 124, 125, 126, 127, 128, 129, 130, 131, 132, 133, 134, 135, 136, 137, 138] (by decide +kernel) (by decide +kernel)
set_option maxRecDepth 20000 in
theorem gX10_digest_X10_count : GoodIn wsX10_digest (wsV RX10 241 RX10 yX10_count wsX10_count) := goodIn_app (goodIn_of _ (by decide +kernel)) ggX10_digest_X10_count
set_option maxRecDepth 20000 in
theorem ggX10_digest_X10_run : GoodIn wsX10_digest wsX10_run := goodIn_r _ [19, 20, 21, 22, 3, 23, 24, 9, 25, 26, 27, 28, 29, 30, 31, 32, 33, 34, 35, 36, 4, 37, 38, 39, 40, 41, 42, 43, 96, 97, 98, 99, 100, 101, 102, 103, 104, 105, 106, 107, 108, 109, 110, 111, 112, 113, 114, 115, 116, 117, 118, 119, 120, 121, 122, 123, 124, 125, 126, 127, 128, 129, 130, 131, 132, 133, 134, 135, 136, 137, 138] (by decide +kernel) (by decide +kernel)
set_option maxRecDepth 20000 in
theorem gX10_digest_X10_run : GoodIn wsX10_digest (wsV RX10 244 RX10 yX10_run wsX10_run) := goodIn_app (goodIn_of _ (by decide +kernel)) ggX10_digest_X10_run
set_option maxRecDepth 20000 in
theorem ggX10_digest_X10_match : GoodIn wsX10_digest wsX10_match := goodIn_r _ [47, 48, 11, 3, 23, 24, 9, 25, 26, 27, 28, 49, 50, 51, 52, 53, 54, 55, 56, 29, 30, 31, 32, 20, 21, 33, 34, 22, 35, 36, 4, 37, 38, 39, 40, 41, 42, 43, 57, 58, 59, 60, 61, 62, 63, 64, 96, 97, 98, 99, 100, 101, 102, 103, 104, 105, 106, 107, 108, 109, 110, 111, 112, 113, 114, 115, 116, 117, 118, 119, 120, 121, 122, 123, 124, 125, 126, 127, 128, 129, 130, 131, 132, 133, 134, 135, 136, 137, 138] (by decide +kernel) (by decide +kernel)
set_option maxRecDepth 20000 in
theorem gX10_digest_X10_match : GoodIn wsX10_digest (wsV RX10 247 RX10 yX10_match wsX10_match) := goodIn_app (goodIn_of _ (by decide +kernel)) ggX10_digest_X10_match
set_option maxRecDepth 20000 in
theorem ggX10_digest_X10_about : GoodIn wsX10_digest wsX10_about := goodIn_r _ [68, 69, 70, 71, 72, 73, 74, 75, 76, 9, 77, 5, 23, 24, 25, 26, 27, 28, 29, 30, 31, 32, 20, 21, 3, 33, 34, 22, 35, 36, 4, 37, 38, 39, 40, 41, 42, 43, 78, 79, 80, 81, 82, 83, 84, 85, 86, 87, 88, 89, 90, 91, 92, 93, 94, 95, 62, 63, 64, 96, 97, 98, 99, 100, 101, 102, 103, 104, 105, 106, 107, 108, 109, 110, 111, 112, 113, 114, 115, 116, 117, 118, 119, 120, 121, 122, 123, 124, 125, 126, 127, 128, 129, 130, 131, 132, 133, 134, 135, 136, 137, 138] (by decide +kernel) (by decide +kernel)
set_option maxRecDepth 20000 in
theorem gX10_digest_X10_about : GoodIn wsX10_digest (wsV RX10 250 RX10 yX10_about wsX10_about) := goodIn_app (goodIn_of _ (by decide +kernel)) ggX10_digest_X10_about
set_option maxRecDepth 20000 in
theorem ggL_law_X9_init : GoodIn wsL_law wsX9_init := goodIn_r _ [8, 9, 10, 11, 12, 13, 14, 15, 16, 17, 18, 19, 20, 21, 22, 23, 24, 25, 26, 27, 28, 29, 30, 31, 32, 33, 34, 35, 36, 37, 38, 39, 40, 41, 42, 43, 44, 45, 46, 47, 48, 49, 50, 51, 52, 53, 54, 55, 56, 57, 58, 59, 60, 61, 62, 63, 64, 65, 66, 67, 68, 69, 70, 71, 72, 73, 74, 75, 76, 77, 78, 79, 80, 81, 82, 83, 84, 85, 86, 87, 88, 89, 90, 91, 92, 93, 94, 95, 96, 97, 98, 99, 100, 101, 102, 103, 104, 105, 106, 107, 108, 109, 110, 111, 112, 113, 114, 115, 116, 117, 118, 119, 120, 121, 122, 123, 124, 924, 925, 926, 927, 928, 929, 930, 931, 932, 933, 934, 935, 871, 872, 873, 874, 875, 876, 877, 878, 879, 880, 936, 937, 938, 939, 940, 941, 942, 943, 944, 945, 946, 947, 948, 949, 950, 951, 952, 953, 954, 955, 956, 957, 958, 959, 960, 961, 962, 963, 964, 965, 966, 967, 968, 969, 970] (by decide +kernel) (by decide +kernel)
set_option maxRecDepth 20000 in
theorem gL_law_X9_init : GoodIn wsL_law (wsX9_init) := ggL_law_X9_init
set_option maxRecDepth 20000 in
theorem ggL_law_X10_init : GoodIn wsL_law wsX10_init := goodIn_r _ [127, 128, 10, 11, 129, 130, 55, 131, 132, 133, 134, 135, 136, 137, 138, 139, 140, 141, 142, 143, 144, 145, 146, 147, 148, 149, 150, 151, 152, 153, 154, 155, 156, 157, 158, 159, 160, 161, 162, 163, 164, 881, 882, 883, 884, 885, 886, 887, 888, 889, 890, 891, 892, 893, 894, 895, 896, 897, 898, 899, 900, 901, 902, 903, 904, 905, 906, 907, 908, 909, 910, 911, 912, 913, 914, 915, 916, 917, 918, 919, 920, 921, 922, 923] (by decide +kernel) (by decide +kernel)
set_option maxRecDepth 20000 in
theorem gL_law_X10_init : GoodIn wsL_law (wsX10_init) := ggL_law_X10_init
set_option maxRecDepth 20000 in
theorem ggL_law_X9_reel : GoodIn wsL_law wsX9_reel := goodIn_r _ [168, 169, 170, 171, 2, 172, 173, 174, 175, 176, 15, 16, 177, 178, 179, 14, 180, 47, 48, 49, 50, 181, 182, 183, 184, 185, 186, 187, 188, 189, 190, 39, 191, 192, 193, 46, 194, 65, 195, 196, 197, 198, 66, 64, 871, 872, 873, 874, 875, 876, 877, 878, 879, 880, 924, 925, 926, 927, 928, 929, 930, 931, 932, 933, 934, 935, 956, 957, 958] (by decide +kernel) (by decide +kernel)
set_option maxRecDepth 20000 in
theorem gL_law_X9_reel : GoodIn wsL_law (wsV RL 13 RX9 yX9_reel wsX9_reel) := goodIn_app (goodIn_of _ (by decide +kernel)) ggL_law_X9_reel
set_option maxRecDepth 20000 in
theorem ggL_law_X10_reel : GoodIn wsL_law wsX10_reel := goodIn_r _ [202, 130, 131, 132, 133, 203, 204, 5, 205, 206, 207, 208, 209, 210, 211, 212, 213, 881, 882, 883, 884, 885, 886, 887, 888, 889, 890, 891, 892, 893, 894, 895, 896, 897, 898, 899, 900, 901, 902, 903, 904, 905, 906, 907, 908, 909, 910, 911, 912, 913, 914, 915, 916, 917, 918, 919, 920, 921, 922, 923] (by decide +kernel) (by decide +kernel)
set_option maxRecDepth 20000 in
theorem gL_law_X10_reel : GoodIn wsL_law (wsV RL 17 RX10 yX10_reel wsX10_reel) := goodIn_app (goodIn_of _ (by decide +kernel)) ggL_law_X10_reel
set_option maxRecDepth 20000 in
theorem ggL_law_X9_lose : GoodIn wsL_law wsX9_lose := goodIn_r _ [217, 218, 169, 170, 171, 2, 172, 173, 174, 175, 176, 15, 16, 177, 178, 179, 14, 180, 47, 48, 49, 50, 219, 220, 221, 46, 222, 65, 187, 188, 189, 190, 39, 223, 224, 225, 226, 66, 956, 957, 958, 871, 872, 873, 874, 875, 876, 877, 878, 879, 880, 924, 925, 926, 927, 928, 929, 930, 931, 932, 933, 934, 935] (by decide +kernel) (by decide +kernel)
set_option maxRecDepth 20000 in
theorem gL_law_X9_lose : GoodIn wsL_law (wsV RL 18 RX9 yX9_lose wsX9_lose) := goodIn_app (goodIn_of _ (by decide +kernel)) ggL_law_X9_lose
set_option maxRecDepth 20000 in
theorem ggL_law_X10_lose : GoodIn wsL_law wsX10_lose := goodIn_r _ [230, 130, 132, 203, 204, 5, 205, 206, 207, 208, 209, 210, 211, 212, 213, 881, 882, 883, 884, 885, 886, 887, 888, 889, 890, 891, 892, 893, 894, 895, 896, 897, 898, 899, 900, 901, 902, 903, 904, 905, 906, 907, 908, 909, 910, 911, 912, 913, 914, 915, 916, 917, 918, 919, 920, 921, 922, 923] (by decide +kernel) (by decide +kernel)
set_option maxRecDepth 20000 in
theorem gL_law_X10_lose : GoodIn wsL_law (wsV RL 22 RX10 yX10_lose wsX10_lose) := goodIn_app (goodIn_of _ (by decide +kernel)) ggL_law_X10_lose
set_option maxRecDepth 20000 in
theorem ggL_law_X9_put : GoodIn wsL_law wsX9_put := goodIn_r _ [234, 169, 170, 171, 2, 172, 173, 174, 175, 176, 15, 16, 177, 178, 179, 14, 180, 47, 48, 49, 50, 181, 182, 183, 184, 185, 186, 235, 236, 237, 46, 238, 65, 239, 220, 221, 222, 240, 241, 242, 243, 66, 187, 188, 189, 190, 39, 244, 245, 246, 247, 64, 871, 872, 873, 874, 875, 876, 877, 878, 879, 880, 924, 925, 926, 927, 928, 929, 930, 931, 932, 933, 934, 935, 956, 957, 958] (by decide +kernel) (by decide +kernel)
set_option maxRecDepth 20000 in
theorem gL_law_X9_put : GoodIn wsL_law (wsV RL 23 RX9 yX9_put wsX9_put) := goodIn_app (goodIn_of _ (by decide +kernel)) ggL_law_X9_put
set_option maxRecDepth 20000 in
theorem ggL_law_X10_put : GoodIn wsL_law wsX10_put := goodIn_r _ [251, 133, 203, 204, 5, 205, 206, 207, 208, 252, 253, 254, 255, 130, 131, 132, 209, 210, 211, 212, 213, 881, 882, 883, 884, 885, 886, 887, 888, 889, 890, 891, 892, 893, 894, 895, 896, 897, 898, 899, 900, 901, 902, 903, 904, 905, 906, 907, 908, 909, 910, 911, 912, 913, 914, 915, 916, 917, 918, 919, 920, 921, 922, 923] (by decide +kernel) (by decide +kernel)
set_option maxRecDepth 20000 in
theorem gL_law_X10_put : GoodIn wsL_law (wsV RL 27 RX10 yX10_put wsX10_put) := goodIn_app (goodIn_of _ (by decide +kernel)) ggL_law_X10_put
set_option maxRecDepth 20000 in
theorem ggL_law_X9_get : GoodIn wsL_law wsX9_get := goodIn_r _ [259, 260, 261, 169, 170, 171, 2, 172, 173, 174, 175, 176, 15, 16, 177, 178, 179, 14, 180, 47, 48, 49, 50, 181, 182, 183, 184, 185, 186, 235, 236, 237, 46, 238, 65, 239, 220, 221, 222, 240, 241, 242, 243, 66, 187, 188, 189, 190, 39, 956, 957, 958, 871, 872, 873, 874, 875, 876, 877, 878, 879, 880, 924, 925, 926, 927, 928, 929, 930, 931, 932, 933, 934, 935] (by decide +kernel) (by decide +kernel)
set_option maxRecDepth 20000 in
theorem gL_law_X9_get : GoodIn wsL_law (wsV RL 28 RX9 yX9_get wsX9_get) := goodIn_app (goodIn_of _ (by decide +kernel)) ggL_law_X9_get
set_option maxRecDepth 20000 in
theorem ggL_law_X10_get : GoodIn wsL_law wsX10_get := goodIn_r _ [265, 266, 213, 133, 203, 204, 5, 205, 206, 207, 208, 252, 253, 254, 255, 130, 131, 132, 881, 882, 883, 884, 885, 886, 887, 888, 889, 890, 891, 892, 893, 894, 895, 896, 897, 898, 899, 900, 901, 902, 903, 904, 905, 906, 907, 908, 909, 910, 911, 912, 913, 914, 915, 916, 917, 918, 919, 920, 921, 922, 923] (by decide +kernel) (by decide +kernel)
set_option maxRecDepth 20000 in
theorem gL_law_X10_get : GoodIn wsL_law (wsV RL 31 RX10 yX10_get wsX10_get) := goodIn_app (goodIn_of _ (by decide +kernel)) ggL_law_X10_get
set_option maxRecDepth 20000 in
theorem ggL_law_X9_copy : GoodIn wsL_law wsX9_copy := goodIn_r _ [270, 271, 261, 272, 273, 274, 275, 169, 170, 171, 2, 172, 173, 174, 175, 176, 15, 16, 177, 178, 179, 14, 180, 47, 48, 49, 50, 219, 220, 221, 46, 222, 65, 187, 188, 189, 190, 39, 276, 277, 278, 279, 66, 956, 957, 958, 871, 872, 873, 874, 875, 876, 877, 878, 879, 880, 924, 925, 926, 927, 928, 929, 930, 931, 932, 933, 934, 935] (by decide +kernel) (by decide +kernel)
set_option maxRecDepth 20000 in
theorem gL_law_X9_copy : GoodIn wsL_law (wsV RL 32 RX9 yX9_copy wsX9_copy) := goodIn_app (goodIn_of _ (by decide +kernel)) ggL_law_X9_copy
set_option maxRecDepth 20000 in
theorem ggL_law_X10_copy : GoodIn wsL_law wsX10_copy := goodIn_r _ [283, 130, 131, 132, 134, 133, 203, 204, 5, 205, 206, 207, 208, 209, 210, 211, 212, 213, 881, 882, 883, 884, 885, 886, 887, 888, 889, 890, 891, 892, 893, 894, 895, 896, 897, 898, 899, 900, 901, 902, 903, 904, 905, 906, 907, 908, 909, 910, 911, 912, 913, 914, 915, 916, 917, 918, 919, 920, 921, 922, 923] (by decide +kernel) (by decide +kernel)
set_option maxRecDepth 20000 in
theorem gL_law_X10_copy : GoodIn wsL_law (wsV RL 36 RX10 yX10_copy wsX10_copy) := goodIn_app (goodIn_of _ (by decide +kernel)) ggL_law_X10_copy
set_option maxRecDepth 20000 in
theorem ggL_law_X9_run : GoodIn wsL_law wsX9_run := goodIn_r _ [287, 173, 174, 175, 2, 176, 15, 16, 184, 185, 186, 288, 289, 290, 14, 291, 47, 292, 48, 49, 293, 294, 197, 295, 296, 297, 298, 56, 50, 57, 58, 299, 300, 301, 302, 303, 196, 198, 304, 305, 306, 46, 307, 64, 240, 241, 242, 243, 66, 308, 309, 310, 311, 312, 313, 314, 315, 871, 872, 873, 874, 875, 876, 877, 878, 879, 880, 924, 925, 926, 927, 928, 929, 930, 931, 932, 933, 934, 935, 956, 957, 958] (by decide +kernel) (by decide +kernel)
set_option maxRecDepth 20000 in
theorem gL_law_X9_run : GoodIn wsL_law (wsV RL 37 RX9 yX9_run wsX9_run) := goodIn_app (goodIn_of _ (by decide +kernel)) ggL_law_X9_run
set_option maxRecDepth 20000 in
theorem ggL_law_X10_run : GoodIn wsL_law wsX10_run := goodIn_r _ [319, 320, 321, 135, 322, 323, 324, 5, 325, 206, 207, 208, 326, 327, 328, 329, 130, 132, 133, 136, 137, 330, 331, 332, 333, 334, 335, 336, 881, 882, 883, 884, 885, 886, 887, 888, 889, 890, 891, 892, 893, 894, 895, 896, 897, 898, 899, 900, 901, 902, 903, 904, 905, 906, 907, 908, 909, 910, 911, 912, 913, 914, 915, 916, 917, 918, 919, 920, 921, 922, 923] (by decide +kernel) (by decide +kernel)
set_option maxRecDepth 20000 in
theorem gL_law_X10_run : GoodIn wsL_law (wsV RL 41 RX10 yX10_run wsX10_run) := goodIn_app (goodIn_of _ (by decide +kernel)) ggL_law_X10_run
set_option maxRecDepth 20000 in
theorem ggL_law_X9_way : GoodIn wsL_law wsX9_way := goodIn_r _ [340, 341, 342, 173, 174, 175, 2, 176, 15, 16, 288, 289, 290, 14, 291, 47, 292, 48, 49, 293, 294, 197, 295, 296, 297, 298, 56, 50, 57, 58, 299, 300, 301, 302, 303, 196, 198, 304, 305, 306, 46, 307, 64, 240, 241, 242, 243, 66, 185, 186, 308, 309, 310, 311, 924, 925, 926, 927, 928, 929, 930, 931, 932, 933, 934, 935, 871, 872, 873, 874, 875, 876, 877, 878, 879, 880, 956, 957, 958] (by decide +kernel) (by decide +kernel)
set_option maxRecDepth 20000 in
theorem gL_law_X9_way : GoodIn wsL_law (wsV RL 42 RX9 yX9_way wsX9_way) := goodIn_app (goodIn_of _ (by decide +kernel)) ggL_law_X9_way
set_option maxRecDepth 20000 in
theorem ggL_law_X10_way : GoodIn wsL_law wsX10_way := goodIn_r _ [346, 320, 135, 323, 324, 5, 325, 206, 207, 208, 326, 327, 328, 329, 321, 322, 130, 132, 133, 136, 137, 330, 331, 332, 333, 334, 335, 336, 881, 882, 883, 884, 885, 886, 887, 888, 889, 890, 891, 892, 893, 894, 895, 896, 897, 898, 899, 900, 901, 902, 903, 904, 905, 906, 907, 908, 909, 910, 911, 912, 913, 914, 915, 916, 917, 918, 919, 920, 921, 922, 923] (by decide +kernel) (by decide +kernel)
set_option maxRecDepth 20000 in
theorem gL_law_X10_way : GoodIn wsL_law (wsV RL 45 RX10 yX10_way wsX10_way) := goodIn_app (goodIn_of _ (by decide +kernel)) ggL_law_X10_way
set_option maxRecDepth 20000 in
theorem ggL_law_X9_felt : GoodIn wsL_law wsX9_felt := goodIn_r _ [350, 351, 352, 353, 173, 174, 175, 2, 176, 15, 16, 184, 185, 186, 288, 289, 290, 14, 291, 47, 292, 48, 49, 293, 294, 197, 295, 296, 297, 298, 56, 50, 57, 58, 299, 300, 301, 302, 303, 196, 198, 304, 305, 306, 46, 307, 64, 240, 241, 242, 243, 66, 308, 309, 310, 311, 924, 925, 926, 927, 928, 929, 930, 931, 932, 933, 934, 935, 871, 872, 873, 874, 875, 876, 877, 878, 879, 880, 956, 957, 958] (by decide +kernel) (by decide +kernel)
set_option maxRecDepth 20000 in
theorem gL_law_X9_felt : GoodIn wsL_law (wsV RL 46 RX9 yX9_felt wsX9_felt) := goodIn_app (goodIn_of _ (by decide +kernel)) ggL_law_X9_felt
set_option maxRecDepth 20000 in
theorem ggL_law_X10_felt : GoodIn wsL_law wsX10_felt := goodIn_r _ [357, 322, 136, 137, 323, 324, 5, 325, 206, 207, 208, 326, 327, 328, 329, 320, 321, 130, 132, 135, 133, 330, 331, 332, 333, 334, 335, 336, 881, 882, 883, 884, 885, 886, 887, 888, 889, 890, 891, 892, 893, 894, 895, 896, 897, 898, 899, 900, 901, 902, 903, 904, 905, 906, 907, 908, 909, 910, 911, 912, 913, 914, 915, 916, 917, 918, 919, 920, 921, 922, 923] (by decide +kernel) (by decide +kernel)
set_option maxRecDepth 20000 in
theorem gL_law_X10_felt : GoodIn wsL_law (wsV RL 49 RX10 yX10_felt wsX10_felt) := goodIn_app (goodIn_of _ (by decide +kernel)) ggL_law_X10_felt
set_option maxRecDepth 20000 in
theorem ggL_law_X9_joint : GoodIn wsL_law wsX9_joint := goodIn_r _ [361, 362, 20, 184, 185, 2, 186, 363, 364, 365, 19, 366, 83, 81, 871, 872, 873, 874, 875, 876, 877, 878, 879, 880, 936, 937, 938, 939, 940] (by decide +kernel) (by decide +kernel)
set_option maxRecDepth 20000 in
theorem gL_law_X9_joint : GoodIn wsL_law (wsV RL 50 RX9 yX9_joint wsX9_joint) := goodIn_app (goodIn_of _ (by decide +kernel)) ggL_law_X9_joint
set_option maxRecDepth 20000 in
theorem ggL_law_X10_joint : GoodIn wsL_law wsX10_joint := goodIn_r _ [370, 371, 372, 138, 206, 207, 5, 208, 881, 882, 883, 884, 885, 886, 887, 888, 889, 890, 891, 892, 893, 894, 895, 896, 897, 898, 899, 900, 901, 902, 903, 904, 905, 906, 907, 908, 909, 910, 911, 912, 913, 914, 915, 916, 917, 918, 919, 920, 921, 922, 923] (by decide +kernel) (by decide +kernel)
set_option maxRecDepth 20000 in
theorem gL_law_X10_joint : GoodIn wsL_law (wsV RL 53 RX10 yX10_joint wsX10_joint) := goodIn_app (goodIn_of _ (by decide +kernel)) ggL_law_X10_joint
set_option maxRecDepth 20000 in
theorem ggL_law_X9_wipe : GoodIn wsL_law wsX9_wipe := goodIn_r _ [376, 20, 377, 871, 872, 873, 874, 875, 876, 877, 878, 879, 880, 936, 937, 938, 939, 940] (by decide +kernel) (by decide +kernel)
set_option maxRecDepth 20000 in
theorem gL_law_X9_wipe : GoodIn wsL_law (wsV RL 54 RX9 yX9_wipe wsX9_wipe) := goodIn_app (goodIn_of _ (by decide +kernel)) ggL_law_X9_wipe
set_option maxRecDepth 20000 in
theorem ggL_law_X10_wipe : GoodIn wsL_law wsX10_wipe := goodIn_r _ [381, 372, 881, 882, 883, 884, 885, 886, 887, 888, 889, 890, 891, 892, 893, 894, 895, 896, 897, 898, 899, 900, 901, 902, 903, 904, 905, 906, 907, 908, 909, 910, 911, 912, 913, 914, 915, 916, 917, 918, 919, 920, 921, 922, 923] (by decide +kernel) (by decide +kernel)
set_option maxRecDepth 20000 in
theorem gL_law_X10_wipe : GoodIn wsL_law (wsV RL 58 RX10 yX10_wipe wsX10_wipe) := goodIn_app (goodIn_of _ (by decide +kernel)) ggL_law_X10_wipe
set_option maxRecDepth 20000 in
theorem ggL_law_X9_costs : GoodIn wsL_law wsX9_costs := goodIn_r _ [385, 386, 20, 387, 388, 184, 185, 2, 186, 871, 872, 873, 874, 875, 876, 877, 878, 879, 880, 936, 937, 938, 939, 940] (by decide +kernel) (by decide +kernel)
set_option maxRecDepth 20000 in
theorem gL_law_X9_costs : GoodIn wsL_law (wsV RL 59 RX9 yX9_costs wsX9_costs) := goodIn_app (goodIn_of _ (by decide +kernel)) ggL_law_X9_costs
set_option maxRecDepth 20000 in
theorem ggL_law_X10_costs : GoodIn wsL_law wsX10_costs := goodIn_r _ [392, 393, 139, 140, 206, 207, 5, 208, 881, 882, 883, 884, 885, 886, 887, 888, 889, 890, 891, 892, 893, 894, 895, 896, 897, 898, 899, 900, 901, 902, 903, 904, 905, 906, 907, 908, 909, 910, 911, 912, 913, 914, 915, 916, 917, 918, 919, 920, 921, 922, 923] (by decide +kernel) (by decide +kernel)
set_option maxRecDepth 20000 in
theorem gL_law_X10_costs : GoodIn wsL_law (wsV RL 62 RX10 yX10_costs wsX10_costs) := goodIn_app (goodIn_of _ (by decide +kernel)) ggL_law_X10_costs
set_option maxRecDepth 20000 in
theorem ggL_law_X9_match : GoodIn wsL_law wsX9_match := goodIn_r _ [397, 20, 173, 174, 175, 2, 176, 15, 16, 288, 289, 290, 14, 291, 47, 292, 48, 49, 293, 294, 197, 295, 296, 297, 298, 56, 50, 57, 58, 299, 300, 301, 302, 303, 196, 198, 304, 305, 306, 46, 307, 64, 240, 241, 242, 243, 66, 185, 186, 308, 309, 310, 311, 398, 399, 400, 19, 401, 402, 82, 85, 83, 84, 403, 404, 405, 406, 407, 81, 408, 409, 410, 411, 871, 872, 873, 874, 875, 876, 877, 878, 879, 880, 924, 925, 926, 927, 928, 929, 930, 931, 932, 933, 934, 935, 956, 957, 958, 936, 937, 938, 939, 940] (by decide +kernel) (by decide +kernel)
set_option maxRecDepth 20000 in
theorem gL_law_X9_match : GoodIn wsL_law (wsV RL 63 RX9 yX9_match wsX9_match) := goodIn_app (goodIn_of _ (by decide +kernel)) ggL_law_X9_match
set_option maxRecDepth 20000 in
theorem ggL_law_X10_match : GoodIn wsL_law wsX10_match := goodIn_r _ [415, 141, 372, 322, 323, 324, 5, 325, 206, 207, 208, 416, 417, 418, 419, 420, 139, 140, 142, 326, 327, 328, 329, 320, 321, 130, 132, 135, 133, 136, 137, 330, 331, 332, 333, 334, 335, 336, 421, 422, 423, 424, 138, 425, 426, 427, 881, 882, 883, 884, 885, 886, 887, 888, 889, 890, 891, 892, 893, 894, 895, 896, 897, 898, 899, 900, 901, 902, 903, 904, 905, 906, 907, 908, 909, 910, 911, 912, 913, 914, 915, 916, 917, 918, 919, 920, 921, 922, 923] (by decide +kernel) (by decide +kernel)
set_option maxRecDepth 20000 in
theorem gL_law_X10_match : GoodIn wsL_law (wsV RL 66 RX10 yX10_match wsX10_match) := goodIn_app (goodIn_of _ (by decide +kernel)) ggL_law_X10_match
set_option maxRecDepth 20000 in
theorem ggL_law_X9_paired : GoodIn wsL_law wsX9_paired := goodIn_r _ [431, 20, 432, 173, 174, 175, 2, 176, 15, 16, 433, 434, 435, 19, 436, 83, 288, 289, 290, 14, 291, 47, 292, 48, 49, 293, 294, 197, 295, 296, 297, 298, 56, 50, 57, 58, 299, 300, 301, 302, 303, 196, 198, 304, 305, 306, 46, 307, 64, 240, 241, 242, 243, 66, 185, 186, 308, 309, 310, 311, 437, 438, 439, 440, 402, 82, 441, 442, 399, 400, 401, 85, 84, 403, 404, 405, 406, 407, 81, 408, 409, 410, 411, 443, 444, 445, 446, 871, 872, 873, 874, 875, 876, 877, 878, 879, 880, 924, 925, 926, 927, 928, 929, 930, 931, 932, 933, 934, 935, 936, 937, 938, 939, 940, 956, 957, 958] (by decide +kernel) (by decide +kernel)
set_option maxRecDepth 20000 in
theorem gL_law_X9_paired : GoodIn wsL_law (wsV RL 67 RX9 yX9_paired wsX9_paired) := goodIn_app (goodIn_of _ (by decide +kernel)) ggL_law_X9_paired
set_option maxRecDepth 20000 in
theorem ggL_law_X10_paired : GoodIn wsL_law wsX10_paired := goodIn_r _ [450, 372, 142, 323, 324, 5, 325, 206, 207, 208, 416, 417, 418, 419, 322, 420, 141, 139, 140, 326, 327, 328, 329, 320, 321, 130, 132, 135, 133, 136, 137, 330, 331, 332, 333, 334, 335, 336, 421, 422, 423, 424, 138, 425, 426, 427, 881, 882, 883, 884, 885, 886, 887, 888, 889, 890, 891, 892, 893, 894, 895, 896, 897, 898, 899, 900, 901, 902, 903, 904, 905, 906, 907, 908, 909, 910, 911, 912, 913, 914, 915, 916, 917, 918, 919, 920, 921, 922, 923] (by decide +kernel) (by decide +kernel)
set_option maxRecDepth 20000 in
theorem gL_law_X10_paired : GoodIn wsL_law (wsV RL 70 RX10 yX10_paired wsX10_paired) := goodIn_app (goodIn_of _ (by decide +kernel)) ggL_law_X10_paired
set_option maxRecDepth 20000 in
theorem ggL_law_X9_mark : GoodIn wsL_law wsX9_mark := goodIn_r _ [454, 455, 456, 173, 174, 175, 2, 176, 15, 16, 184, 185, 186, 457, 458, 459, 53, 460, 461, 71, 72, 73, 74, 924, 925, 926, 927, 928, 929, 930, 931, 932, 933, 934, 935, 871, 872, 873, 874, 875, 876, 877, 878, 879, 880, 959, 960, 961, 962, 963, 964, 965, 966] (by decide +kernel) (by decide +kernel)
set_option maxRecDepth 20000 in
theorem gL_law_X9_mark : GoodIn wsL_law (wsV RL 71 RX9 yX9_mark wsX9_mark) := goodIn_app (goodIn_of _ (by decide +kernel)) ggL_law_X9_mark
set_option maxRecDepth 20000 in
theorem ggL_law_X10_mark : GoodIn wsL_law wsX10_mark := goodIn_r _ [465, 466, 143, 144, 145, 146, 147, 323, 324, 5, 325, 206, 207, 208, 881, 882, 883, 884, 885, 886, 887, 888, 889, 890, 891, 892, 893, 894, 895, 896, 897, 898, 899, 900, 901, 902, 903, 904, 905, 906, 907, 908, 909, 910, 911, 912, 913, 914, 915, 916, 917, 918, 919, 920, 921, 922, 923] (by decide +kernel) (by decide +kernel)
set_option maxRecDepth 20000 in
theorem gL_law_X10_mark : GoodIn wsL_law (wsV RL 74 RX10 yX10_mark wsX10_mark) := goodIn_app (goodIn_of _ (by decide +kernel)) ggL_law_X10_mark
set_option maxRecDepth 20000 in
theorem ggL_law_X9_clear : GoodIn wsL_law wsX9_clear := goodIn_r _ [470, 456, 471, 173, 174, 175, 2, 176, 15, 16, 924, 925, 926, 927, 928, 929, 930, 931, 932, 933, 934, 935, 959, 960, 961, 962, 963, 964, 965, 966, 871, 872, 873, 874, 875, 876, 877, 878, 879, 880] (by decide +kernel) (by decide +kernel)
set_option maxRecDepth 20000 in
theorem gL_law_X9_clear : GoodIn wsL_law (wsV RL 75 RX9 yX9_clear wsX9_clear) := goodIn_app (goodIn_of _ (by decide +kernel)) ggL_law_X9_clear
set_option maxRecDepth 20000 in
theorem ggL_law_X10_clear : GoodIn wsL_law wsX10_clear := goodIn_r _ [475, 143, 323, 324, 5, 325, 206, 207, 208, 881, 882, 883, 884, 885, 886, 887, 888, 889, 890, 891, 892, 893, 894, 895, 896, 897, 898, 899, 900, 901, 902, 903, 904, 905, 906, 907, 908, 909, 910, 911, 912, 913, 914, 915, 916, 917, 918, 919, 920, 921, 922, 923] (by decide +kernel) (by decide +kernel)
set_option maxRecDepth 20000 in
theorem gL_law_X10_clear : GoodIn wsL_law (wsV RL 78 RX10 yX10_clear wsX10_clear) := goodIn_app (goodIn_of _ (by decide +kernel)) ggL_law_X10_clear
set_option maxRecDepth 20000 in
theorem ggL_law_X9_about : GoodIn wsL_law wsX9_about := goodIn_r _ [479, 456, 37, 38, 173, 174, 175, 2, 176, 15, 16, 480, 481, 482, 53, 483, 461, 184, 185, 186, 288, 289, 290, 14, 291, 47, 292, 48, 49, 293, 294, 197, 295, 296, 297, 298, 56, 50, 57, 58, 299, 300, 301, 302, 303, 196, 198, 304, 305, 306, 46, 307, 64, 240, 241, 242, 243, 66, 308, 309, 310, 311, 484, 485, 486, 487, 488, 75, 489, 490, 491, 492, 76, 493, 494, 495, 496, 71, 497, 72, 498, 499, 500, 501, 74, 502, 503, 504, 410, 411, 505, 506, 507, 508, 509, 54, 510, 511, 512, 513, 514, 515, 516, 517, 518, 73, 924, 925, 926, 927, 928, 929, 930, 931, 932, 933, 934, 935, 871, 872, 873, 874, 875, 876, 877, 878, 879, 880, 959, 960, 961, 962, 963, 964, 965, 966, 956, 957, 958] (by decide +kernel) (by decide +kernel)
set_option maxRecDepth 20000 in
theorem gL_law_X9_about : GoodIn wsL_law (wsV RL 79 RX9 yX9_about wsX9_about) := goodIn_app (goodIn_of _ (by decide +kernel)) ggL_law_X9_about
set_option maxRecDepth 20000 in
theorem ggL_law_X10_about : GoodIn wsL_law wsX10_about := goodIn_r _ [522, 144, 145, 146, 147, 150, 523, 524, 525, 5, 526, 143, 323, 324, 325, 206, 207, 208, 326, 327, 328, 329, 320, 321, 322, 130, 132, 135, 133, 136, 137, 330, 331, 332, 333, 334, 335, 336, 527, 528, 529, 530, 531, 532, 533, 534, 535, 536, 537, 538, 539, 148, 149, 540, 541, 542, 425, 426, 427, 881, 882, 883, 884, 885, 886, 887, 888, 889, 890, 891, 892, 893, 894, 895, 896, 897, 898, 899, 900, 901, 902, 903, 904, 905, 906, 907, 908, 909, 910, 911, 912, 913, 914, 915, 916, 917, 918, 919, 920, 921, 922, 923] (by decide +kernel) (by decide +kernel)
set_option maxRecDepth 20000 in
theorem gL_law_X10_about : GoodIn wsL_law (wsV RL 82 RX10 yX10_about wsX10_about) := goodIn_app (goodIn_of _ (by decide +kernel)) ggL_law_X10_about
set_option maxRecDepth 20000 in
theorem ggL_law_X9_near : GoodIn wsL_law wsX9_near := goodIn_r _ [546, 362, 37, 38, 184, 185, 2, 186, 871, 872, 873, 874, 875, 876, 877, 878, 879, 880] (by decide +kernel) (by decide +kernel)
set_option maxRecDepth 20000 in
theorem gL_law_X9_near : GoodIn wsL_law (wsV RL 83 RX9 yX9_near wsX9_near) := goodIn_app (goodIn_of _ (by decide +kernel)) ggL_law_X9_near
set_option maxRecDepth 20000 in
theorem ggL_law_X10_near : GoodIn wsL_law wsX10_near := goodIn_r _ [550, 371, 148, 149, 206, 207, 5, 208, 881, 882, 883, 884, 885, 886, 887, 888, 889, 890, 891, 892, 893, 894, 895, 896, 897, 898, 899, 900, 901, 902, 903, 904, 905, 906, 907, 908, 909, 910, 911, 912, 913, 914, 915, 916, 917, 918, 919, 920, 921, 922, 923] (by decide +kernel) (by decide +kernel)
set_option maxRecDepth 20000 in
theorem gL_law_X10_near : GoodIn wsL_law (wsV RL 86 RX10 yX10_near wsX10_near) := goodIn_app (goodIn_of _ (by decide +kernel)) ggL_law_X10_near
set_option maxRecDepth 20000 in
theorem ggL_law_X9_groups : GoodIn wsL_law wsX9_groups := goodIn_r _ [554, 456, 37, 38, 555, 173, 174, 175, 2, 176, 15, 16, 484, 485, 486, 53, 487, 488, 461, 75, 489, 490, 491, 492, 76, 493, 494, 495, 496, 71, 497, 294, 197, 295, 72, 498, 499, 500, 501, 74, 502, 503, 504, 410, 411, 505, 196, 198, 924, 925, 926, 927, 928, 929, 930, 931, 932, 933, 934, 935, 871, 872, 873, 874, 875, 876, 877, 878, 879, 880, 959, 960, 961, 962, 963, 964, 965, 966] (by decide +kernel) (by decide +kernel)
set_option maxRecDepth 20000 in
theorem gL_law_X9_groups : GoodIn wsL_law (wsV RL 87 RX9 yX9_groups wsX9_groups) := goodIn_app (goodIn_of _ (by decide +kernel)) ggL_law_X9_groups
set_option maxRecDepth 20000 in
theorem ggL_law_X10_groups : GoodIn wsL_law wsX10_groups := goodIn_r _ [559, 535, 323, 324, 5, 325, 206, 207, 208, 531, 532, 533, 534, 150, 143, 536, 537, 538, 539, 144, 147, 148, 145, 149, 540, 541, 542, 425, 426, 427, 881, 882, 883, 884, 885, 886, 887, 888, 889, 890, 891, 892, 893, 894, 895, 896, 897, 898, 899, 900, 901, 902, 903, 904, 905, 906, 907, 908, 909, 910, 911, 912, 913, 914, 915, 916, 917, 918, 919, 920, 921, 922, 923] (by decide +kernel) (by decide +kernel)
set_option maxRecDepth 20000 in
theorem gL_law_X10_groups : GoodIn wsL_law (wsV RL 90 RX10 yX10_groups wsX10_groups) := goodIn_app (goodIn_of _ (by decide +kernel)) ggL_law_X10_groups
set_option maxRecDepth 20000 in
theorem ggL_law_X9_group : GoodIn wsL_law wsX9_group := goodIn_r _ [563, 456, 37, 38, 555, 173, 174, 175, 2, 176, 15, 16, 184, 185, 186, 484, 485, 486, 53, 487, 488, 461, 75, 489, 490, 491, 492, 76, 493, 494, 495, 496, 71, 497, 294, 197, 295, 72, 498, 499, 500, 501, 74, 502, 503, 504, 410, 411, 505, 196, 198, 564, 565, 566, 567, 568, 73, 924, 925, 926, 927, 928, 929, 930, 931, 932, 933, 934, 935, 871, 872, 873, 874, 875, 876, 877, 878, 879, 880, 959, 960, 961, 962, 963, 964, 965, 966] (by decide +kernel) (by decide +kernel)
set_option maxRecDepth 20000 in
theorem gL_law_X9_group : GoodIn wsL_law (wsV RL 91 RX9 yX9_group wsX9_group) := goodIn_app (goodIn_of _ (by decide +kernel)) ggL_law_X9_group
set_option maxRecDepth 20000 in
theorem ggL_law_X10_group : GoodIn wsL_law wsX10_group := goodIn_r _ [572, 535, 143, 150, 144, 147, 146, 323, 324, 5, 325, 206, 207, 208, 531, 532, 533, 534, 536, 537, 538, 539, 148, 145, 149, 540, 541, 542, 425, 426, 427, 881, 882, 883, 884, 885, 886, 887, 888, 889, 890, 891, 892, 893, 894, 895, 896, 897, 898, 899, 900, 901, 902, 903, 904, 905, 906, 907, 908, 909, 910, 911, 912, 913, 914, 915, 916, 917, 918, 919, 920, 921, 922, 923] (by decide +kernel) (by decide +kernel)
set_option maxRecDepth 20000 in
theorem gL_law_X10_group : GoodIn wsL_law (wsV RL 94 RX10 yX10_group wsX10_group) := goodIn_app (goodIn_of _ (by decide +kernel)) ggL_law_X10_group
set_option maxRecDepth 20000 in
theorem ggL_law_X9_alone : GoodIn wsL_law wsX9_alone := goodIn_r _ [576, 362, 24, 577, 184, 185, 2, 186, 871, 872, 873, 874, 875, 876, 877, 878, 879, 880, 941, 942, 943, 944] (by decide +kernel) (by decide +kernel)
set_option maxRecDepth 20000 in
theorem gL_law_X9_alone : GoodIn wsL_law (wsV RL 95 RX9 yX9_alone wsX9_alone) := goodIn_app (goodIn_of _ (by decide +kernel)) ggL_law_X9_alone
set_option maxRecDepth 20000 in
theorem ggL_law_X10_alone : GoodIn wsL_law wsX10_alone := goodIn_r _ [581, 371, 151, 206, 207, 5, 208, 881, 882, 883, 884, 885, 886, 887, 888, 889, 890, 891, 892, 893, 894, 895, 896, 897, 898, 899, 900, 901, 902, 903, 904, 905, 906, 907, 908, 909, 910, 911, 912, 913, 914, 915, 916, 917, 918, 919, 920, 921, 922, 923] (by decide +kernel) (by decide +kernel)
set_option maxRecDepth 20000 in
theorem gL_law_X10_alone : GoodIn wsL_law (wsV RL 98 RX10 yX10_alone wsX10_alone) := goodIn_app (goodIn_of _ (by decide +kernel)) ggL_law_X10_alone
set_option maxRecDepth 20000 in
theorem ggL_law_X9_pairing : GoodIn wsL_law wsX9_pairing := goodIn_r _ [585, 20, 24, 15, 432, 16, 433, 434, 435, 19, 436, 83, 586, 587, 588, 2, 589, 288, 289, 290, 14, 291, 47, 292, 48, 49, 293, 294, 197, 295, 296, 297, 298, 56, 50, 57, 58, 299, 300, 301, 302, 303, 196, 198, 304, 305, 306, 46, 307, 64, 240, 241, 242, 243, 66, 185, 186, 308, 309, 310, 311, 437, 438, 439, 440, 402, 82, 441, 442, 399, 400, 401, 85, 84, 403, 404, 405, 406, 407, 81, 408, 409, 410, 411, 443, 444, 445, 446, 590, 591, 592, 23, 593, 93, 94, 594, 95, 96, 595, 596, 597, 92, 598, 599, 600, 601, 602, 603, 101, 102, 604, 103, 605, 606, 512, 513, 514, 607, 608, 609, 610, 611, 612, 613, 614, 615, 616, 617, 618, 619, 620, 621, 622, 623, 624, 625, 502, 503, 504, 505, 871, 872, 873, 874, 875, 876, 877, 878, 879, 880, 924, 925, 926, 927, 928, 929, 930, 931, 932, 933, 934, 935, 936, 937, 938, 939, 940, 956, 957, 958, 941, 942, 943, 944, 967, 968, 969, 970, 959, 960, 961, 962, 963, 964, 965, 966] (by decide +kernel) (by decide +kernel)
set_option maxRecDepth 20000 in
theorem gL_law_X9_pairing : GoodIn wsL_law (wsV RL 99 RX9 yX9_pairing wsX9_pairing) := goodIn_app (goodIn_of _ (by decide +kernel)) ggL_law_X9_pairing
set_option maxRecDepth 20000 in
theorem ggL_law_X10_pairing : GoodIn wsL_law wsX10_pairing := goodIn_r _ [629, 372, 206, 207, 5, 208, 630, 631, 632, 633, 155, 156, 634, 635, 636, 637, 152, 142, 143, 144, 153, 154, 136, 416, 417, 418, 419, 322, 420, 141, 139, 140, 326, 327, 328, 329, 320, 321, 130, 132, 135, 133, 137, 330, 331, 332, 333, 334, 335, 336, 421, 422, 423, 424, 138, 425, 426, 427, 527, 528, 529, 530, 638, 639, 640, 641, 151, 145, 540, 541, 542, 642, 643, 644, 645, 881, 882, 883, 884, 885, 886, 887, 888, 889, 890, 891, 892, 893, 894, 895, 896, 897, 898, 899, 900, 901, 902, 903, 904, 905, 906, 907, 908, 909, 910, 911, 912, 913, 914, 915, 916, 917, 918, 919, 920, 921, 922, 923] (by decide +kernel) (by decide +kernel)
set_option maxRecDepth 20000 in
theorem gL_law_X10_pairing : GoodIn wsL_law (wsV RL 102 RX10 yX10_pairing wsX10_pairing) := goodIn_app (goodIn_of _ (by decide +kernel)) ggL_law_X10_pairing
set_option maxRecDepth 20000 in
theorem ggL_law_X9_twin : GoodIn wsL_law wsX9_twin := goodIn_r _ [649, 15, 456, 480, 481, 482, 53, 483, 461, 650, 651, 652, 2, 653, 20, 654, 24, 432, 16, 586, 587, 588, 589, 288, 289, 290, 14, 291, 47, 292, 48, 49, 293, 294, 197, 295, 296, 297, 298, 56, 50, 57, 58, 299, 300, 301, 302, 303, 196, 198, 304, 305, 306, 46, 307, 64, 240, 241, 242, 243, 66, 185, 186, 308, 309, 310, 311, 437, 438, 439, 19, 440, 402, 83, 82, 441, 442, 399, 400, 401, 85, 84, 403, 404, 405, 406, 407, 81, 408, 409, 410, 411, 443, 444, 445, 446, 655, 512, 513, 514, 656, 657, 658, 659, 590, 591, 592, 23, 593, 93, 94, 594, 95, 96, 595, 596, 597, 92, 598, 599, 600, 601, 602, 603, 101, 102, 604, 103, 605, 606, 607, 608, 609, 610, 611, 612, 613, 614, 615, 616, 617, 618, 619, 620, 621, 622, 623, 624, 625, 502, 503, 504, 505, 660, 661, 662, 663, 664, 665, 666, 667, 668, 871, 872, 873, 874, 875, 876, 877, 878, 879, 880, 924, 925, 926, 927, 928, 929, 930, 931, 932, 933, 934, 935, 959, 960, 961, 962, 963, 964, 965, 966, 956, 957, 958, 936, 937, 938, 939, 940, 941, 942, 943, 944, 967, 968, 969, 970] (by decide +kernel) (by decide +kernel)
set_option maxRecDepth 20000 in
theorem gL_law_X9_twin : GoodIn wsL_law (wsV RL 103 RX9 yX9_twin wsX9_twin) := goodIn_app (goodIn_of _ (by decide +kernel)) ggL_law_X9_twin
set_option maxRecDepth 20000 in
theorem ggL_law_X10_twin : GoodIn wsL_law wsX10_twin := goodIn_r _ [672, 523, 524, 525, 5, 526, 143, 323, 324, 325, 206, 207, 208, 673, 674, 675, 676, 144, 372, 142, 152, 153, 156, 416, 417, 418, 419, 322, 420, 141, 139, 140, 326, 327, 328, 329, 320, 321, 130, 132, 135, 133, 136, 137, 330, 331, 332, 333, 334, 335, 336, 421, 422, 423, 424, 138, 425, 426, 427, 527, 528, 529, 530, 630, 631, 632, 633, 155, 634, 635, 636, 637, 154, 638, 639, 640, 641, 151, 145, 540, 541, 542, 642, 643, 644, 645, 881, 882, 883, 884, 885, 886, 887, 888, 889, 890, 891, 892, 893, 894, 895, 896, 897, 898, 899, 900, 901, 902, 903, 904, 905, 906, 907, 908, 909, 910, 911, 912, 913, 914, 915, 916, 917, 918, 919, 920, 921, 922, 923] (by decide +kernel) (by decide +kernel)
set_option maxRecDepth 20000 in
theorem gL_law_X10_twin : GoodIn wsL_law (wsV RL 106 RX10 yX10_twin wsX10_twin) := goodIn_app (goodIn_of _ (by decide +kernel)) ggL_law_X10_twin
set_option maxRecDepth 20000 in
theorem ggL_law_X9_tool : GoodIn wsL_law wsX9_tool := goodIn_r _ [680, 28, 681, 682, 683, 184, 185, 2, 186, 871, 872, 873, 874, 875, 876, 877, 878, 879, 880, 945, 946, 947] (by decide +kernel) (by decide +kernel)
set_option maxRecDepth 20000 in
theorem gL_law_X9_tool : GoodIn wsL_law (wsV RL 107 RX9 yX9_tool wsX9_tool) := goodIn_app (goodIn_of _ (by decide +kernel)) ggL_law_X9_tool
set_option maxRecDepth 20000 in
theorem ggL_law_X10_tool : GoodIn wsL_law wsX10_tool := goodIn_r _ [687, 157, 158, 159, 206, 207, 5, 208, 881, 882, 883, 884, 885, 886, 887, 888, 889, 890, 891, 892, 893, 894, 895, 896, 897, 898, 899, 900, 901, 902, 903, 904, 905, 906, 907, 908, 909, 910, 911, 912, 913, 914, 915, 916, 917, 918, 919, 920, 921, 922, 923] (by decide +kernel) (by decide +kernel)
set_option maxRecDepth 20000 in
theorem gL_law_X10_tool : GoodIn wsL_law (wsV RL 110 RX10 yX10_tool wsX10_tool) := goodIn_app (goodIn_of _ (by decide +kernel)) ggL_law_X10_tool
set_option maxRecDepth 20000 in
theorem ggL_law_X9_growth : GoodIn wsL_law wsX9_growth := goodIn_r _ [691, 15, 456, 16, 28, 692, 480, 481, 482, 53, 483, 461, 184, 185, 2, 186, 650, 651, 652, 653, 20, 654, 24, 432, 586, 587, 588, 589, 288, 289, 290, 14, 291, 47, 292, 48, 49, 293, 294, 197, 295, 296, 297, 298, 56, 50, 57, 58, 299, 300, 301, 302, 303, 196, 198, 304, 305, 306, 46, 307, 64, 240, 241, 242, 243, 66, 308, 309, 310, 311, 437, 438, 439, 19, 440, 402, 83, 82, 441, 442, 399, 400, 401, 85, 84, 403, 404, 405, 406, 407, 81, 408, 409, 410, 411, 443, 444, 445, 446, 655, 512, 513, 514, 656, 657, 658, 659, 590, 591, 592, 23, 593, 93, 94, 594, 95, 96, 595, 596, 597, 92, 598, 599, 600, 601, 602, 603, 101, 102, 604, 103, 605, 606, 607, 608, 609, 610, 611, 612, 613, 614, 615, 616, 617, 618, 619, 620, 621, 622, 623, 624, 625, 502, 503, 504, 505, 660, 661, 662, 663, 664, 665, 666, 667, 668, 693, 694, 695, 27, 696, 697, 698, 699, 700, 701, 109, 702, 703, 704, 705, 706, 707, 708, 709, 710, 108, 110, 871, 872, 873, 874, 875, 876, 877, 878, 879, 880, 924, 925, 926, 927, 928, 929, 930, 931, 932, 933, 934, 935, 959, 960, 961, 962, 963, 964, 965, 966, 956, 957, 958, 936, 937, 938, 939, 940, 941, 942, 943, 944, 967, 968, 969, 970, 945, 946, 947] (by decide +kernel) (by decide +kernel)
set_option maxRecDepth 20000 in
theorem gL_law_X9_growth : GoodIn wsL_law (wsV RL 111 RX9 yX9_growth wsX9_growth) := goodIn_app (goodIn_of _ (by decide +kernel)) ggL_law_X9_growth
set_option maxRecDepth 20000 in
theorem ggL_law_X10_growth : GoodIn wsL_law wsX10_growth := goodIn_r _ [714, 146, 157, 159, 523, 524, 525, 5, 526, 143, 323, 324, 325, 206, 207, 208, 673, 674, 675, 676, 144, 372, 142, 152, 153, 156, 416, 417, 418, 419, 322, 420, 141, 139, 140, 326, 327, 328, 329, 320, 321, 130, 132, 135, 133, 136, 137, 330, 331, 332, 333, 334, 335, 336, 421, 422, 423, 424, 138, 425, 426, 427, 527, 528, 529, 530, 630, 631, 632, 633, 155, 634, 635, 636, 637, 154, 638, 639, 640, 641, 151, 145, 540, 541, 542, 642, 643, 644, 645, 715, 716, 717, 718, 158, 719, 720, 721, 722, 881, 882, 883, 884, 885, 886, 887, 888, 889, 890, 891, 892, 893, 894, 895, 896, 897, 898, 899, 900, 901, 902, 903, 904, 905, 906, 907, 908, 909, 910, 911, 912, 913, 914, 915, 916, 917, 918, 919, 920, 921, 922, 923] (by decide +kernel) (by decide +kernel)
set_option maxRecDepth 20000 in
theorem gL_law_X10_growth : GoodIn wsL_law (wsV RL 114 RX10 yX10_growth wsX10_growth) := goodIn_app (goodIn_of _ (by decide +kernel)) ggL_law_X10_growth
set_option maxRecDepth 20000 in
theorem ggL_law_X9_work : GoodIn wsL_law wsX9_work := goodIn_r _ [726, 32, 184, 185, 2, 186, 727, 728, 729, 31, 730, 731, 115, 116, 732, 871, 872, 873, 874, 875, 876, 877, 878, 879, 880, 948, 949, 950, 951, 952, 953] (by decide +kernel) (by decide +kernel)
set_option maxRecDepth 20000 in
theorem gL_law_X9_work : GoodIn wsL_law (wsV RL 115 RX9 yX9_work wsX9_work) := goodIn_app (goodIn_of _ (by decide +kernel)) ggL_law_X9_work
set_option maxRecDepth 20000 in
theorem ggL_law_X10_work : GoodIn wsL_law wsX10_work := goodIn_r _ [736, 737, 160, 161, 206, 207, 5, 208, 881, 882, 883, 884, 885, 886, 887, 888, 889, 890, 891, 892, 893, 894, 895, 896, 897, 898, 899, 900, 901, 902, 903, 904, 905, 906, 907, 908, 909, 910, 911, 912, 913, 914, 915, 916, 917, 918, 919, 920, 921, 922, 923] (by decide +kernel) (by decide +kernel)
set_option maxRecDepth 20000 in
theorem gL_law_X10_work : GoodIn wsL_law (wsV RL 118 RX10 yX10_work wsX10_work) := goodIn_app (goodIn_of _ (by decide +kernel)) ggL_law_X10_work
set_option maxRecDepth 20000 in
theorem ggL_law_X9_yearly : GoodIn wsL_law wsX9_yearly := goodIn_r _ [741, 32, 742, 743, 184, 185, 2, 186, 871, 872, 873, 874, 875, 876, 877, 878, 879, 880, 948, 949, 950, 951, 952, 953] (by decide +kernel) (by decide +kernel)
set_option maxRecDepth 20000 in
theorem gL_law_X9_yearly : GoodIn wsL_law (wsV RL 119 RX9 yX9_yearly wsX9_yearly) := goodIn_app (goodIn_of _ (by decide +kernel)) ggL_law_X9_yearly
set_option maxRecDepth 20000 in
theorem ggL_law_X10_yearly : GoodIn wsL_law wsX10_yearly := goodIn_r _ [747, 162, 163, 206, 207, 5, 208, 881, 882, 883, 884, 885, 886, 887, 888, 889, 890, 891, 892, 893, 894, 895, 896, 897, 898, 899, 900, 901, 902, 903, 904, 905, 906, 907, 908, 909, 910, 911, 912, 913, 914, 915, 916, 917, 918, 919, 920, 921, 922, 923] (by decide +kernel) (by decide +kernel)
set_option maxRecDepth 20000 in
theorem gL_law_X10_yearly : GoodIn wsL_law (wsV RL 122 RX10 yX10_yearly wsX10_yearly) := goodIn_app (goodIn_of _ (by decide +kernel)) ggL_law_X10_yearly
set_option maxRecDepth 20000 in
theorem ggL_law_X9_plan : GoodIn wsL_law wsX9_plan := goodIn_r _ [751, 32, 752, 753, 754, 31, 755, 756, 757, 758, 759, 116, 117, 760, 761, 762, 763, 764, 765, 766, 767, 732, 118, 768, 608, 609, 610, 611, 612, 613, 769, 871, 872, 873, 874, 875, 876, 877, 878, 879, 880, 948, 949, 950, 951, 952, 953] (by decide +kernel) (by decide +kernel)
set_option maxRecDepth 20000 in
theorem gL_law_X9_plan : GoodIn wsL_law (wsV RL 123 RX9 yX9_plan wsX9_plan) := goodIn_app (goodIn_of _ (by decide +kernel)) ggL_law_X9_plan
set_option maxRecDepth 20000 in
theorem ggL_law_X10_plan : GoodIn wsL_law wsX10_plan := goodIn_r _ [773, 163, 737, 160, 774, 775, 776, 5, 777, 778, 779, 780, 781, 161, 162, 782, 783, 784, 881, 882, 883, 884, 885, 886, 887, 888, 889, 890, 891, 892, 893, 894, 895, 896, 897, 898, 899, 900, 901, 902, 903, 904, 905, 906, 907, 908, 909, 910, 911, 912, 913, 914, 915, 916, 917, 918, 919, 920, 921, 922, 923] (by decide +kernel) (by decide +kernel)
set_option maxRecDepth 20000 in
theorem gL_law_X10_plan : GoodIn wsL_law (wsV RL 126 RX10 yX10_plan wsX10_plan) := goodIn_app (goodIn_of _ (by decide +kernel)) ggL_law_X10_plan
set_option maxRecDepth 20000 in
theorem ggL_law_X9_years : GoodIn wsL_law wsX9_years := goodIn_r _ [788, 32, 752, 753, 754, 31, 755, 756, 757, 758, 759, 116, 117, 760, 761, 762, 763, 764, 765, 766, 767, 732, 118, 768, 608, 609, 610, 611, 612, 613, 871, 872, 873, 874, 875, 876, 877, 878, 879, 880, 948, 949, 950, 951, 952, 953] (by decide +kernel) (by decide +kernel)
set_option maxRecDepth 20000 in
theorem gL_law_X9_years : GoodIn wsL_law (wsV RL 127 RX9 yX9_years wsX9_years) := goodIn_app (goodIn_of _ (by decide +kernel)) ggL_law_X9_years
set_option maxRecDepth 20000 in
theorem ggL_law_X10_years : GoodIn wsL_law wsX10_years := goodIn_r _ [792, 774, 775, 776, 5, 777, 163, 778, 779, 780, 781, 737, 161, 162, 782, 783, 784, 881, 882, 883, 884, 885, 886, 887, 888, 889, 890, 891, 892, 893, 894, 895, 896, 897, 898, 899, 900, 901, 902, 903, 904, 905, 906, 907, 908, 909, 910, 911, 912, 913, 914, 915, 916, 917, 918, 919, 920, 921, 922, 923] (by decide +kernel) (by decide +kernel)
set_option maxRecDepth 20000 in
theorem gL_law_X10_years : GoodIn wsL_law (wsV RL 130 RX10 yX10_years wsX10_years) := goodIn_app (goodIn_of _ (by decide +kernel)) ggL_law_X10_years
set_option maxRecDepth 20000 in
theorem ggL_law_X9_when : GoodIn wsL_law wsX9_when := goodIn_r _ [796, 32, 797, 752, 753, 754, 31, 755, 756, 757, 758, 759, 116, 117, 760, 761, 762, 763, 764, 765, 766, 767, 732, 118, 768, 608, 609, 610, 611, 612, 613, 798, 799, 800, 801, 802, 803, 804, 805, 731, 115, 871, 872, 873, 874, 875, 876, 877, 878, 879, 880, 948, 949, 950, 951, 952, 953] (by decide +kernel) (by decide +kernel)
set_option maxRecDepth 20000 in
theorem gL_law_X9_when : GoodIn wsL_law (wsV RL 131 RX9 yX9_when wsX9_when) := goodIn_app (goodIn_of _ (by decide +kernel)) ggL_law_X9_when
set_option maxRecDepth 20000 in
theorem ggL_law_X10_when : GoodIn wsL_law wsX10_when := goodIn_r _ [809, 737, 161, 162, 206, 207, 5, 208, 774, 775, 776, 777, 163, 778, 779, 780, 781, 782, 783, 784, 881, 882, 883, 884, 885, 886, 887, 888, 889, 890, 891, 892, 893, 894, 895, 896, 897, 898, 899, 900, 901, 902, 903, 904, 905, 906, 907, 908, 909, 910, 911, 912, 913, 914, 915, 916, 917, 918, 919, 920, 921, 922, 923] (by decide +kernel) (by decide +kernel)
set_option maxRecDepth 20000 in
theorem gL_law_X10_when : GoodIn wsL_law (wsV RL 134 RX10 yX10_when wsX10_when) := goodIn_app (goodIn_of _ (by decide +kernel)) ggL_law_X10_when
set_option maxRecDepth 20000 in
theorem ggL_law_X9_trap : GoodIn wsL_law wsX9_trap := goodIn_r _ [813, 36, 184, 185, 2, 186, 814, 815, 816, 35, 817, 123, 818, 819, 820, 821, 822, 823, 824, 825, 124, 826, 827, 828, 829, 830, 871, 872, 873, 874, 875, 876, 877, 878, 879, 880, 954, 955] (by decide +kernel) (by decide +kernel)
set_option maxRecDepth 20000 in
theorem gL_law_X9_trap : GoodIn wsL_law (wsV RL 135 RX9 yX9_trap wsX9_trap) := goodIn_app (goodIn_of _ (by decide +kernel)) ggL_law_X9_trap
set_option maxRecDepth 20000 in
theorem ggL_law_X10_trap : GoodIn wsL_law wsX10_trap := goodIn_r _ [834, 164, 835, 206, 207, 5, 208, 836, 837, 838, 839, 881, 882, 883, 884, 885, 886, 887, 888, 889, 890, 891, 892, 893, 894, 895, 896, 897, 898, 899, 900, 901, 902, 903, 904, 905, 906, 907, 908, 909, 910, 911, 912, 913, 914, 915, 916, 917, 918, 919, 920, 921, 922, 923] (by decide +kernel) (by decide +kernel)
set_option maxRecDepth 20000 in
theorem gL_law_X10_trap : GoodIn wsL_law (wsV RL 139 RX10 yX10_trap wsX10_trap) := goodIn_app (goodIn_of _ (by decide +kernel)) ggL_law_X10_trap
set_option maxRecDepth 20000 in
theorem ggL_law_X9_count : GoodIn wsL_law wsX9_count := goodIn_r _ [843, 20, 377, 15, 456, 471, 16, 32, 797, 36, 844, 845, 39, 871, 872, 873, 874, 875, 876, 877, 878, 879, 880, 936, 937, 938, 939, 940, 924, 925, 926, 927, 928, 929, 930, 931, 932, 933, 934, 935, 959, 960, 961, 962, 963, 964, 965, 966, 948, 949, 950, 951, 952, 953, 954, 955] (by decide +kernel) (by decide +kernel)
set_option maxRecDepth 20000 in
theorem gL_law_X9_count : GoodIn wsL_law (wsV RL 140 RX9 yX9_count wsX9_count) := goodIn_app (goodIn_of _ (by decide +kernel)) ggL_law_X9_count
set_option maxRecDepth 20000 in
theorem ggL_law_X10_count : GoodIn wsL_law wsX10_count := goodIn_r _ [849, 372, 143, 737, 164, 835, 213, 881, 882, 883, 884, 885, 886, 887, 888, 889, 890, 891, 892, 893, 894, 895, 896, 897, 898, 899, 900, 901, 902, 903, 904, 905, 906, 907, 908, 909, 910, 911, 912, 913, 914, 915, 916, 917, 918, 919, 920, 921, 922, 923] (by decide +kernel) (by decide +kernel)
set_option maxRecDepth 20000 in
theorem gL_law_X10_count : GoodIn wsL_law (wsV RL 143 RX10 yX10_count wsX10_count) := goodIn_app (goodIn_of _ (by decide +kernel)) ggL_law_X10_count
set_option maxRecDepth 20000 in
theorem ggL_law_X9_digest : GoodIn wsL_law wsX9_digest := goodIn_r _ [853, 854, 855, 15, 16, 856, 841, 842, 2, 843, 20, 377, 456, 471, 32, 797, 36, 844, 845, 39, 857, 858, 859, 860, 351, 353, 37, 38, 288, 289, 290, 14, 291, 47, 292, 48, 49, 293, 294, 197, 295, 296, 297, 298, 56, 50, 57, 58, 299, 300, 301, 302, 303, 196, 198, 304, 305, 306, 46, 307, 64, 240, 241, 242, 243, 66, 185, 186, 308, 309, 310, 311, 312, 313, 314, 315, 398, 399, 400, 19, 401, 402, 82, 85, 83, 84, 403, 404, 405, 406, 407, 81, 408, 409, 410, 411, 484, 485, 486, 53, 487, 488, 461, 75, 489, 490, 491, 492, 76, 493, 494, 495, 496, 71, 497, 72, 498, 499, 500, 501, 74, 502, 503, 504, 505, 506, 507, 508, 509, 54, 510, 511, 512, 513, 514, 515, 516, 517, 518, 73, 871, 872, 873, 874, 875, 876, 877, 878, 879, 880, 936, 937, 938, 939, 940, 924, 925, 926, 927, 928, 929, 930, 931, 932, 933, 934, 935, 959, 960, 961, 962, 963, 964, 965, 966, 948, 949, 950, 951, 952, 953, 954, 955, 956, 957, 958] (by decide +kernel) (by decide +kernel)
set_option maxRecDepth 20000 in
theorem gL_law_X9_digest : GoodIn wsL_law (wsV RL 144 RX9 yX9_digest wsX9_digest) := goodIn_app (goodIn_of _ (by decide +kernel)) ggL_law_X9_digest
set_option maxRecDepth 20000 in
theorem ggL_law_X10_digest : GoodIn wsL_law wsX10_digest := goodIn_r _ [864, 865, 866, 322, 137, 143, 867, 847, 848, 5, 849, 372, 737, 164, 835, 213, 868, 317, 318, 319, 320, 321, 135, 323, 324, 325, 206, 207, 208, 326, 327, 328, 329, 130, 132, 133, 136, 330, 331, 332, 333, 334, 335, 336, 869, 413, 414, 415, 141, 416, 417, 418, 419, 420, 139, 140, 142, 421, 422, 423, 424, 138, 425, 426, 427, 870, 520, 521, 522, 144, 145, 146, 147, 150, 523, 524, 525, 526, 527, 528, 529, 530, 531, 532, 533, 534, 535, 536, 537, 538, 539, 148, 149, 540, 541, 542, 881, 882, 883, 884, 885, 886, 887, 888, 889, 890, 891, 892, 893, 894, 895, 896, 897, 898, 899, 900, 901, 902, 903, 904, 905, 906, 907, 908, 909, 910, 911, 912, 913, 914, 915, 916, 917, 918, 919, 920, 921, 922, 923] (by decide +kernel) (by decide +kernel)
set_option maxRecDepth 20000 in
theorem gL_law_X10_digest : GoodIn wsL_law (wsV RL 148 RX10 yX10_digest wsX10_digest) := goodIn_app (goodIn_of _ (by decide +kernel)) ggL_law_X10_digest
