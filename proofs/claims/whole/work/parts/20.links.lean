theorem mt_1 {w : Cond} (h : w ∈ tables_1_1) : w ∈ tables_1 := List.mem_append_left _ h
theorem mt_2 {w : Cond} (h : w ∈ tables_1_2) : w ∈ tables_1 := List.mem_append_right _ (List.mem_append_left _ h)
theorem mt_3 {w : Cond} (h : w ∈ tables_1_3) : w ∈ tables_1 := List.mem_append_right _ (List.mem_append_right _ (List.mem_append_left _ h))
theorem mt_4 {w : Cond} (h : w ∈ tables_1_4) : w ∈ tables_1 := List.mem_append_right _ (List.mem_append_right _ (List.mem_append_right _ (List.mem_append_left _ h)))
theorem mt_5 {w : Cond} (h : w ∈ tables_1_5) : w ∈ tables_1 := List.mem_append_right _ (List.mem_append_right _ (List.mem_append_right _ (List.mem_append_right _ (List.mem_append_left _ h))))
theorem mt_6 {w : Cond} (h : w ∈ tables_1_6) : w ∈ tables_1 := List.mem_append_right _ (List.mem_append_right _ (List.mem_append_right _ (List.mem_append_right _ (List.mem_append_right _ (List.mem_append_left _ h)))))
theorem mt_7 {w : Cond} (h : w ∈ tables_1_7) : w ∈ tables_1 := List.mem_append_right _ (List.mem_append_right _ (List.mem_append_right _ (List.mem_append_right _ (List.mem_append_right _ (List.mem_append_right _ (List.mem_append_left _ h))))))
theorem mt_8 {w : Cond} (h : w ∈ tables_1_8) : w ∈ tables_1 := List.mem_append_right _ (List.mem_append_right _ (List.mem_append_right _ (List.mem_append_right _ (List.mem_append_right _ (List.mem_append_right _ (List.mem_append_right _ (h)))))))
abbrev M_J6_bitCount_0f7a4 : MI := (yJ6_bitCount_0f7a4, cJ6_bitCount_0f7a4, 1, some .int)
abbrev M_X0_at : MI := (yX0_at, cX0_at, 3, some .int)
abbrev M_X0_bends : MI := (yX0_bends, cX0_bends, 6, some .int)
abbrev M_X0_fill : MI := (yX0_fill, cX0_fill, 4, none)
abbrev M_X0_init : MI := (yX0_init, cX0_init, 1, none)
abbrev M_X10_above : MI := (yX10_above, cX10_above, 4, some .int)
abbrev M_X10_isCurve : MI := (yX10_isCurve, cX10_isCurve, 2, some .boolean)
abbrev M_X10_appendBytes : MI := (yX10_appendBytes, cX10_appendBytes, 4, none)
abbrev M_X8_append : MI := (yX8_append, cX8_append, 3, none)
abbrev M_X10_arrives : MI := (yX10_arrives, cX10_arrives, 4, some .int)
abbrev M_X10_isHop : MI := (yX10_isHop, cX10_isHop, 3, some .boolean)
abbrev M_X10_isWithin : MI := (yX10_isWithin, cX10_isWithin, 2, some .boolean)
abbrev M_X10_diverges : MI := (yX10_diverges, cX10_diverges, 1, some .boolean)
abbrev M_X6_arrivingAt : MI := (yX6_arrivingAt, cX6_arrivingAt, 4, some .int)
abbrev M_X10_beginAnew : MI := (yX10_beginAnew, cX10_beginAnew, 2, none)
abbrev M_X9_reset : MI := (yX9_reset, cX9_reset, 3, none)
abbrev M_X6_forget : MI := (yX6_forget, cX6_forget, 1, none)
abbrev M_X10_behind : MI := (yX10_behind, cX10_behind, 3, some .int)
abbrev M_X10_comes : MI := (yX10_comes, cX10_comes, 3, some .int)
abbrev M_X10_isNode : MI := (yX10_isNode, cX10_isNode, 2, some .boolean)
abbrev M_X6_fillComing : MI := (yX6_fillComing, cX6_fillComing, 4, none)
abbrev M_X10_count : MI := (yX10_count, cX10_count, 2, some .int)
abbrev M_X9_sum : MI := (yX9_sum, cX9_sum, 3, some .int)
abbrev M_X10_curve : MI := (yX10_curve, cX10_curve, 4, some .int)
abbrev M_X10_delay : MI := (yX10_delay, cX10_delay, 3, some .int)
abbrev M_X6_roundsAsTold : MI := (yX6_roundsAsTold, cX6_roundsAsTold, 2, some .int)
abbrev M_X10_feed : MI := (yX10_feed, cX10_feed, 7, some .int)
abbrev M_X10_fits : MI := (yX10_fits, cX10_fits, 2, some .boolean)
abbrev M_X10_isFlow : MI := (yX10_isFlow, cX10_isFlow, 2, some .boolean)
abbrev M_X9_keepsTo : MI := (yX9_keepsTo, cX9_keepsTo, 6, some .boolean)
abbrev M_X10_flow : MI := (yX10_flow, cX10_flow, 3, some .int)
abbrev M_X9_unitsOf : MI := (yX9_unitsOf, cX9_unitsOf, 5, some .int)
abbrev M_X10_fold : MI := (yX10_fold, cX10_fold, 4, some .int)
abbrev M_X10_foldedAt : MI := (yX10_foldedAt, cX10_foldedAt, 5, some .int)
abbrev M_X10_foldOn : MI := (yX10_foldOn, cX10_foldOn, 5, none)
abbrev M_X6_fillLeft : MI := (yX6_fillLeft, cX6_fillLeft, 9, none)
abbrev M_X10_full : MI := (yX10_full, cX10_full, 2, some .int)
abbrev M_X10_mostAbove : MI := (yX10_mostAbove, cX10_mostAbove, 4, some .int)
abbrev M_X10_holds : MI := (yX10_holds, cX10_holds, 2, some .boolean)
abbrev M_X6_totalOf : MI := (yX6_totalOf, cX6_totalOf, 4, some .int)
abbrev M_X10_init : MI := (yX10_init, cX10_init, 2, none)
abbrev M_X10_judged : MI := (yX10_judged, cX10_judged, 3, some .int)
abbrev M_X9_play : MI := (yX9_play, cX9_play, 7, some .int)
abbrev M_X9_latestOfAll : MI := (yX9_latestOfAll, cX9_latestOfAll, 3, some .int)
abbrev M_X10_late : MI := (yX10_late, cX10_late, 3, some .int)
abbrev M_X10_lateness : MI := (yX10_lateness, cX10_lateness, 4, some .int)
abbrev M_X10_latest : MI := (yX10_latest, cX10_latest, 2, some .int)
abbrev M_X10_left : MI := (yX10_left, cX10_left, 4, some .int)
abbrev M_X10_loads : MI := (yX10_loads, cX10_loads, 5, some .int)
abbrev M_X9_copy : MI := (yX9_copy, cX9_copy, 3, none)
abbrev M_X9_playDraws : MI := (yX9_playDraws, cX9_playDraws, 8, some .int)
abbrev M_X10_look : MI := (yX10_look, cX10_look, 6, some .int)
abbrev M_X10_who : MI := (yX10_who, cX10_who, 3, some .int)
abbrev M_X10_mostAlike : MI := (yX10_mostAlike, cX10_mostAlike, 8, some .int)
abbrev M_X10_mark : MI := (yX10_mark, cX10_mark, 3, some .boolean)
abbrev M_X7_copy : MI := (yX7_copy, cX7_copy, 3, none)
abbrev M_X10_net : MI := (yX10_net, cX10_net, 3, some .int)
abbrev M_X4_read : MI := (yX4_read, cX4_read, 3, some .int)
abbrev M_X8_empty : MI := (yX8_empty, cX8_empty, 1, none)
abbrev M_X10_node : MI := (yX10_node, cX10_node, 3, some .int)
abbrev M_X10_oldest : MI := (yX10_oldest, cX10_oldest, 2, some .int)
abbrev M_X9_oldestOf : MI := (yX9_oldestOf, cX9_oldestOf, 6, some .int)
abbrev M_X10_once : MI := (yX10_once, cX10_once, 2, some .int)
abbrev M_X10_paidOnce : MI := (yX10_paidOnce, cX10_paidOnce, 6, some .int)
abbrev M_X10_put : MI := (yX10_put, cX10_put, 3, some .int)
abbrev M_X9_admit : MI := (yX9_admit, cX9_admit, 7, some .int)
abbrev M_X10_rounds : MI := (yX10_rounds, cX10_rounds, 1, some .int)
abbrev M_X10_run : MI := (yX10_run, cX10_run, 3, some .int)
abbrev M_X5_read : MI := (yX5_read, cX5_read, 4, some .int)
abbrev M_X10_saves : MI := (yX10_saves, cX10_saves, 3, some .int)
abbrev M_X10_see : MI := (yX10_see, cX10_see, 4, some .boolean)
abbrev M_X7_add : MI := (yX7_add, cX7_add, 4, some .boolean)
abbrev M_X10_serves : MI := (yX10_serves, cX10_serves, 2, some .int)
abbrev M_X9_servedFirst : MI := (yX9_servedFirst, cX9_servedFirst, 3, some .int)
abbrev M_X10_star : MI := (yX10_star, cX10_star, 7, some .int)
abbrev M_X10_sub : MI := (yX10_sub, cX10_sub, 5, some .boolean)
abbrev M_X10_tick : MI := (yX10_tick, cX10_tick, 1, some .int)
abbrev M_X9_passOn : MI := (yX9_passOn, cX9_passOn, 5, some .int)
abbrev M_X10_total : MI := (yX10_total, cX10_total, 2, some .int)
abbrev M_X10_triedTotal : MI := (yX10_triedTotal, cX10_triedTotal, 6, some .int)
abbrev M_X6_settle : MI := (yX6_settle, cX6_settle, 5, none)
abbrev M_X10_tries : MI := (yX10_tries, cX10_tries, 4, some .int)
abbrev M_X10_tune : MI := (yX10_tune, cX10_tune, 7, some .int)
abbrev M_X10_unfold : MI := (yX10_unfold, cX10_unfold, 8, some .int)
abbrev M_X10_value : MI := (yX10_value, cX10_value, 3, some .int)
abbrev M_X10_way : MI := (yX10_way, cX10_way, 3, some .int)
abbrev M_X7_suits : MI := (yX7_suits, cX7_suits, 4, some .boolean)
abbrev M_X10_worst : MI := (yX10_worst, cX10_worst, 3, some .int)
abbrev M_X11_above : MI := (yX11_above, cX11_above, 4, some .int)
abbrev M_X11_isCurve : MI := (yX11_isCurve, cX11_isCurve, 2, some .boolean)
abbrev M_X11_valueOf : MI := (yX11_valueOf, cX11_valueOf, 6, some .int)
abbrev M_X11_aheadOf : MI := (yX11_aheadOf, cX11_aheadOf, 5, some .int)
abbrev M_X11_arrives : MI := (yX11_arrives, cX11_arrives, 4, some .int)
abbrev M_X11_isHop : MI := (yX11_isHop, cX11_isHop, 3, some .boolean)
abbrev M_X11_within : MI := (yX11_within, cX11_within, 3, some .boolean)
abbrev M_X11_settlesNow : MI := (yX11_settlesNow, cX11_settlesNow, 1, some .int)
abbrev M_X11_arrivesAt : MI := (yX11_arrivesAt, cX11_arrivesAt, 4, some .int)
abbrev M_X11_sendsBy : MI := (yX11_sendsBy, cX11_sendsBy, 2, some .int)
abbrev M_X11_arrivesOf : MI := (yX11_arrivesOf, cX11_arrivesOf, 6, some .int)
abbrev M_X11_flows : MI := (yX11_flows, cX11_flows, 1, some .int)
abbrev M_X11_hopAt : MI := (yX11_hopAt, cX11_hopAt, 5, some .int)
abbrev M_X11_begins : MI := (yX11_begins, cX11_begins, 1, none)
abbrev M_X11_starts : MI := (yX11_starts, cX11_starts, 3, none)
abbrev M_X11_behind : MI := (yX11_behind, cX11_behind, 3, some .int)
abbrev M_X11_laysCurves : MI := (yX11_laysCurves, cX11_laysCurves, 4, none)
abbrev M_X11_behindness : MI := (yX11_behindness, cX11_behindness, 3, some .int)
abbrev M_X11_bendsOf : MI := (yX11_bendsOf, cX11_bendsOf, 7, some .int)
abbrev M_X11_bits : MI := (yX11_bits, cX11_bits, 3, some .int)
abbrev M_X11_comes : MI := (yX11_comes, cX11_comes, 3, some .int)
abbrev M_X11_isNode : MI := (yX11_isNode, cX11_isNode, 2, some .boolean)
abbrev M_X11_flowsOver : MI := (yX11_flowsOver, cX11_flowsOver, 4, some .int)
abbrev M_X11_count : MI := (yX11_count, cX11_count, 2, some .int)
abbrev M_X11_curves : MI := (yX11_curves, cX11_curves, 1, some .int)
abbrev M_X11_nodes : MI := (yX11_nodes, cX11_nodes, 1, some .int)
abbrev M_X11_sumOf : MI := (yX11_sumOf, cX11_sumOf, 4, some .int)
abbrev M_X11_curve : MI := (yX11_curve, cX11_curve, 4, some .int)
abbrev M_X11_curveOf : MI := (yX11_curveOf, cX11_curveOf, 2, some .int)
abbrev M_X11_cutAll : MI := (yX11_cutAll, cX11_cutAll, 7, none)
abbrev M_X11_isLetter : MI := (yX11_isLetter, cX11_isLetter, 1, some .boolean)
abbrev M_X11_rank : MI := (yX11_rank, cX11_rank, 1, some .int)
abbrev M_X11_isDigit : MI := (yX11_isDigit, cX11_isDigit, 1, some .boolean)
abbrev M_X11_isSignOf : MI := (yX11_isSignOf, cX11_isSignOf, 1, some .boolean)
abbrev M_X11_delay : MI := (yX11_delay, cX11_delay, 3, some .int)
abbrev M_X11_draw : MI := (yX11_draw, cX11_draw, 2, some .int)
abbrev M_X11_emit : MI := (yX11_emit, cX11_emit, 3, none)
abbrev M_X11_enters : MI := (yX11_enters, cX11_enters, 6, none)
abbrev M_X11_unitAt : MI := (yX11_unitAt, cX11_unitAt, 2, some .int)
abbrev M_X11_feed : MI := (yX11_feed, cX11_feed, 7, some .int)
abbrev M_X11_lay : MI := (yX11_lay, cX11_lay, 5, none)
abbrev M_X11_fits : MI := (yX11_fits, cX11_fits, 6, some .boolean)
abbrev M_X11_isFlow : MI := (yX11_isFlow, cX11_isFlow, 2, some .boolean)
abbrev M_X11_flow : MI := (yX11_flow, cX11_flow, 3, some .int)
abbrev M_X11_hopsOf : MI := (yX11_hopsOf, cX11_hopsOf, 2, some .int)
abbrev M_X11_unitsOf : MI := (yX11_unitsOf, cX11_unitsOf, 5, some .int)
abbrev M_X11_fold : MI := (yX11_fold, cX11_fold, 7, some .int)
abbrev M_X11_folds : MI := (yX11_folds, cX11_folds, 6, none)
abbrev M_X11_full : MI := (yX11_full, cX11_full, 3, some .int)
abbrev M_X11_goes : MI := (yX11_goes, cX11_goes, 5, none)
abbrev M_X11_hasSign : MI := (yX11_hasSign, cX11_hasSign, 3, some .boolean)
abbrev M_X11_isSign : MI := (yX11_isSign, cX11_isSign, 2, some .boolean)
abbrev M_X11_hasWord : MI := (yX11_hasWord, cX11_hasWord, 3, some .boolean)
abbrev M_X11_isWord : MI := (yX11_isWord, cX11_isWord, 2, some .boolean)
abbrev M_X11_holds : MI := (yX11_holds, cX11_holds, 2, some .boolean)
abbrev M_X11_nodeOf : MI := (yX11_nodeOf, cX11_nodeOf, 3, some .int)
abbrev M_X11_init : MI := (yX11_init, cX11_init, 1, none)
abbrev M_X11_standsAsAlways : MI := (yX11_standsAsAlways, cX11_standsAsAlways, 3, none)
abbrev M_X11_isName : MI := (yX11_isName, cX11_isName, 1, some .boolean)
abbrev M_X11_wordHere : MI := (yX11_wordHere, cX11_wordHere, 5, some .int)
abbrev M_X11_judged : MI := (yX11_judged, cX11_judged, 7, some .int)
abbrev M_X11_mayTick : MI := (yX11_mayTick, cX11_mayTick, 2, some .boolean)
abbrev M_X11_mayPut : MI := (yX11_mayPut, cX11_mayPut, 3, some .boolean)
abbrev M_X11_ticks : MI := (yX11_ticks, cX11_ticks, 6, some .int)
abbrev M_X11_puts : MI := (yX11_puts, cX11_puts, 6, some .int)
abbrev M_X11_latestOfAll : MI := (yX11_latestOfAll, cX11_latestOfAll, 4, some .int)
abbrev M_X11_kindOf : MI := (yX11_kindOf, cX11_kindOf, 2, some .int)
abbrev M_X11_late : MI := (yX11_late, cX11_late, 3, some .int)
abbrev M_X11_lateness : MI := (yX11_lateness, cX11_lateness, 3, some .int)
abbrev M_X11_latest : MI := (yX11_latest, cX11_latest, 2, some .int)
abbrev M_X11_laysArriving : MI := (yX11_laysArriving, cX11_laysArriving, 5, none)
abbrev M_X11_laysLeft : MI := (yX11_laysLeft, cX11_laysLeft, 9, none)
abbrev M_X11_left : MI := (yX11_left, cX11_left, 4, some .int)
abbrev M_X11_loads : MI := (yX11_loads, cX11_loads, 8, some .int)
abbrev M_X11_moves : MI := (yX11_moves, cX11_moves, 5, none)
abbrev M_X11_look : MI := (yX11_look, cX11_look, 9, some .int)
abbrev M_X11_whoNow : MI := (yX11_whoNow, cX11_whoNow, 6, some .int)
abbrev M_X11_mark : MI := (yX11_mark, cX11_mark, 3, some .boolean)
abbrev M_X11_nameAt : MI := (yX11_nameAt, cX11_nameAt, 5, some .int)
abbrev M_X11_net : MI := (yX11_net, cX11_net, 2, some .int)
abbrev M_X11_readLine : MI := (yX11_readLine, cX11_readLine, 1, none)
abbrev M_X11_takeSign : MI := (yX11_takeSign, cX11_takeSign, 2, none)
abbrev M_X11_nextUnit : MI := (yX11_nextUnit, cX11_nextUnit, 8, some .int)
abbrev M_X11_unitOf : MI := (yX11_unitOf, cX11_unitOf, 8, some .int)
abbrev M_X11_node : MI := (yX11_node, cX11_node, 3, some .int)
abbrev M_X11_unitsAt : MI := (yX11_unitsAt, cX11_unitsAt, 5, some .int)
abbrev M_X11_nodeAt : MI := (yX11_nodeAt, cX11_nodeAt, 3, some .int)
abbrev M_X11_oldest : MI := (yX11_oldest, cX11_oldest, 5, some .int)
abbrev M_X11_once : MI := (yX11_once, cX11_once, 2, some .int)
abbrev M_X11_onceOf : MI := (yX11_onceOf, cX11_onceOf, 5, some .int)
abbrev M_X11_products : MI := (yX11_products, cX11_products, 2, none)
abbrev M_X11_takePart : MI := (yX11_takePart, cX11_takePart, 4, none)
abbrev M_X11_put : MI := (yX11_put, cX11_put, 3, some .int)
abbrev M_X11_worthAt : MI := (yX11_worthAt, cX11_worthAt, 5, some .int)
abbrev M_X11_rateNow : MI := (yX11_rateNow, cX11_rateNow, 5, some .int)
abbrev M_X11_read : MI := (yX11_read, cX11_read, 2, some .int)
abbrev M_X11_readCurve : MI := (yX11_readCurve, cX11_readCurve, 7, none)
abbrev M_X11_readName : MI := (yX11_readName, cX11_readName, 4, none)
abbrev M_X11_takeWord : MI := (yX11_takeWord, cX11_takeWord, 2, none)
abbrev M_X11_takeNumber : MI := (yX11_takeNumber, cX11_takeNumber, 3, some .int)
abbrev M_X11_wrong : MI := (yX11_wrong, cX11_wrong, 2, none)
abbrev M_X11_takeAfter : MI := (yX11_takeAfter, cX11_takeAfter, 4, some .int)
abbrev M_X11_readFlow : MI := (yX11_readFlow, cX11_readFlow, 7, none)
abbrev M_X11_takeTold : MI := (yX11_takeTold, cX11_takeTold, 5, some .int)
abbrev M_X11_readNode : MI := (yX11_readNode, cX11_readNode, 4, none)
abbrev M_X11_whole : MI := (yX11_whole, cX11_whole, 3, none)
abbrev M_X11_takeOne : MI := (yX11_takeOne, cX11_takeOne, 4, some .int)
abbrev M_X11_rounds : MI := (yX11_rounds, cX11_rounds, 1, some .int)
abbrev M_X11_run : MI := (yX11_run, cX11_run, 3, some .int)
abbrev M_X11_saves : MI := (yX11_saves, cX11_saves, 3, some .int)
abbrev M_X11_see : MI := (yX11_see, cX11_see, 5, some .boolean)
abbrev M_X11_serves : MI := (yX11_serves, cX11_serves, 3, some .int)
abbrev M_X11_servesOf : MI := (yX11_servesOf, cX11_servesOf, 6, none)
abbrev M_X11_settles : MI := (yX11_settles, cX11_settles, 6, some .int)
abbrev M_X11_star : MI := (yX11_star, cX11_star, 5, some .int)
abbrev M_X11_sub : MI := (yX11_sub, cX11_sub, 5, some .boolean)
abbrev M_X11_sums : MI := (yX11_sums, cX11_sums, 3, none)
abbrev M_X11_test : MI := (yX11_test, cX11_test, 3, none)
abbrev M_X11_thrown : MI := (yX11_thrown, cX11_thrown, 1, some .int)
abbrev M_X11_tick : MI := (yX11_tick, cX11_tick, 1, some .int)
abbrev M_X11_total : MI := (yX11_total, cX11_total, 2, some .int)
abbrev M_X11_tries : MI := (yX11_tries, cX11_tries, 4, some .int)
abbrev M_X11_triesBy : MI := (yX11_triesBy, cX11_triesBy, 5, some .int)
abbrev M_X11_tune : MI := (yX11_tune, cX11_tune, 8, some .int)
abbrev M_X11_unfold : MI := (yX11_unfold, cX11_unfold, 7, some .int)
abbrev M_X11_value : MI := (yX11_value, cX11_value, 3, some .int)
abbrev M_X11_way : MI := (yX11_way, cX11_way, 3, some .int)
abbrev M_X11_who : MI := (yX11_who, cX11_who, 1, some .int)
abbrev M_X11_worked : MI := (yX11_worked, cX11_worked, 3, some .int)
abbrev M_X11_worst : MI := (yX11_worst, cX11_worst, 5, some .int)
abbrev M_X1_add : MI := (yX1_add, cX1_add, 2, none)
abbrev M_X1_fact : MI := (yX1_fact, cX1_fact, 5, some .int)
abbrev M_X1_init : MI := (yX1_init, cX1_init, 1, none)
abbrev M_X1_joined : MI := (yX1_joined, cX1_joined, 3, some .int)
abbrev M_X1_reset : MI := (yX1_reset, cX1_reset, 1, none)
abbrev M_X1_strengthOf : MI := (yX1_strengthOf, cX1_strengthOf, 1, some .int)
abbrev M_X1_worth : MI := (yX1_worth, cX1_worth, 8, some .int)
abbrev M_X2_init : MI := (yX2_init, cX2_init, 2, none)
abbrev M_X2_readPairs : MI := (yX2_readPairs, cX2_readPairs, 7, some .boolean)
abbrev M_X2_readPart : MI := (yX2_readPart, cX2_readPart, 6, some .boolean)
abbrev M_X8_step : MI := (yX8_step, cX8_step, 1, none)
abbrev M_X8_isFact : MI := (yX8_isFact, cX8_isFact, 1, some .boolean)
abbrev M_X8_wrong : MI := (yX8_wrong, cX8_wrong, 2, some .boolean)
abbrev M_X3_find : MI := (yX3_find, cX3_find, 5, some .int)
abbrev M_X3_hopAt : MI := (yX3_hopAt, cX3_hopAt, 4, some .int)
abbrev M_X3_init : MI := (yX3_init, cX3_init, 2, none)
abbrev M_X3_knows : MI := (yX3_knows, cX3_knows, 3, some .boolean)
abbrev M_X3_reset : MI := (yX3_reset, cX3_reset, 2, none)
abbrev M_X4_init : MI := (yX4_init, cX4_init, 3, none)
abbrev M_X8_begin : MI := (yX8_begin, cX8_begin, 1, none)
abbrev M_X4_readCurve : MI := (yX4_readCurve, cX4_readCurve, 4, none)
abbrev M_X4_readNode : MI := (yX4_readNode, cX4_readNode, 3, none)
abbrev M_X4_readFlow : MI := (yX4_readFlow, cX4_readFlow, 3, none)
abbrev M_X4_readLoses : MI := (yX4_readLoses, cX4_readLoses, 1, none)
abbrev M_X4_readAdds : MI := (yX4_readAdds, cX4_readAdds, 3, some .boolean)
abbrev M_X8_hasNumber : MI := (yX8_hasNumber, cX8_hasNumber, 3, some .boolean)
abbrev M_X4_readAgain : MI := (yX4_readAgain, cX4_readAgain, 2, some .boolean)
abbrev M_X4_readNewName : MI := (yX4_readNewName, cX4_readNewName, 3, some .boolean)
abbrev M_X8_take : MI := (yX8_take, cX8_take, 2, some .boolean)
abbrev M_X4_readValues : MI := (yX4_readValues, cX4_readValues, 4, some .boolean)
abbrev M_X4_readCurveName : MI := (yX4_readCurveName, cX4_readCurveName, 3, some .boolean)
abbrev M_X8_isName : MI := (yX8_isName, cX8_isName, 1, some .boolean)
abbrev M_X4_readDiscipline : MI := (yX4_readDiscipline, cX4_readDiscipline, 2, some .boolean)
abbrev M_X4_readWay : MI := (yX4_readWay, cX4_readWay, 3, some .boolean)
abbrev M_X4_readHop : MI := (yX4_readHop, cX4_readHop, 3, some .boolean)
abbrev M_X5_init : MI := (yX5_init, cX5_init, 1, none)
abbrev M_X5_readLine : MI := (yX5_readLine, cX5_readLine, 4, some .boolean)
abbrev M_X5_readPut : MI := (yX5_readPut, cX5_readPut, 3, some .boolean)
abbrev M_X6_clear : MI := (yX6_clear, cX6_clear, 3, none)
abbrev M_X6_comingOf : MI := (yX6_comingOf, cX6_comingOf, 7, some .int)
abbrev M_X6_delayAt : MI := (yX6_delayAt, cX6_delayAt, 3, some .int)
abbrev M_X6_fillArriving : MI := (yX6_fillArriving, cX6_fillArriving, 5, none)
abbrev M_X6_init : MI := (yX6_init, cX6_init, 2, none)
abbrev M_X6_tellAnew : MI := (yX6_tellAnew, cX6_tellAnew, 3, some .boolean)
abbrev M_X6_takeAnew : MI := (yX6_takeAnew, cX6_takeAnew, 4, some .boolean)
abbrev M_X7_init : MI := (yX7_init, cX7_init, 1, none)
abbrev M_X8_init : MI := (yX8_init, cX8_init, 5, none)
abbrev M_X8_isDigit : MI := (yX8_isDigit, cX8_isDigit, 1, some .boolean)
abbrev M_X8_isLetter : MI := (yX8_isLetter, cX8_isLetter, 1, some .boolean)
abbrev M_X8_kindOfSign : MI := (yX8_kindOfSign, cX8_kindOfSign, 1, some .int)
abbrev M_X8_kindOfWord : MI := (yX8_kindOfWord, cX8_kindOfWord, 4, some .int)
abbrev M_X8_readNumber : MI := (yX8_readNumber, cX8_readNumber, 1, none)
abbrev M_X8_readWord : MI := (yX8_readWord, cX8_readWord, 1, none)
abbrev M_X8_withLetter : MI := (yX8_withLetter, cX8_withLetter, 3, some .long)
abbrev M_X9_bringTo : MI := (yX9_bringTo, cX9_bringTo, 4, none)
abbrev M_X9_draw : MI := (yX9_draw, cX9_draw, 2, some .int)
abbrev M_X9_firstPlaceAbove : MI := (yX9_firstPlaceAbove, cX9_firstPlaceAbove, 7, some .int)
abbrev M_X9_init : MI := (yX9_init, cX9_init, 2, none)
abbrev M_X9_nextPlace : MI := (yX9_nextPlace, cX9_nextPlace, 5, some .int)
abbrev M_X9_serveAt : MI := (yX9_serveAt, cX9_serveAt, 7, none)
abbrev M_X9_sendOn : MI := (yX9_sendOn, cX9_sendOn, 6, some .int)
abbrev M_X9_quota : MI := (yX9_quota, cX9_quota, 4, some .int)
abbrev M_X9_takeOut : MI := (yX9_takeOut, cX9_takeOut, 4, none)
theorem iw_X0 : (∀ w ∈ u_ws RX0 TX0 4, w ∈ tables_1) ∧ (∀ w ∈ u_ws RX0 TX0 4, goodWord w = true) := ⟨by decide +kernel, by decide +kernel⟩
theorem in_X0 : ∀ w ∈ u_ws RX0 TX0 4, w ∈ lw_g := fun w h => in_g (iw_X0.1 w h) (iw_X0.2 w h)
theorem iw_X1 : (∀ w ∈ u_ws RX1 TX1 3, w ∈ tables_1) ∧ (∀ w ∈ u_ws RX1 TX1 3, goodWord w = true) := ⟨by decide +kernel, by decide +kernel⟩
theorem in_X1 : ∀ w ∈ u_ws RX1 TX1 3, w ∈ lw_g := fun w h => in_g (iw_X1.1 w h) (iw_X1.2 w h)
theorem iw_X2 : (∀ w ∈ u_ws RX2 TX2 1, w ∈ tables_1) ∧ (∀ w ∈ u_ws RX2 TX2 1, goodWord w = true) := ⟨by decide +kernel, by decide +kernel⟩
theorem in_X2 : ∀ w ∈ u_ws RX2 TX2 1, w ∈ lw_g := fun w h => in_g (iw_X2.1 w h) (iw_X2.2 w h)
theorem iw_X3 : (∀ w ∈ u_ws RX3 TX3 15, w ∈ tables_1) ∧ (∀ w ∈ u_ws RX3 TX3 15, goodWord w = true) := ⟨by decide +kernel, by decide +kernel⟩
theorem in_X3 : ∀ w ∈ u_ws RX3 TX3 15, w ∈ lw_g := fun w h => in_g (iw_X3.1 w h) (iw_X3.2 w h)
theorem iw_X4 : (∀ w ∈ u_ws RX4 TX4 3, w ∈ tables_1) ∧ (∀ w ∈ u_ws RX4 TX4 3, goodWord w = true) := ⟨by decide +kernel, by decide +kernel⟩
theorem in_X4 : ∀ w ∈ u_ws RX4 TX4 3, w ∈ lw_g := fun w h => in_g (iw_X4.1 w h) (iw_X4.2 w h)
theorem iw_X5 : (∀ w ∈ u_ws RX5 TX5 3, w ∈ tables_1) ∧ (∀ w ∈ u_ws RX5 TX5 3, goodWord w = true) := ⟨by decide +kernel, by decide +kernel⟩
theorem in_X5 : ∀ w ∈ u_ws RX5 TX5 3, w ∈ lw_g := fun w h => in_g (iw_X5.1 w h) (iw_X5.2 w h)
theorem iw_X6 : (∀ w ∈ u_ws RX6 TX6 9, w ∈ tables_1) ∧ (∀ w ∈ u_ws RX6 TX6 9, goodWord w = true) := ⟨by decide +kernel, by decide +kernel⟩
theorem in_X6 : ∀ w ∈ u_ws RX6 TX6 9, w ∈ lw_g := fun w h => in_g (iw_X6.1 w h) (iw_X6.2 w h)
theorem iw_X7 : (∀ w ∈ u_ws RX7 TX7 4, w ∈ tables_1) ∧ (∀ w ∈ u_ws RX7 TX7 4, goodWord w = true) := ⟨by decide +kernel, by decide +kernel⟩
theorem in_X7 : ∀ w ∈ u_ws RX7 TX7 4, w ∈ lw_g := fun w h => in_g (iw_X7.1 w h) (iw_X7.2 w h)
theorem iw_X8 : (∀ w ∈ u_ws RX8 TX8 9, w ∈ tables_1) ∧ (∀ w ∈ u_ws RX8 TX8 9, goodWord w = true) := ⟨by decide +kernel, by decide +kernel⟩
theorem in_X8 : ∀ w ∈ u_ws RX8 TX8 9, w ∈ lw_g := fun w h => in_g (iw_X8.1 w h) (iw_X8.2 w h)
theorem iw_X9 : (∀ w ∈ u_ws RX9 TX9 11, w ∈ tables_1) ∧ (∀ w ∈ u_ws RX9 TX9 11, goodWord w = true) := ⟨by decide +kernel, by decide +kernel⟩
theorem in_X9 : ∀ w ∈ u_ws RX9 TX9 11, w ∈ lw_g := fun w h => in_g (iw_X9.1 w h) (iw_X9.2 w h)
theorem iw_X10 : (∀ w ∈ u_ws RX10 TX10 17, w ∈ tables_1) ∧ (∀ w ∈ u_ws RX10 TX10 17, goodWord w = true) := ⟨by decide +kernel, by decide +kernel⟩
theorem in_X10 : ∀ w ∈ u_ws RX10 TX10 17, w ∈ lw_g := fun w h => in_g (iw_X10.1 w h) (iw_X10.2 w h)
theorem iw_X11 : (∀ w ∈ u_ws RX11 TX11 33, w ∈ tables_1) ∧ (∀ w ∈ u_ws RX11 TX11 33, goodWord w = true) := ⟨by decide +kernel, by decide +kernel⟩
theorem in_X11 : ∀ w ∈ u_ws RX11 TX11 33, w ∈ lw_g := fun w h => in_g (iw_X11.1 w h) (iw_X11.2 w h)
theorem fl_X0_15 : Cond.fieldLink RX0 15 (TX0 2).1 (TX0 2).2.1 (TX0 2).2.2.1 ∈ tables_1 := (mt_1 (List.mem_of_getElem? (i := 170) (by decide +kernel)))
theorem fl_X0_19 : Cond.fieldLink RX0 19 (TX0 1).1 (TX0 1).2.1 (TX0 1).2.2.1 ∈ tables_1 := (mt_1 (List.mem_of_getElem? (i := 167) (by decide +kernel)))
theorem fl_X0_9 : Cond.fieldLink RX0 9 (TX0 0).1 (TX0 0).2.1 (TX0 0).2.2.1 ∈ tables_1 := (mt_1 (List.mem_of_getElem? (i := 165) (by decide +kernel)))
theorem fl_X0_22 : Cond.fieldLink RX0 22 (TX0 3).1 (TX0 3).2.1 (TX0 3).2.2.1 ∈ tables_1 := (mt_1 (List.mem_of_getElem? (i := 173) (by decide +kernel)))
theorem ml_X0_25 : Cond.methodLink RX0 25 yX0_at ∈ tables_1 := (mt_3 (List.mem_of_getElem? (i := 210) (by decide +kernel)))
theorem ml_X10_151 : Cond.methodLink RX10 151 yX10_isCurve ∈ tables_1 := (mt_3 (List.mem_of_getElem? (i := 202) (by decide +kernel)))
theorem fl_X10_19 : Cond.fieldLink RX10 19 (TX10 2).1 (TX10 2).2.1 (TX10 2).2.2.1 ∈ tables_1 := (mt_2 (List.mem_of_getElem? (i := 190) (by decide +kernel)))
theorem fl_X10_154 : Cond.fieldLink RX10 154 (TX3 0).1 (TX3 0).2.1 (TX3 0).2.2.1 ∈ tables_1 := (mt_1 (List.mem_of_getElem? (i := 188) (by decide +kernel)))
theorem ml_X10_213 : Cond.methodLink RX10 213 yX0_at ∈ tables_1 := (mt_4 (List.mem_of_getElem? (i := 9) (by decide +kernel)))
theorem fl_X10_10 : Cond.fieldLink RX10 10 (TX10 0).1 (TX10 0).2.1 (TX10 0).2.2.1 ∈ tables_1 := (mt_2 (List.mem_of_getElem? (i := 188) (by decide +kernel)))
theorem ml_X10_106 : Cond.methodLink RX10 106 yX8_append ∈ tables_1 := (mt_3 (List.mem_of_getElem? (i := 9) (by decide +kernel)))
theorem ml_X10_202 : Cond.methodLink RX10 202 yX10_isHop ∈ tables_1 := (mt_3 (List.mem_of_getElem? (i := 238) (by decide +kernel)))
theorem ml_X10_210 : Cond.methodLink RX10 210 yX10_isWithin ∈ tables_1 := (mt_4 (List.mem_of_getElem? (i := 6) (by decide +kernel)))
theorem ml_X10_246 : Cond.methodLink RX10 246 yX10_diverges ∈ tables_1 := (mt_4 (List.mem_of_getElem? (i := 102) (by decide +kernel)))
theorem fl_X10_79 : Cond.fieldLink RX10 79 (TX10 12).1 (TX10 12).2.1 (TX10 12).2.2.1 ∈ tables_1 := (mt_2 (List.mem_of_getElem? (i := 200) (by decide +kernel)))
theorem fl_X10_206 : Cond.fieldLink RX10 206 (TX3 8).1 (TX3 8).2.1 (TX3 8).2.2.1 ∈ tables_1 := (mt_1 (List.mem_of_getElem? (i := 220) (by decide +kernel)))
theorem ml_X10_253 : Cond.methodLink RX10 253 yX6_arrivingAt ∈ tables_1 := (mt_4 (List.mem_of_getElem? (i := 110) (by decide +kernel)))
theorem fl_X10_48 : Cond.fieldLink RX10 48 (TX10 6).1 (TX10 6).2.1 (TX10 6).2.2.1 ∈ tables_1 := (mt_2 (List.mem_of_getElem? (i := 194) (by decide +kernel)))
theorem ml_X10_120 : Cond.methodLink RX10 120 yX9_reset ∈ tables_1 := (mt_3 (List.mem_of_getElem? (i := 167) (by decide +kernel)))
theorem fl_X10_38 : Cond.fieldLink RX10 38 (TX10 4).1 (TX10 4).2.1 (TX10 4).2.2.1 ∈ tables_1 := (mt_2 (List.mem_of_getElem? (i := 192) (by decide +kernel)))
theorem fl_X10_123 : Cond.fieldLink RX10 123 (TX5 2).1 (TX5 2).2.1 (TX5 2).2.2.1 ∈ tables_1 := (mt_2 (List.mem_of_getElem? (i := 72) (by decide +kernel)))
theorem fl_X10_58 : Cond.fieldLink RX10 58 (TX10 8).1 (TX10 8).2.1 (TX10 8).2.2.1 ∈ tables_1 := (mt_2 (List.mem_of_getElem? (i := 196) (by decide +kernel)))
theorem fl_X10_126 : Cond.fieldLink RX10 126 (TX7 3).1 (TX7 3).2.1 (TX7 3).2.2.1 ∈ tables_1 := (mt_2 (List.mem_of_getElem? (i := 138) (by decide +kernel)))
theorem fl_X10_70 : Cond.fieldLink RX10 70 (TX10 11).1 (TX10 11).2.1 (TX10 11).2.2.1 ∈ tables_1 := (mt_2 (List.mem_of_getElem? (i := 199) (by decide +kernel)))
theorem ml_X10_129 : Cond.methodLink RX10 129 yX6_forget ∈ tables_1 := (mt_3 (List.mem_of_getElem? (i := 171) (by decide +kernel)))
theorem fl_X10_83 : Cond.fieldLink RX10 83 (TX10 13).1 (TX10 13).2.1 (TX10 13).2.2.1 ∈ tables_1 := (mt_2 (List.mem_of_getElem? (i := 201) (by decide +kernel)))
theorem ml_X10_171 : Cond.methodLink RX10 171 yX10_isNode ∈ tables_1 := (mt_3 (List.mem_of_getElem? (i := 218) (by decide +kernel)))
theorem fl_X10_87 : Cond.fieldLink RX10 87 (TX10 14).1 (TX10 14).2.1 (TX10 14).2.2.1 ∈ tables_1 := (mt_2 (List.mem_of_getElem? (i := 202) (by decide +kernel)))
theorem ml_X10_277 : Cond.methodLink RX10 277 yX6_fillComing ∈ tables_1 := (mt_4 (List.mem_of_getElem? (i := 146) (by decide +kernel)))
theorem fl_X10_135 : Cond.fieldLink RX10 135 (TX3 11).1 (TX3 11).2.1 (TX3 11).2.2.1 ∈ tables_1 := (mt_1 (List.mem_of_getElem? (i := 230) (by decide +kernel)))
theorem fl_X10_138 : Cond.fieldLink RX10 138 (TX3 12).1 (TX3 12).2.1 (TX3 12).2.2.1 ∈ tables_1 := (mt_1 (List.mem_of_getElem? (i := 234) (by decide +kernel)))
theorem fl_X10_141 : Cond.fieldLink RX10 141 (TX3 13).1 (TX3 13).2.1 (TX3 13).2.2.1 ∈ tables_1 := (mt_1 (List.mem_of_getElem? (i := 239) (by decide +kernel)))
theorem fl_X10_352 : Cond.fieldLink RX10 352 (TX9 10).1 (TX9 10).2.1 (TX9 10).2.2.1 ∈ tables_1 := (mt_2 (List.mem_of_getElem? (i := 104) (by decide +kernel)))
theorem fl_X10_183 : Cond.fieldLink RX10 183 (TX9 3).1 (TX9 3).2.1 (TX9 3).2.2.1 ∈ tables_1 := (mt_2 (List.mem_of_getElem? (i := 92) (by decide +kernel)))
theorem ml_X10_302 : Cond.methodLink RX10 302 yX9_sum ∈ tables_1 := (mt_5 (List.mem_of_getElem? (i := 5) (by decide +kernel)))
theorem fl_X10_196 : Cond.fieldLink RX10 196 (TX9 5).1 (TX9 5).2.1 (TX9 5).2.2.1 ∈ tables_1 := (mt_2 (List.mem_of_getElem? (i := 96) (by decide +kernel)))
theorem fl_X10_199 : Cond.fieldLink RX10 199 (TX9 6).1 (TX9 6).2.1 (TX9 6).2.2.1 ∈ tables_1 := (mt_2 (List.mem_of_getElem? (i := 98) (by decide +kernel)))
theorem fl_X10_100 : Cond.fieldLink RX10 100 (TX8 2).1 (TX8 2).2.1 (TX8 2).2.2.1 ∈ tables_1 := (mt_1 (List.mem_of_getElem? (i := 93) (by decide +kernel)))
theorem fl_X10_158 : Cond.fieldLink RX10 158 (TX0 1).1 (TX0 1).2.1 (TX0 1).2.2.1 ∈ tables_1 := (mt_1 (List.mem_of_getElem? (i := 169) (by decide +kernel)))
theorem fl_X10_161 : Cond.fieldLink RX10 161 (TX0 2).1 (TX0 2).2.1 (TX0 2).2.2.1 ∈ tables_1 := (mt_1 (List.mem_of_getElem? (i := 172) (by decide +kernel)))
theorem fl_X10_164 : Cond.fieldLink RX10 164 (TX0 3).1 (TX0 3).2.1 (TX0 3).2.2.1 ∈ tables_1 := (mt_1 (List.mem_of_getElem? (i := 175) (by decide +kernel)))
theorem ml_X10_167 : Cond.methodLink RX10 167 yX0_bends ∈ tables_1 := (mt_3 (List.mem_of_getElem? (i := 206) (by decide +kernel)))
theorem fl_X10_250 : Cond.fieldLink RX10 250 (TX6 0).1 (TX6 0).2.1 (TX6 0).2.2.1 ∈ tables_1 := (mt_2 (List.mem_of_getElem? (i := 159) (by decide +kernel)))
theorem ml_X10_243 : Cond.methodLink RX10 243 yX6_roundsAsTold ∈ tables_1 := (mt_4 (List.mem_of_getElem? (i := 47) (by decide +kernel)))
theorem ml_X10_96 : Cond.methodLink RX10 96 yX10_appendBytes ∈ tables_1 := (mt_3 (List.mem_of_getElem? (i := 4) (by decide +kernel)))
theorem ml_X10_144 : Cond.methodLink RX10 144 yX10_isFlow ∈ tables_1 := (mt_3 (List.mem_of_getElem? (i := 226) (by decide +kernel)))
theorem fl_X10_189 : Cond.fieldLink RX10 189 (TX3 6).1 (TX3 6).2.1 (TX3 6).2.2.1 ∈ tables_1 := (mt_1 (List.mem_of_getElem? (i := 210) (by decide +kernel)))
theorem ml_X10_309 : Cond.methodLink RX10 309 yX9_keepsTo ∈ tables_1 := (mt_5 (List.mem_of_getElem? (i := 14) (by decide +kernel)))
theorem fl_X10_148 : Cond.fieldLink RX10 148 (TX3 7).1 (TX3 7).2.1 (TX3 7).2.2.1 ∈ tables_1 := (mt_1 (List.mem_of_getElem? (i := 213) (by decide +kernel)))
theorem ml_X10_192 : Cond.methodLink RX10 192 yX9_unitsOf ∈ tables_1 := (mt_3 (List.mem_of_getElem? (i := 230) (by decide +kernel)))
theorem ml_X10_216 : Cond.methodLink RX10 216 yX0_fill ∈ tables_1 := (mt_4 (List.mem_of_getElem? (i := 14) (by decide +kernel)))
theorem fl_X10_90 : Cond.fieldLink RX10 90 (TX10 15).1 (TX10 15).2.1 (TX10 15).2.2.1 ∈ tables_1 := (mt_2 (List.mem_of_getElem? (i := 203) (by decide +kernel)))
theorem ml_X10_220 : Cond.methodLink RX10 220 yX10_foldedAt ∈ tables_1 := (mt_4 (List.mem_of_getElem? (i := 18) (by decide +kernel)))
theorem ml_X10_257 : Cond.methodLink RX10 257 yX6_fillLeft ∈ tables_1 := (mt_4 (List.mem_of_getElem? (i := 118) (by decide +kernel)))
theorem fl_X10_93 : Cond.fieldLink RX10 93 (TX10 16).1 (TX10 16).2.1 (TX10 16).2.2.1 ∈ tables_1 := (mt_2 (List.mem_of_getElem? (i := 204) (by decide +kernel)))
theorem ml_X10_271 : Cond.methodLink RX10 271 arraycopyName ∈ tables_1 := (mt_4 (List.mem_of_getElem? (i := 139) (by decide +kernel)))
theorem ml_X10_224 : Cond.methodLink RX10 224 Lib.Math.min.name ∈ tables_1 := (mt_4 (List.mem_of_getElem? (i := 21) (by decide +kernel)))
theorem fl_X10_177 : Cond.fieldLink RX10 177 (TX3 5).1 (TX3 5).2.1 (TX3 5).2.2.1 ∈ tables_1 := (mt_1 (List.mem_of_getElem? (i := 206) (by decide +kernel)))
theorem ml_X10_240 : Cond.methodLink RX10 240 yX10_mostAbove ∈ tables_1 := (mt_4 (List.mem_of_getElem? (i := 147) (by decide +kernel)))
theorem ml_X10_233 : Cond.methodLink RX10 233 Lib.Math.max.name ∈ tables_1 := (mt_4 (List.mem_of_getElem? (i := 150) (by decide +kernel)))
theorem fl_X10_313 : Cond.fieldLink RX10 313 (TX9 7).1 (TX9 7).2.1 (TX9 7).2.2.1 ∈ tables_1 := (mt_2 (List.mem_of_getElem? (i := 100) (by decide +kernel)))
theorem ml_X10_261 : Cond.methodLink RX10 261 yX6_totalOf ∈ tables_1 := (mt_4 (List.mem_of_getElem? (i := 123) (by decide +kernel)))
theorem fl_X10_23 : Cond.fieldLink RX10 23 (TX10 3).1 (TX10 3).2.1 (TX10 3).2.2.1 ∈ tables_1 := (mt_2 (List.mem_of_getElem? (i := 191) (by decide +kernel)))
theorem fl_X10_31 : Cond.fieldLink RX10 31 (TX10 1).1 (TX10 1).2.1 (TX10 1).2.2.1 ∈ tables_1 := (mt_2 (List.mem_of_getElem? (i := 189) (by decide +kernel)))
theorem fl_X10_42 : Cond.fieldLink RX10 42 (TX10 5).1 (TX10 5).2.1 (TX10 5).2.2.1 ∈ tables_1 := (mt_2 (List.mem_of_getElem? (i := 193) (by decide +kernel)))
theorem fl_X10_52 : Cond.fieldLink RX10 52 (TX10 7).1 (TX10 7).2.1 (TX10 7).2.2.1 ∈ tables_1 := (mt_2 (List.mem_of_getElem? (i := 195) (by decide +kernel)))
theorem fl_X10_62 : Cond.fieldLink RX10 62 (TX10 9).1 (TX10 9).2.1 (TX10 9).2.2.1 ∈ tables_1 := (mt_2 (List.mem_of_getElem? (i := 197) (by decide +kernel)))
theorem fl_X10_66 : Cond.fieldLink RX10 66 (TX10 10).1 (TX10 10).2.1 (TX10 10).2.2.1 ∈ tables_1 := (mt_2 (List.mem_of_getElem? (i := 198) (by decide +kernel)))
theorem ml_X10_298 : Cond.methodLink RX10 298 yX9_play ∈ tables_1 := (mt_4 (List.mem_of_getElem? (i := 238) (by decide +kernel)))
theorem ml_X10_306 : Cond.methodLink RX10 306 yX9_latestOfAll ∈ tables_1 := (mt_5 (List.mem_of_getElem? (i := 6) (by decide +kernel)))
theorem ml_X10_236 : Cond.methodLink RX10 236 yX10_lateness ∈ tables_1 := (mt_4 (List.mem_of_getElem? (i := 36) (by decide +kernel)))
theorem ml_X10_342 : Cond.methodLink RX10 342 yX9_copy ∈ tables_1 := (mt_5 (List.mem_of_getElem? (i := 73) (by decide +kernel)))
theorem ml_X10_346 : Cond.methodLink RX10 346 yX9_playDraws ∈ tables_1 := (mt_5 (List.mem_of_getElem? (i := 78) (by decide +kernel)))
theorem ml_X10_331 : Cond.methodLink RX10 331 yX10_who ∈ tables_1 := (mt_5 (List.mem_of_getElem? (i := 63) (by decide +kernel)))
theorem ml_X10_334 : Cond.methodLink RX10 334 yJ6_bitCount_0f7a4 ∈ tables_1 := (mt_5 (List.mem_of_getElem? (i := 64) (by decide +kernel)))
theorem ml_X10_339 : Cond.methodLink RX10 339 yX10_mostAlike ∈ tables_1 := (mt_5 (List.mem_of_getElem? (i := 65) (by decide +kernel)))
theorem ml_X10_349 : Cond.methodLink RX10 349 yX7_copy ∈ tables_1 := (mt_5 (List.mem_of_getElem? (i := 94) (by decide +kernel)))
theorem ml_X10_110 : Cond.methodLink RX10 110 yX4_read ∈ tables_1 := (mt_3 (List.mem_of_getElem? (i := 17) (by decide +kernel)))
theorem ml_X10_114 : Cond.methodLink RX10 114 yX8_empty ∈ tables_1 := (mt_3 (List.mem_of_getElem? (i := 159) (by decide +kernel)))
theorem ml_X10_117 : Cond.methodLink RX10 117 yX10_beginAnew ∈ tables_1 := (mt_3 (List.mem_of_getElem? (i := 163) (by decide +kernel)))
theorem fl_X10_174 : Cond.fieldLink RX10 174 (TX3 4).1 (TX3 4).2.1 (TX3 4).2.2.1 ∈ tables_1 := (mt_1 (List.mem_of_getElem? (i := 201) (by decide +kernel)))
theorem fl_X10_180 : Cond.fieldLink RX10 180 (TX3 9).1 (TX3 9).2.1 (TX3 9).2.2.1 ∈ tables_1 := (mt_1 (List.mem_of_getElem? (i := 223) (by decide +kernel)))
theorem fl_X10_186 : Cond.fieldLink RX10 186 (TX9 4).1 (TX9 4).2.1 (TX9 4).2.2.1 ∈ tables_1 := (mt_2 (List.mem_of_getElem? (i := 94) (by decide +kernel)))
theorem ml_X10_320 : Cond.methodLink RX10 320 yX9_oldestOf ∈ tables_1 := (mt_5 (List.mem_of_getElem? (i := 38) (by decide +kernel)))
theorem ml_X10_264 : Cond.methodLink RX10 264 yX10_paidOnce ∈ tables_1 := (mt_4 (List.mem_of_getElem? (i := 131) (by decide +kernel)))
theorem ml_X10_267 : Cond.methodLink RX10 267 yX10_foldOn ∈ tables_1 := (mt_4 (List.mem_of_getElem? (i := 135) (by decide +kernel)))
theorem ml_X10_291 : Cond.methodLink RX10 291 yX9_admit ∈ tables_1 := (mt_4 (List.mem_of_getElem? (i := 176) (by decide +kernel)))
theorem ml_X10_132 : Cond.methodLink RX10 132 yX5_read ∈ tables_1 := (mt_3 (List.mem_of_getElem? (i := 179) (by decide +kernel)))
theorem ml_X10_323 : Cond.methodLink RX10 323 yX7_add ∈ tables_1 := (mt_5 (List.mem_of_getElem? (i := 46) (by decide +kernel)))
theorem ml_X10_316 : Cond.methodLink RX10 316 yX9_servedFirst ∈ tables_1 := (mt_5 (List.mem_of_getElem? (i := 26) (by decide +kernel)))
theorem ml_X10_295 : Cond.methodLink RX10 295 yX9_passOn ∈ tables_1 := (mt_4 (List.mem_of_getElem? (i := 202) (by decide +kernel)))
theorem ml_X10_284 : Cond.methodLink RX10 284 yX6_settle ∈ tables_1 := (mt_4 (List.mem_of_getElem? (i := 167) (by decide +kernel)))
theorem fl_X10_288 : Cond.fieldLink RX10 288 (TX6 8).1 (TX6 8).2.1 (TX6 8).2.2.1 ∈ tables_1 := (mt_2 (List.mem_of_getElem? (i := 168) (by decide +kernel)))
theorem ml_X10_281 : Cond.methodLink RX10 281 yX10_triedTotal ∈ tables_1 := (mt_4 (List.mem_of_getElem? (i := 163) (by decide +kernel)))
theorem ml_X10_327 : Cond.methodLink RX10 327 yX7_suits ∈ tables_1 := (mt_5 (List.mem_of_getElem? (i := 54) (by decide +kernel)))
theorem fl_X11_1 : Cond.fieldLink RX11 1 (TX11 0).1 (TX11 0).2.1 (TX11 0).2.2.1 ∈ tables_1 := (mt_5 (List.mem_of_getElem? (i := 238) (by decide +kernel)))
theorem ml_X11_297 : Cond.methodLink RX11 297 yX11_isCurve ∈ tables_1 := (mt_6 (List.mem_of_getElem? (i := 237) (by decide +kernel)))
theorem ml_X11_294 : Cond.methodLink RX11 294 yX11_valueOf ∈ tables_1 := (mt_7 (List.mem_of_getElem? (i := 12) (by decide +kernel)))
theorem fl_X11_120 : Cond.fieldLink RX11 120 (TX11 25).1 (TX11 25).2.1 (TX11 25).2.2.1 ∈ tables_1 := (mt_6 (List.mem_of_getElem? (i := 23) (by decide +kernel)))
theorem ml_X11_352 : Cond.methodLink RX11 352 yX11_isHop ∈ tables_1 := (mt_7 (List.mem_of_getElem? (i := 127) (by decide +kernel)))
theorem ml_X11_300 : Cond.methodLink RX11 300 yX11_within ∈ tables_1 := (mt_7 (List.mem_of_getElem? (i := 5) (by decide +kernel)))
theorem ml_X11_349 : Cond.methodLink RX11 349 yX11_settlesNow ∈ tables_1 := (mt_7 (List.mem_of_getElem? (i := 64) (by decide +kernel)))
theorem ml_X11_322 : Cond.methodLink RX11 322 yX11_arrivesAt ∈ tables_1 := (mt_7 (List.mem_of_getElem? (i := 100) (by decide +kernel)))
theorem ml_X11_316 : Cond.methodLink RX11 316 yX11_sendsBy ∈ tables_1 := (mt_7 (List.mem_of_getElem? (i := 104) (by decide +kernel)))
theorem ml_X11_319 : Cond.methodLink RX11 319 yX11_aheadOf ∈ tables_1 := (mt_7 (List.mem_of_getElem? (i := 108) (by decide +kernel)))
theorem ml_X11_245 : Cond.methodLink RX11 245 yX11_flows ∈ tables_1 := (mt_6 (List.mem_of_getElem? (i := 229) (by decide +kernel)))
theorem ml_X11_291 : Cond.methodLink RX11 291 yX11_hopAt ∈ tables_1 := (mt_7 (List.mem_of_getElem? (i := 92) (by decide +kernel)))
theorem ml_X11_267 : Cond.methodLink RX11 267 yX11_starts ∈ tables_1 := (mt_5 (List.mem_of_getElem? (i := 234) (by decide +kernel)))
theorem fl_X11_101 : Cond.fieldLink RX11 101 (TX11 17).1 (TX11 17).2.1 (TX11 17).2.2.1 ∈ tables_1 := (mt_6 (List.mem_of_getElem? (i := 15) (by decide +kernel)))
theorem fl_X11_92 : Cond.fieldLink RX11 92 (TX11 14).1 (TX11 14).2.1 (TX11 14).2.2.1 ∈ tables_1 := (mt_6 (List.mem_of_getElem? (i := 12) (by decide +kernel)))
theorem fl_X11_270 : Cond.fieldLink RX11 270 (TX11 19).1 (TX11 19).2.1 (TX11 19).2.2.1 ∈ tables_1 := (mt_6 (List.mem_of_getElem? (i := 17) (by decide +kernel)))
theorem fl_X11_104 : Cond.fieldLink RX11 104 (TX11 18).1 (TX11 18).2.1 (TX11 18).2.2.1 ∈ tables_1 := (mt_6 (List.mem_of_getElem? (i := 16) (by decide +kernel)))
theorem ml_X11_307 : Cond.methodLink RX11 307 yX11_laysCurves ∈ tables_1 := (mt_7 (List.mem_of_getElem? (i := 40) (by decide +kernel)))
theorem ml_X11_313 : Cond.methodLink RX11 313 yX11_behindness ∈ tables_1 := (mt_7 (List.mem_of_getElem? (i := 52) (by decide +kernel)))
theorem fl_X11_111 : Cond.fieldLink RX11 111 (TX11 22).1 (TX11 22).2.1 (TX11 22).2.2.1 ∈ tables_1 := (mt_6 (List.mem_of_getElem? (i := 20) (by decide +kernel)))
theorem fl_X11_114 : Cond.fieldLink RX11 114 (TX11 23).1 (TX11 23).2.1 (TX11 23).2.2.1 ∈ tables_1 := (mt_6 (List.mem_of_getElem? (i := 21) (by decide +kernel)))
theorem ml_X11_363 : Cond.methodLink RX11 363 yX11_isNode ∈ tables_1 := (mt_7 (List.mem_of_getElem? (i := 167) (by decide +kernel)))
theorem ml_X11_325 : Cond.methodLink RX11 325 yX11_flowsOver ∈ tables_1 := (mt_7 (List.mem_of_getElem? (i := 88) (by decide +kernel)))
theorem ml_X11_337 : Cond.methodLink RX11 337 yX11_arrivesOf ∈ tables_1 := (mt_7 (List.mem_of_getElem? (i := 96) (by decide +kernel)))
theorem ml_X11_273 : Cond.methodLink RX11 273 yX11_curves ∈ tables_1 := (mt_7 (List.mem_of_getElem? (i := 1) (by decide +kernel)))
theorem ml_X11_276 : Cond.methodLink RX11 276 yX11_nodes ∈ tables_1 := (mt_7 (List.mem_of_getElem? (i := 171) (by decide +kernel)))
theorem ml_X11_419 : Cond.methodLink RX11 419 yX11_sumOf ∈ tables_1 := (mt_8 (List.mem_of_getElem? (i := 25) (by decide +kernel)))
theorem fl_X11_11 : Cond.fieldLink RX11 11 (TX11 2).1 (TX11 2).2.1 (TX11 2).2.2.1 ∈ tables_1 := (mt_6 (List.mem_of_getElem? (i := 0) (by decide +kernel)))
theorem fl_X11_83 : Cond.fieldLink RX11 83 (TX11 10).1 (TX11 10).2.1 (TX11 10).2.2.1 ∈ tables_1 := (mt_6 (List.mem_of_getElem? (i := 8) (by decide +kernel)))
theorem ml_X11_304 : Cond.methodLink RX11 304 yX11_bendsOf ∈ tables_1 := (mt_7 (List.mem_of_getElem? (i := 8) (by decide +kernel)))
theorem fl_X11_279 : Cond.fieldLink RX11 279 (TX11 20).1 (TX11 20).2.1 (TX11 20).2.2.1 ∈ tables_1 := (mt_6 (List.mem_of_getElem? (i := 18) (by decide +kernel)))
theorem fl_X11_146 : Cond.fieldLink RX11 146 (TX11 3).1 (TX11 3).2.1 (TX11 3).2.2.1 ∈ tables_1 := (mt_6 (List.mem_of_getElem? (i := 1) (by decide +kernel)))
theorem fl_X11_14 : Cond.fieldLink RX11 14 (TX11 1).1 (TX11 1).2.1 (TX11 1).2.2.1 ∈ tables_1 := (mt_5 (List.mem_of_getElem? (i := 239) (by decide +kernel)))
theorem fl_X11_27 : Cond.fieldLink RX11 27 (TX11 5).1 (TX11 5).2.1 (TX11 5).2.2.1 ∈ tables_1 := (mt_6 (List.mem_of_getElem? (i := 3) (by decide +kernel)))
theorem ml_X11_142 : Cond.methodLink RX11 142 yX11_isLetter ∈ tables_1 := (mt_6 (List.mem_of_getElem? (i := 106) (by decide +kernel)))
theorem ml_X11_151 : Cond.methodLink RX11 151 yX11_rank ∈ tables_1 := (mt_6 (List.mem_of_getElem? (i := 110) (by decide +kernel)))
theorem fl_X11_24 : Cond.fieldLink RX11 24 (TX11 4).1 (TX11 4).2.1 (TX11 4).2.2.1 ∈ tables_1 := (mt_6 (List.mem_of_getElem? (i := 2) (by decide +kernel)))
theorem ml_X11_155 : Cond.methodLink RX11 155 yX11_isDigit ∈ tables_1 := (mt_6 (List.mem_of_getElem? (i := 113) (by decide +kernel)))
theorem ml_X11_162 : Cond.methodLink RX11 162 yX11_isSignOf ∈ tables_1 := (mt_6 (List.mem_of_getElem? (i := 118) (by decide +kernel)))
theorem fl_X11_30 : Cond.fieldLink RX11 30 (TX11 6).1 (TX11 6).2.1 (TX11 6).2.2.1 ∈ tables_1 := (mt_6 (List.mem_of_getElem? (i := 4) (by decide +kernel)))
theorem fl_X11_165 : Cond.fieldLink RX11 165 (TX11 7).1 (TX11 7).2.1 (TX11 7).2.2.1 ∈ tables_1 := (mt_6 (List.mem_of_getElem? (i := 5) (by decide +kernel)))
theorem fl_X11_168 : Cond.fieldLink RX11 168 (TX11 8).1 (TX11 8).2.1 (TX11 8).2.2.1 ∈ tables_1 := (mt_6 (List.mem_of_getElem? (i := 6) (by decide +kernel)))
theorem fl_X11_431 : Cond.fieldLink RX11 431 (TX11 32).1 (TX11 32).2.1 (TX11 32).2.2.1 ∈ tables_1 := (mt_6 (List.mem_of_getElem? (i := 30) (by decide +kernel)))
theorem fl_X11_86 : Cond.fieldLink RX11 86 (TX11 11).1 (TX11 11).2.1 (TX11 11).2.2.1 ∈ tables_1 := (mt_6 (List.mem_of_getElem? (i := 9) (by decide +kernel)))
theorem fl_X11_203 : Cond.fieldLink RX11 203 (TX11 12).1 (TX11 12).2.1 (TX11 12).2.2.1 ∈ tables_1 := (mt_6 (List.mem_of_getElem? (i := 10) (by decide +kernel)))
theorem ml_X11_369 : Cond.methodLink RX11 369 yX11_unitAt ∈ tables_1 := (mt_7 (List.mem_of_getElem? (i := 215) (by decide +kernel)))
theorem ml_X11_7 : Cond.methodLink RX11 7 yX11_lay ∈ tables_1 := (mt_5 (List.mem_of_getElem? (i := 193) (by decide +kernel)))
theorem ml_X11_282 : Cond.methodLink RX11 282 yX11_isFlow ∈ tables_1 := (mt_7 (List.mem_of_getElem? (i := 131) (by decide +kernel)))
theorem ml_X11_285 : Cond.methodLink RX11 285 yX11_hopsOf ∈ tables_1 := (mt_7 (List.mem_of_getElem? (i := 72) (by decide +kernel)))
theorem ml_X11_425 : Cond.methodLink RX11 425 yX11_unitsOf ∈ tables_1 := (mt_8 (List.mem_of_getElem? (i := 61) (by decide +kernel)))
theorem fl_X11_117 : Cond.fieldLink RX11 117 (TX11 24).1 (TX11 24).2.1 (TX11 24).2.2.1 ∈ tables_1 := (mt_6 (List.mem_of_getElem? (i := 22) (by decide +kernel)))
theorem ml_X11_331 : Cond.methodLink RX11 331 yX11_curveOf ∈ tables_1 := (mt_7 (List.mem_of_getElem? (i := 116) (by decide +kernel)))
theorem ml_X11_171 : Cond.methodLink RX11 171 yX11_isSign ∈ tables_1 := (mt_6 (List.mem_of_getElem? (i := 209) (by decide +kernel)))
theorem ml_X11_177 : Cond.methodLink RX11 177 yX11_isWord ∈ tables_1 := (mt_6 (List.mem_of_getElem? (i := 125) (by decide +kernel)))
theorem ml_X11_288 : Cond.methodLink RX11 288 yX11_nodeOf ∈ tables_1 := (mt_7 (List.mem_of_getElem? (i := 80) (by decide +kernel)))
theorem fl_X11_80 : Cond.fieldLink RX11 80 (TX11 9).1 (TX11 9).2.1 (TX11 9).2.2.1 ∈ tables_1 := (mt_6 (List.mem_of_getElem? (i := 7) (by decide +kernel)))
theorem fl_X11_89 : Cond.fieldLink RX11 89 (TX11 13).1 (TX11 13).2.1 (TX11 13).2.2.1 ∈ tables_1 := (mt_6 (List.mem_of_getElem? (i := 11) (by decide +kernel)))
theorem fl_X11_95 : Cond.fieldLink RX11 95 (TX11 15).1 (TX11 15).2.1 (TX11 15).2.2.1 ∈ tables_1 := (mt_6 (List.mem_of_getElem? (i := 13) (by decide +kernel)))
theorem fl_X11_98 : Cond.fieldLink RX11 98 (TX11 16).1 (TX11 16).2.1 (TX11 16).2.2.1 ∈ tables_1 := (mt_6 (List.mem_of_getElem? (i := 14) (by decide +kernel)))
theorem fl_X11_108 : Cond.fieldLink RX11 108 (TX11 21).1 (TX11 21).2.1 (TX11 21).2.2.1 ∈ tables_1 := (mt_6 (List.mem_of_getElem? (i := 19) (by decide +kernel)))
theorem fl_X11_123 : Cond.fieldLink RX11 123 (TX11 26).1 (TX11 26).2.1 (TX11 26).2.2.1 ∈ tables_1 := (mt_6 (List.mem_of_getElem? (i := 24) (by decide +kernel)))
theorem fl_X11_126 : Cond.fieldLink RX11 126 (TX11 27).1 (TX11 27).2.1 (TX11 27).2.2.1 ∈ tables_1 := (mt_6 (List.mem_of_getElem? (i := 25) (by decide +kernel)))
theorem fl_X11_129 : Cond.fieldLink RX11 129 (TX11 29).1 (TX11 29).2.1 (TX11 29).2.2.1 ∈ tables_1 := (mt_6 (List.mem_of_getElem? (i := 27) (by decide +kernel)))
theorem fl_X11_132 : Cond.fieldLink RX11 132 (TX11 31).1 (TX11 31).2.1 (TX11 31).2.2.1 ∈ tables_1 := (mt_6 (List.mem_of_getElem? (i := 29) (by decide +kernel)))
theorem ml_X11_135 : Cond.methodLink RX11 135 yX11_standsAsAlways ∈ tables_1 := (mt_5 (List.mem_of_getElem? (i := 226) (by decide +kernel)))
theorem ml_X11_139 : Cond.methodLink RX11 139 yX11_begins ∈ tables_1 := (mt_5 (List.mem_of_getElem? (i := 230) (by decide +kernel)))
theorem ml_X11_190 : Cond.methodLink RX11 190 yX11_wordHere ∈ tables_1 := (mt_6 (List.mem_of_getElem? (i := 149) (by decide +kernel)))
theorem ml_X11_413 : Cond.methodLink RX11 413 yX11_mayTick ∈ tables_1 := (mt_7 (List.mem_of_getElem? (i := 233) (by decide +kernel)))
theorem ml_X11_385 : Cond.methodLink RX11 385 yX11_mayPut ∈ tables_1 := (mt_7 (List.mem_of_getElem? (i := 199) (by decide +kernel)))
theorem ml_X11_416 : Cond.methodLink RX11 416 yX11_ticks ∈ tables_1 := (mt_7 (List.mem_of_getElem? (i := 237) (by decide +kernel)))
theorem ml_X11_388 : Cond.methodLink RX11 388 yX11_puts ∈ tables_1 := (mt_7 (List.mem_of_getElem? (i := 203) (by decide +kernel)))
theorem ml_X11_422 : Cond.methodLink RX11 422 yX11_latestOfAll ∈ tables_1 := (mt_8 (List.mem_of_getElem? (i := 29) (by decide +kernel)))
theorem ml_X11_310 : Cond.methodLink RX11 310 yX11_lateness ∈ tables_1 := (mt_7 (List.mem_of_getElem? (i := 44) (by decide +kernel)))
theorem ml_X11_328 : Cond.methodLink RX11 328 yX11_kindOf ∈ tables_1 := (mt_7 (List.mem_of_getElem? (i := 84) (by decide +kernel)))
theorem ml_X11_334 : Cond.methodLink RX11 334 yX11_bits ∈ tables_1 := (mt_7 (List.mem_of_getElem? (i := 120) (by decide +kernel)))
theorem ml_X11_343 : Cond.methodLink RX11 343 yX11_laysLeft ∈ tables_1 := (mt_7 (List.mem_of_getElem? (i := 112) (by decide +kernel)))
theorem ml_X11_443 : Cond.methodLink RX11 443 yX11_moves ∈ tables_1 := (mt_8 (List.mem_of_getElem? (i := 89) (by decide +kernel)))
theorem ml_X11_446 : Cond.methodLink RX11 446 yX11_draw ∈ tables_1 := (mt_8 (List.mem_of_getElem? (i := 93) (by decide +kernel)))
theorem ml_X11_428 : Cond.methodLink RX11 428 yX11_whoNow ∈ tables_1 := (mt_8 (List.mem_of_getElem? (i := 77) (by decide +kernel)))
theorem ml_X11_200 : Cond.methodLink RX11 200 yX11_cutAll ∈ tables_1 := (mt_6 (List.mem_of_getElem? (i := 102) (by decide +kernel)))
theorem ml_X11_206 : Cond.methodLink RX11 206 yX11_readLine ∈ tables_1 := (mt_6 (List.mem_of_getElem? (i := 121) (by decide +kernel)))
theorem ml_X11_209 : Cond.methodLink RX11 209 yX11_takeSign ∈ tables_1 := (mt_6 (List.mem_of_getElem? (i := 221) (by decide +kernel)))
theorem ml_X11_391 : Cond.methodLink RX11 391 yX11_unitOf ∈ tables_1 := (mt_8 (List.mem_of_getElem? (i := 13) (by decide +kernel)))
theorem fl_X11_395 : Cond.fieldLink RX11 395 (TX11 30).1 (TX11 30).2.1 (TX11 30).2.2.1 ∈ tables_1 := (mt_6 (List.mem_of_getElem? (i := 28) (by decide +kernel)))
theorem ml_X11_375 : Cond.methodLink RX11 375 yX11_unitsAt ∈ tables_1 := (mt_7 (List.mem_of_getElem? (i := 207) (by decide +kernel)))
theorem ml_X11_360 : Cond.methodLink RX11 360 yX11_onceOf ∈ tables_1 := (mt_7 (List.mem_of_getElem? (i := 151) (by decide +kernel)))
theorem ml_X11_356 : Cond.methodLink RX11 356 yX11_folds ∈ tables_1 := (mt_7 (List.mem_of_getElem? (i := 155) (by decide +kernel)))
theorem ml_X11_261 : Cond.methodLink RX11 261 yX11_takePart ∈ tables_1 := (mt_6 (List.mem_of_getElem? (i := 205) (by decide +kernel)))
theorem ml_X11_255 : Cond.methodLink RX11 255 yX11_hasSign ∈ tables_1 := (mt_6 (List.mem_of_getElem? (i := 217) (by decide +kernel)))
theorem ml_X11_227 : Cond.methodLink RX11 227 yX11_emit ∈ tables_1 := (mt_6 (List.mem_of_getElem? (i := 213) (by decide +kernel)))
theorem ml_X11_378 : Cond.methodLink RX11 378 yX11_worthAt ∈ tables_1 := (mt_7 (List.mem_of_getElem? (i := 218) (by decide +kernel)))
theorem ml_X11_381 : Cond.methodLink RX11 381 yX11_enters ∈ tables_1 := (mt_7 (List.mem_of_getElem? (i := 225) (by decide +kernel)))
theorem ml_X11_221 : Cond.methodLink RX11 221 yX11_read ∈ tables_1 := (mt_6 (List.mem_of_getElem? (i := 133) (by decide +kernel)))
theorem ml_X11_231 : Cond.methodLink RX11 231 yX11_readName ∈ tables_1 := (mt_6 (List.mem_of_getElem? (i := 137) (by decide +kernel)))
theorem ml_X11_183 : Cond.methodLink RX11 183 yX11_takeWord ∈ tables_1 := (mt_6 (List.mem_of_getElem? (i := 157) (by decide +kernel)))
theorem ml_X11_186 : Cond.methodLink RX11 186 yX11_takeNumber ∈ tables_1 := (mt_6 (List.mem_of_getElem? (i := 165) (by decide +kernel)))
theorem ml_X11_174 : Cond.methodLink RX11 174 yX11_wrong ∈ tables_1 := (mt_6 (List.mem_of_getElem? (i := 141) (by decide +kernel)))
theorem ml_X11_235 : Cond.methodLink RX11 235 yX11_takeAfter ∈ tables_1 := (mt_6 (List.mem_of_getElem? (i := 169) (by decide +kernel)))
theorem ml_X11_242 : Cond.methodLink RX11 242 yX11_takeTold ∈ tables_1 := (mt_6 (List.mem_of_getElem? (i := 181) (by decide +kernel)))
theorem ml_X11_193 : Cond.methodLink RX11 193 yX11_isName ∈ tables_1 := (mt_6 (List.mem_of_getElem? (i := 145) (by decide +kernel)))
theorem ml_X11_212 : Cond.methodLink RX11 212 yX11_readCurve ∈ tables_1 := (mt_6 (List.mem_of_getElem? (i := 129) (by decide +kernel)))
theorem ml_X11_215 : Cond.methodLink RX11 215 yX11_readNode ∈ tables_1 := (mt_6 (List.mem_of_getElem? (i := 173) (by decide +kernel)))
theorem ml_X11_218 : Cond.methodLink RX11 218 yX11_readFlow ∈ tables_1 := (mt_6 (List.mem_of_getElem? (i := 185) (by decide +kernel)))
theorem ml_X11_224 : Cond.methodLink RX11 224 yX11_whole ∈ tables_1 := (mt_6 (List.mem_of_getElem? (i := 189) (by decide +kernel)))
theorem ml_X11_197 : Cond.methodLink RX11 197 yX11_nameAt ∈ tables_1 := (mt_6 (List.mem_of_getElem? (i := 153) (by decide +kernel)))
theorem ml_X11_239 : Cond.methodLink RX11 239 yX11_takeOne ∈ tables_1 := (mt_6 (List.mem_of_getElem? (i := 177) (by decide +kernel)))
theorem ml_X11_404 : Cond.methodLink RX11 404 yX11_rateNow ∈ tables_1 := (mt_8 (List.mem_of_getElem? (i := 1) (by decide +kernel)))
theorem ml_X11_398 : Cond.methodLink RX11 398 yX11_nextUnit ∈ tables_1 := (mt_8 (List.mem_of_getElem? (i := 9) (by decide +kernel)))
theorem fl_X11_401 : Cond.fieldLink RX11 401 (TX11 28).1 (TX11 28).2.1 (TX11 28).2.2.1 ∈ tables_1 := (mt_6 (List.mem_of_getElem? (i := 26) (by decide +kernel)))
theorem ml_X11_340 : Cond.methodLink RX11 340 yX11_laysArriving ∈ tables_1 := (mt_7 (List.mem_of_getElem? (i := 76) (by decide +kernel)))
theorem ml_X11_346 : Cond.methodLink RX11 346 yX11_settles ∈ tables_1 := (mt_7 (List.mem_of_getElem? (i := 68) (by decide +kernel)))
theorem ml_X11_258 : Cond.methodLink RX11 258 yX11_products ∈ tables_1 := (mt_6 (List.mem_of_getElem? (i := 201) (by decide +kernel)))
theorem ml_X11_180 : Cond.methodLink RX11 180 yX11_hasWord ∈ tables_1 := (mt_6 (List.mem_of_getElem? (i := 161) (by decide +kernel)))
theorem ml_X11_252 : Cond.methodLink RX11 252 yX11_sums ∈ tables_1 := (mt_6 (List.mem_of_getElem? (i := 197) (by decide +kernel)))
theorem ml_X11_407 : Cond.methodLink RX11 407 yX11_servesOf ∈ tables_1 := (mt_8 (List.mem_of_getElem? (i := 5) (by decide +kernel)))
theorem ml_X11_410 : Cond.methodLink RX11 410 yX11_goes ∈ tables_1 := (mt_8 (List.mem_of_getElem? (i := 17) (by decide +kernel)))
theorem ml_X11_366 : Cond.methodLink RX11 366 yX11_triesBy ∈ tables_1 := (mt_7 (List.mem_of_getElem? (i := 187) (by decide +kernel)))
theorem ml_X11_372 : Cond.methodLink RX11 372 yX11_nodeAt ∈ tables_1 := (mt_7 (List.mem_of_getElem? (i := 211) (by decide +kernel)))
theorem ml_X11_249 : Cond.methodLink RX11 249 yX11_test ∈ tables_1 := (mt_6 (List.mem_of_getElem? (i := 193) (by decide +kernel)))
theorem ml_X11_264 : Cond.methodLink RX11 264 yX11_worked ∈ tables_1 := (mt_7 (List.mem_of_getElem? (i := 222) (by decide +kernel)))
theorem fl_X1_18 : Cond.fieldLink RX1 18 (TX1 2).1 (TX1 2).2.1 (TX1 2).2.2.1 ∈ tables_1 := (mt_1 (List.mem_of_getElem? (i := 151) (by decide +kernel)))
theorem fl_X1_9 : Cond.fieldLink RX1 9 (TX1 0).1 (TX1 0).2.1 (TX1 0).2.2.1 ∈ tables_1 := (mt_1 (List.mem_of_getElem? (i := 149) (by decide +kernel)))
theorem fl_X1_15 : Cond.fieldLink RX1 15 (TX1 1).1 (TX1 1).2.1 (TX1 1).2.2.1 ∈ tables_1 := (mt_1 (List.mem_of_getElem? (i := 150) (by decide +kernel)))
theorem ml_X1_24 : Cond.methodLink RX1 24 yX1_strengthOf ∈ tables_1 := (mt_4 (List.mem_of_getElem? (i := 187) (by decide +kernel)))
theorem ml_X1_28 : Cond.methodLink RX1 28 yX1_joined ∈ tables_1 := (mt_4 (List.mem_of_getElem? (i := 188) (by decide +kernel)))
theorem ml_X1_32 : Cond.methodLink RX1 32 yX1_fact ∈ tables_1 := (mt_4 (List.mem_of_getElem? (i := 191) (by decide +kernel)))
theorem fl_X2_9 : Cond.fieldLink RX2 9 (TX2 0).1 (TX2 0).2.1 (TX2 0).2.2.1 ∈ tables_1 := (mt_2 (List.mem_of_getElem? (i := 47) (by decide +kernel)))
theorem ml_X2_17 : Cond.methodLink RX2 17 yX2_readPart ∈ tables_1 := (mt_3 (List.mem_of_getElem? (i := 144) (by decide +kernel)))
theorem ml_X2_21 : Cond.methodLink RX2 21 yX2_readPairs ∈ tables_1 := (mt_3 (List.mem_of_getElem? (i := 155) (by decide +kernel)))
theorem fl_X2_25 : Cond.fieldLink RX2 25 (TX8 5).1 (TX8 5).2.1 (TX8 5).2.2.1 ∈ tables_1 := (mt_1 (List.mem_of_getElem? (i := 99) (by decide +kernel)))
theorem ml_X2_31 : Cond.methodLink RX2 31 yX1_strengthOf ∈ tables_1 := (mt_3 (List.mem_of_getElem? (i := 156) (by decide +kernel)))
theorem ml_X2_35 : Cond.methodLink RX2 35 yX8_step ∈ tables_1 := (mt_3 (List.mem_of_getElem? (i := 150) (by decide +kernel)))
theorem ml_X2_38 : Cond.methodLink RX2 38 yX1_add ∈ tables_1 := (mt_3 (List.mem_of_getElem? (i := 151) (by decide +kernel)))
theorem ml_X2_42 : Cond.methodLink RX2 42 yX8_isFact ∈ tables_1 := (mt_3 (List.mem_of_getElem? (i := 148) (by decide +kernel)))
theorem ml_X2_46 : Cond.methodLink RX2 46 yX8_wrong ∈ tables_1 := (mt_3 (List.mem_of_getElem? (i := 149) (by decide +kernel)))
theorem fl_X2_50 : Cond.fieldLink RX2 50 (TX8 6).1 (TX8 6).2.1 (TX8 6).2.2.1 ∈ tables_1 := (mt_1 (List.mem_of_getElem? (i := 101) (by decide +kernel)))
theorem fl_X3_37 : Cond.fieldLink RX3 37 (TX3 7).1 (TX3 7).2.1 (TX3 7).2.2.1 ∈ tables_1 := (mt_1 (List.mem_of_getElem? (i := 211) (by decide +kernel)))
theorem fl_X3_42 : Cond.fieldLink RX3 42 (TX3 8).1 (TX3 8).2.1 (TX3 8).2.2.1 ∈ tables_1 := (mt_1 (List.mem_of_getElem? (i := 216) (by decide +kernel)))
theorem fl_X3_11 : Cond.fieldLink RX3 11 (TX3 0).1 (TX3 0).2.1 (TX3 0).2.2.1 ∈ tables_1 := (mt_1 (List.mem_of_getElem? (i := 185) (by decide +kernel)))
theorem fl_X3_17 : Cond.fieldLink RX3 17 (TX3 1).1 (TX3 1).2.1 (TX3 1).2.2.1 ∈ tables_1 := (mt_1 (List.mem_of_getElem? (i := 190) (by decide +kernel)))
theorem fl_X3_21 : Cond.fieldLink RX3 21 (TX3 2).1 (TX3 2).2.1 (TX3 2).2.2.1 ∈ tables_1 := (mt_1 (List.mem_of_getElem? (i := 192) (by decide +kernel)))
theorem fl_X3_24 : Cond.fieldLink RX3 24 (TX3 3).1 (TX3 3).2.1 (TX3 3).2.2.1 ∈ tables_1 := (mt_1 (List.mem_of_getElem? (i := 194) (by decide +kernel)))
theorem fl_X3_27 : Cond.fieldLink RX3 27 (TX3 4).1 (TX3 4).2.1 (TX3 4).2.2.1 ∈ tables_1 := (mt_1 (List.mem_of_getElem? (i := 197) (by decide +kernel)))
theorem fl_X3_31 : Cond.fieldLink RX3 31 (TX3 5).1 (TX3 5).2.1 (TX3 5).2.2.1 ∈ tables_1 := (mt_1 (List.mem_of_getElem? (i := 202) (by decide +kernel)))
theorem fl_X3_34 : Cond.fieldLink RX3 34 (TX3 6).1 (TX3 6).2.1 (TX3 6).2.2.1 ∈ tables_1 := (mt_1 (List.mem_of_getElem? (i := 207) (by decide +kernel)))
theorem fl_X3_45 : Cond.fieldLink RX3 45 (TX3 9).1 (TX3 9).2.1 (TX3 9).2.2.1 ∈ tables_1 := (mt_1 (List.mem_of_getElem? (i := 221) (by decide +kernel)))
theorem fl_X3_51 : Cond.fieldLink RX3 51 (TX3 10).1 (TX3 10).2.1 (TX3 10).2.2.1 ∈ tables_1 := (mt_1 (List.mem_of_getElem? (i := 225) (by decide +kernel)))
theorem fl_X3_56 : Cond.fieldLink RX3 56 (TX3 11).1 (TX3 11).2.1 (TX3 11).2.2.1 ∈ tables_1 := (mt_1 (List.mem_of_getElem? (i := 228) (by decide +kernel)))
theorem ml_X3_73 : Cond.methodLink RX3 73 yX3_find ∈ tables_1 := (mt_3 (List.mem_of_getElem? (i := 83) (by decide +kernel)))
theorem fl_X3_60 : Cond.fieldLink RX3 60 (TX3 12).1 (TX3 12).2.1 (TX3 12).2.2.1 ∈ tables_1 := (mt_1 (List.mem_of_getElem? (i := 231) (by decide +kernel)))
theorem fl_X3_63 : Cond.fieldLink RX3 63 (TX3 13).1 (TX3 13).2.1 (TX3 13).2.2.1 ∈ tables_1 := (mt_1 (List.mem_of_getElem? (i := 236) (by decide +kernel)))
theorem fl_X3_66 : Cond.fieldLink RX3 66 (TX3 14).1 (TX3 14).2.1 (TX3 14).2.2.1 ∈ tables_1 := (mt_2 (List.mem_of_getElem? (i := 2) (by decide +kernel)))
theorem ml_X3_70 : Cond.methodLink RX3 70 yX1_reset ∈ tables_1 := (mt_3 (List.mem_of_getElem? (i := 25) (by decide +kernel)))
theorem fl_X4_9 : Cond.fieldLink RX4 9 (TX4 0).1 (TX4 0).2.1 (TX4 0).2.2.1 ∈ tables_1 := (mt_2 (List.mem_of_getElem? (i := 51) (by decide +kernel)))
theorem fl_X4_15 : Cond.fieldLink RX4 15 (TX4 2).1 (TX4 2).2.1 (TX4 2).2.2.1 ∈ tables_1 := (mt_2 (List.mem_of_getElem? (i := 53) (by decide +kernel)))
theorem fl_X4_24 : Cond.fieldLink RX4 24 (TX4 1).1 (TX4 1).2.1 (TX4 1).2.2.1 ∈ tables_1 := (mt_2 (List.mem_of_getElem? (i := 52) (by decide +kernel)))
theorem ml_X4_28 : Cond.methodLink RX4 28 yX3_reset ∈ tables_1 := (mt_3 (List.mem_of_getElem? (i := 21) (by decide +kernel)))
theorem ml_X4_33 : Cond.methodLink RX4 33 yX8_begin ∈ tables_1 := (mt_3 (List.mem_of_getElem? (i := 29) (by decide +kernel)))
theorem fl_X4_38 : Cond.fieldLink RX4 38 (TX8 8).1 (TX8 8).2.1 (TX8 8).2.2.1 ∈ tables_1 := (mt_1 (List.mem_of_getElem? (i := 108) (by decide +kernel)))
theorem fl_X4_42 : Cond.fieldLink RX4 42 (TX8 5).1 (TX8 5).2.1 (TX8 5).2.2.1 ∈ tables_1 := (mt_1 (List.mem_of_getElem? (i := 98) (by decide +kernel)))
theorem ml_X4_45 : Cond.methodLink RX4 45 yX4_readCurve ∈ tables_1 := (mt_3 (List.mem_of_getElem? (i := 58) (by decide +kernel)))
theorem ml_X4_48 : Cond.methodLink RX4 48 yX4_readNode ∈ tables_1 := (mt_3 (List.mem_of_getElem? (i := 107) (by decide +kernel)))
theorem ml_X4_51 : Cond.methodLink RX4 51 yX4_readFlow ∈ tables_1 := (mt_3 (List.mem_of_getElem? (i := 120) (by decide +kernel)))
theorem ml_X4_54 : Cond.methodLink RX4 54 yX4_readLoses ∈ tables_1 := (mt_3 (List.mem_of_getElem? (i := 136) (by decide +kernel)))
theorem ml_X4_57 : Cond.methodLink RX4 57 yX8_wrong ∈ tables_1 := (mt_3 (List.mem_of_getElem? (i := 62) (by decide +kernel)))
theorem fl_X4_111 : Cond.fieldLink RX4 111 (TX0 0).1 (TX0 0).2.1 (TX0 0).2.2.1 ∈ tables_1 := (mt_1 (List.mem_of_getElem? (i := 166) (by decide +kernel)))
theorem fl_X4_117 : Cond.fieldLink RX4 117 (TX0 1).1 (TX0 1).2.1 (TX0 1).2.2.1 ∈ tables_1 := (mt_1 (List.mem_of_getElem? (i := 168) (by decide +kernel)))
theorem fl_X4_120 : Cond.fieldLink RX4 120 (TX0 2).1 (TX0 2).2.1 (TX0 2).2.2.1 ∈ tables_1 := (mt_1 (List.mem_of_getElem? (i := 171) (by decide +kernel)))
theorem ml_X4_104 : Cond.methodLink RX4 104 yX8_hasNumber ∈ tables_1 := (mt_3 (List.mem_of_getElem? (i := 95) (by decide +kernel)))
theorem fl_X4_108 : Cond.fieldLink RX4 108 (TX8 6).1 (TX8 6).2.1 (TX8 6).2.2.1 ∈ tables_1 := (mt_1 (List.mem_of_getElem? (i := 103) (by decide +kernel)))
theorem fl_X4_123 : Cond.fieldLink RX4 123 (TX0 3).1 (TX0 3).2.1 (TX0 3).2.2.1 ∈ tables_1 := (mt_1 (List.mem_of_getElem? (i := 174) (by decide +kernel)))
theorem ml_X4_73 : Cond.methodLink RX4 73 yX8_step ∈ tables_1 := (mt_3 (List.mem_of_getElem? (i := 66) (by decide +kernel)))
theorem fl_X4_76 : Cond.fieldLink RX4 76 (TX3 11).1 (TX3 11).2.1 (TX3 11).2.2.1 ∈ tables_1 := (mt_1 (List.mem_of_getElem? (i := 229) (by decide +kernel)))
theorem fl_X4_79 : Cond.fieldLink RX4 79 (TX3 0).1 (TX3 0).2.1 (TX3 0).2.2.1 ∈ tables_1 := (mt_1 (List.mem_of_getElem? (i := 186) (by decide +kernel)))
theorem fl_X4_83 : Cond.fieldLink RX4 83 (TX3 1).1 (TX3 1).2.1 (TX3 1).2.2.1 ∈ tables_1 := (mt_1 (List.mem_of_getElem? (i := 191) (by decide +kernel)))
theorem ml_X4_87 : Cond.methodLink RX4 87 yX4_readNewName ∈ tables_1 := (mt_3 (List.mem_of_getElem? (i := 67) (by decide +kernel)))
theorem ml_X4_91 : Cond.methodLink RX4 91 yX8_take ∈ tables_1 := (mt_3 (List.mem_of_getElem? (i := 86) (by decide +kernel)))
theorem ml_X4_94 : Cond.methodLink RX4 94 yX4_readValues ∈ tables_1 := (mt_3 (List.mem_of_getElem? (i := 91) (by decide +kernel)))
theorem ml_X4_98 : Cond.methodLink RX4 98 yX4_readAgain ∈ tables_1 := (mt_3 (List.mem_of_getElem? (i := 99) (by decide +kernel)))
theorem ml_X4_101 : Cond.methodLink RX4 101 yX4_readAdds ∈ tables_1 := (mt_3 (List.mem_of_getElem? (i := 103) (by decide +kernel)))
theorem ml_X4_61 : Cond.methodLink RX4 61 yX8_isName ∈ tables_1 := (mt_3 (List.mem_of_getElem? (i := 71) (by decide +kernel)))
theorem fl_X4_65 : Cond.fieldLink RX4 65 (TX8 7).1 (TX8 7).2.1 (TX8 7).2.2.1 ∈ tables_1 := (mt_1 (List.mem_of_getElem? (i := 105) (by decide +kernel)))
theorem ml_X4_145 : Cond.methodLink RX4 145 yX3_find ∈ tables_1 := (mt_3 (List.mem_of_getElem? (i := 119) (by decide +kernel)))
theorem fl_X4_142 : Cond.fieldLink RX4 142 (TX3 4).1 (TX3 4).2.1 (TX3 4).2.2.1 ∈ tables_1 := (mt_1 (List.mem_of_getElem? (i := 199) (by decide +kernel)))
theorem fl_X4_149 : Cond.fieldLink RX4 149 (TX3 13).1 (TX3 13).2.1 (TX3 13).2.2.1 ∈ tables_1 := (mt_2 (List.mem_of_getElem? (i := 0) (by decide +kernel)))
theorem fl_X4_152 : Cond.fieldLink RX4 152 (TX3 3).1 (TX3 3).2.1 (TX3 3).2.2.1 ∈ tables_1 := (mt_1 (List.mem_of_getElem? (i := 196) (by decide +kernel)))
theorem fl_X4_155 : Cond.fieldLink RX4 155 (TX3 6).1 (TX3 6).2.1 (TX3 6).2.2.1 ∈ tables_1 := (mt_1 (List.mem_of_getElem? (i := 209) (by decide +kernel)))
theorem ml_X4_138 : Cond.methodLink RX4 138 yX4_readCurveName ∈ tables_1 := (mt_3 (List.mem_of_getElem? (i := 115) (by decide +kernel)))
theorem ml_X4_158 : Cond.methodLink RX4 158 yX4_readWay ∈ tables_1 := (mt_3 (List.mem_of_getElem? (i := 124) (by decide +kernel)))
theorem fl_X4_129 : Cond.fieldLink RX4 129 (TX3 2).1 (TX3 2).2.1 (TX3 2).2.2.1 ∈ tables_1 := (mt_1 (List.mem_of_getElem? (i := 193) (by decide +kernel)))
theorem fl_X4_126 : Cond.fieldLink RX4 126 (TX3 12).1 (TX3 12).2.1 (TX3 12).2.2.1 ∈ tables_1 := (mt_1 (List.mem_of_getElem? (i := 233) (by decide +kernel)))
theorem ml_X4_167 : Cond.methodLink RX4 167 yX3_hopAt ∈ tables_1 := (mt_3 (List.mem_of_getElem? (i := 132) (by decide +kernel)))
theorem fl_X4_161 : Cond.fieldLink RX4 161 (TX3 7).1 (TX3 7).2.1 (TX3 7).2.2.1 ∈ tables_1 := (mt_1 (List.mem_of_getElem? (i := 214) (by decide +kernel)))
theorem fl_X4_171 : Cond.fieldLink RX4 171 (TX3 8).1 (TX3 8).2.1 (TX3 8).2.2.1 ∈ tables_1 := (mt_1 (List.mem_of_getElem? (i := 219) (by decide +kernel)))
theorem fl_X4_175 : Cond.fieldLink RX4 175 (TX3 9).1 (TX3 9).2.1 (TX3 9).2.2.1 ∈ tables_1 := (mt_1 (List.mem_of_getElem? (i := 224) (by decide +kernel)))
theorem fl_X4_178 : Cond.fieldLink RX4 178 (TX3 14).1 (TX3 14).2.1 (TX3 14).2.2.1 ∈ tables_1 := (mt_2 (List.mem_of_getElem? (i := 3) (by decide +kernel)))
theorem fl_X4_182 : Cond.fieldLink RX4 182 (TX3 10).1 (TX3 10).2.1 (TX3 10).2.2.1 ∈ tables_1 := (mt_1 (List.mem_of_getElem? (i := 227) (by decide +kernel)))
theorem ml_X4_188 : Cond.methodLink RX4 188 yX2_readPairs ∈ tables_1 := (mt_3 (List.mem_of_getElem? (i := 140) (by decide +kernel)))
theorem ml_X4_69 : Cond.methodLink RX4 69 yX3_knows ∈ tables_1 := (mt_3 (List.mem_of_getElem? (i := 79) (by decide +kernel)))
theorem ml_X4_132 : Cond.methodLink RX4 132 yX4_readDiscipline ∈ tables_1 := (mt_3 (List.mem_of_getElem? (i := 111) (by decide +kernel)))
theorem fl_X4_135 : Cond.fieldLink RX4 135 (TX3 5).1 (TX3 5).2.1 (TX3 5).2.2.1 ∈ tables_1 := (mt_1 (List.mem_of_getElem? (i := 204) (by decide +kernel)))
theorem ml_X4_164 : Cond.methodLink RX4 164 yX4_readHop ∈ tables_1 := (mt_3 (List.mem_of_getElem? (i := 128) (by decide +kernel)))
theorem fl_X5_9 : Cond.fieldLink RX5 9 (TX5 0).1 (TX5 0).2.1 (TX5 0).2.2.1 ∈ tables_1 := (mt_2 (List.mem_of_getElem? (i := 67) (by decide +kernel)))
theorem fl_X5_15 : Cond.fieldLink RX5 15 (TX5 1).1 (TX5 1).2.1 (TX5 1).2.2.1 ∈ tables_1 := (mt_2 (List.mem_of_getElem? (i := 69) (by decide +kernel)))
theorem fl_X5_18 : Cond.fieldLink RX5 18 (TX5 2).1 (TX5 2).2.1 (TX5 2).2.2.1 ∈ tables_1 := (mt_2 (List.mem_of_getElem? (i := 71) (by decide +kernel)))
theorem ml_X5_22 : Cond.methodLink RX5 22 yX8_begin ∈ tables_1 := (mt_3 (List.mem_of_getElem? (i := 183) (by decide +kernel)))
theorem fl_X5_27 : Cond.fieldLink RX5 27 (TX8 5).1 (TX8 5).2.1 (TX8 5).2.2.1 ∈ tables_1 := (mt_1 (List.mem_of_getElem? (i := 97) (by decide +kernel)))
theorem ml_X5_30 : Cond.methodLink RX5 30 yX5_readLine ∈ tables_1 := (mt_3 (List.mem_of_getElem? (i := 184) (by decide +kernel)))
theorem fl_X5_34 : Cond.fieldLink RX5 34 (TX8 8).1 (TX8 8).2.1 (TX8 8).2.2.1 ∈ tables_1 := (mt_1 (List.mem_of_getElem? (i := 109) (by decide +kernel)))
theorem ml_X5_37 : Cond.methodLink RX5 37 yX8_wrong ∈ tables_1 := (mt_3 (List.mem_of_getElem? (i := 188) (by decide +kernel)))
theorem ml_X5_41 : Cond.methodLink RX5 41 yX8_step ∈ tables_1 := (mt_3 (List.mem_of_getElem? (i := 189) (by decide +kernel)))
theorem ml_X5_44 : Cond.methodLink RX5 44 yX5_readPut ∈ tables_1 := (mt_3 (List.mem_of_getElem? (i := 190) (by decide +kernel)))
theorem ml_X5_47 : Cond.methodLink RX5 47 yX8_take ∈ tables_1 := (mt_3 (List.mem_of_getElem? (i := 197) (by decide +kernel)))
theorem ml_X5_50 : Cond.methodLink RX5 50 yX8_isName ∈ tables_1 := (mt_3 (List.mem_of_getElem? (i := 194) (by decide +kernel)))
theorem fl_X5_54 : Cond.fieldLink RX5 54 (TX3 3).1 (TX3 3).2.1 (TX3 3).2.2.1 ∈ tables_1 := (mt_1 (List.mem_of_getElem? (i := 195) (by decide +kernel)))
theorem fl_X5_60 : Cond.fieldLink RX5 60 (TX3 13).1 (TX3 13).2.1 (TX3 13).2.2.1 ∈ tables_1 := (mt_1 (List.mem_of_getElem? (i := 237) (by decide +kernel)))
theorem fl_X5_63 : Cond.fieldLink RX5 63 (TX8 7).1 (TX8 7).2.1 (TX8 7).2.2.1 ∈ tables_1 := (mt_1 (List.mem_of_getElem? (i := 106) (by decide +kernel)))
theorem ml_X5_67 : Cond.methodLink RX5 67 yX3_find ∈ tables_1 := (mt_3 (List.mem_of_getElem? (i := 195) (by decide +kernel)))
theorem ml_X5_71 : Cond.methodLink RX5 71 yX8_hasNumber ∈ tables_1 := (mt_3 (List.mem_of_getElem? (i := 196) (by decide +kernel)))
theorem fl_X5_75 : Cond.fieldLink RX5 75 (TX8 6).1 (TX8 6).2.1 (TX8 6).2.2.1 ∈ tables_1 := (mt_1 (List.mem_of_getElem? (i := 102) (by decide +kernel)))
theorem fl_X6_19 : Cond.fieldLink RX6 19 (TX6 2).1 (TX6 2).2.1 (TX6 2).2.2.1 ∈ tables_1 := (mt_2 (List.mem_of_getElem? (i := 161) (by decide +kernel)))
theorem fl_X6_11 : Cond.fieldLink RX6 11 (TX6 0).1 (TX6 0).2.1 (TX6 0).2.2.1 ∈ tables_1 := (mt_2 (List.mem_of_getElem? (i := 158) (by decide +kernel)))
theorem fl_X6_32 : Cond.fieldLink RX6 32 (TX6 6).1 (TX6 6).2.1 (TX6 6).2.2.1 ∈ tables_1 := (mt_2 (List.mem_of_getElem? (i := 165) (by decide +kernel)))
theorem fl_X6_95 : Cond.fieldLink RX6 95 (TX3 4).1 (TX3 4).2.1 (TX3 4).2.2.1 ∈ tables_1 := (mt_1 (List.mem_of_getElem? (i := 198) (by decide +kernel)))
theorem fl_X6_25 : Cond.fieldLink RX6 25 (TX6 4).1 (TX6 4).2.1 (TX6 4).2.2.1 ∈ tables_1 := (mt_2 (List.mem_of_getElem? (i := 163) (by decide +kernel)))
theorem ml_X6_98 : Cond.methodLink RX6 98 yX6_fillComing ∈ tables_1 := (mt_4 (List.mem_of_getElem? (i := 72) (by decide +kernel)))
theorem fl_X6_22 : Cond.fieldLink RX6 22 (TX6 3).1 (TX6 3).2.1 (TX6 3).2.2.1 ∈ tables_1 := (mt_2 (List.mem_of_getElem? (i := 162) (by decide +kernel)))
theorem fl_X6_29 : Cond.fieldLink RX6 29 (TX6 5).1 (TX6 5).2.1 (TX6 5).2.2.1 ∈ tables_1 := (mt_2 (List.mem_of_getElem? (i := 164) (by decide +kernel)))
theorem ml_X6_106 : Cond.methodLink RX6 106 yX6_fillLeft ∈ tables_1 := (mt_4 (List.mem_of_getElem? (i := 81) (by decide +kernel)))
theorem fl_X6_79 : Cond.fieldLink RX6 79 (TX3 13).1 (TX3 13).2.1 (TX3 13).2.2.1 ∈ tables_1 := (mt_1 (List.mem_of_getElem? (i := 238) (by decide +kernel)))
theorem fl_X6_82 : Cond.fieldLink RX6 82 (TX3 7).1 (TX3 7).2.1 (TX3 7).2.2.1 ∈ tables_1 := (mt_1 (List.mem_of_getElem? (i := 212) (by decide +kernel)))
theorem fl_X6_85 : Cond.fieldLink RX6 85 (TX3 8).1 (TX3 8).2.1 (TX3 8).2.2.1 ∈ tables_1 := (mt_1 (List.mem_of_getElem? (i := 217) (by decide +kernel)))
theorem fl_X6_56 : Cond.fieldLink RX6 56 (TX3 0).1 (TX3 0).2.1 (TX3 0).2.2.1 ∈ tables_1 := (mt_1 (List.mem_of_getElem? (i := 187) (by decide +kernel)))
theorem fl_X6_88 : Cond.fieldLink RX6 88 (TX3 6).1 (TX3 6).2.1 (TX3 6).2.2.1 ∈ tables_1 := (mt_1 (List.mem_of_getElem? (i := 208) (by decide +kernel)))
theorem ml_X6_63 : Cond.methodLink RX6 63 yX0_fill ∈ tables_1 := (mt_4 (List.mem_of_getElem? (i := 59) (by decide +kernel)))
theorem ml_X6_110 : Cond.methodLink RX6 110 yX6_comingOf ∈ tables_1 := (mt_4 (List.mem_of_getElem? (i := 76) (by decide +kernel)))
theorem fl_X6_114 : Cond.fieldLink RX6 114 (TX3 9).1 (TX3 9).2.1 (TX3 9).2.2.1 ∈ tables_1 := (mt_1 (List.mem_of_getElem? (i := 222) (by decide +kernel)))
theorem ml_X6_117 : Cond.methodLink RX6 117 yJ6_bitCount_0f7a4 ∈ tables_1 := (mt_4 (List.mem_of_getElem? (i := 85) (by decide +kernel)))
theorem ml_X6_123 : Cond.methodLink RX6 123 Lib.Math.max.name ∈ tables_1 := (mt_4 (List.mem_of_getElem? (i := 91) (by decide +kernel)))
theorem fl_X6_36 : Cond.fieldLink RX6 36 (TX6 7).1 (TX6 7).2.1 (TX6 7).2.2.1 ∈ tables_1 := (mt_2 (List.mem_of_getElem? (i := 166) (by decide +kernel)))
theorem fl_X6_16 : Cond.fieldLink RX6 16 (TX6 1).1 (TX6 1).2.1 (TX6 1).2.2.1 ∈ tables_1 := (mt_2 (List.mem_of_getElem? (i := 160) (by decide +kernel)))
theorem ml_X6_40 : Cond.methodLink RX6 40 yX6_settle ∈ tables_1 := (mt_4 (List.mem_of_getElem? (i := 51) (by decide +kernel)))
theorem fl_X6_44 : Cond.fieldLink RX6 44 (TX6 8).1 (TX6 8).2.1 (TX6 8).2.2.1 ∈ tables_1 := (mt_2 (List.mem_of_getElem? (i := 167) (by decide +kernel)))
theorem ml_X6_48 : Cond.methodLink RX6 48 yX6_clear ∈ tables_1 := (mt_4 (List.mem_of_getElem? (i := 55) (by decide +kernel)))
theorem fl_X6_51 : Cond.fieldLink RX6 51 (TX3 12).1 (TX3 12).2.1 (TX3 12).2.2.1 ∈ tables_1 := (mt_1 (List.mem_of_getElem? (i := 232) (by decide +kernel)))
theorem fl_X6_60 : Cond.fieldLink RX6 60 (TX3 5).1 (TX3 5).2.1 (TX3 5).2.2.1 ∈ tables_1 := (mt_1 (List.mem_of_getElem? (i := 203) (by decide +kernel)))
theorem ml_X6_69 : Cond.methodLink RX6 69 yX6_fillArriving ∈ tables_1 := (mt_4 (List.mem_of_getElem? (i := 60) (by decide +kernel)))
theorem ml_X6_72 : Cond.methodLink RX6 72 yX6_tellAnew ∈ tables_1 := (mt_4 (List.mem_of_getElem? (i := 64) (by decide +kernel)))
theorem ml_X6_76 : Cond.methodLink RX6 76 yX6_takeAnew ∈ tables_1 := (mt_4 (List.mem_of_getElem? (i := 94) (by decide +kernel)))
theorem ml_X6_91 : Cond.methodLink RX6 91 yX6_delayAt ∈ tables_1 := (mt_4 (List.mem_of_getElem? (i := 68) (by decide +kernel)))
theorem fl_X7_22 : Cond.fieldLink RX7 22 (TX7 3).1 (TX7 3).2.1 (TX7 3).2.2.1 ∈ tables_1 := (mt_2 (List.mem_of_getElem? (i := 137) (by decide +kernel)))
theorem fl_X7_9 : Cond.fieldLink RX7 9 (TX7 0).1 (TX7 0).2.1 (TX7 0).2.2.1 ∈ tables_1 := (mt_2 (List.mem_of_getElem? (i := 134) (by decide +kernel)))
theorem fl_X7_15 : Cond.fieldLink RX7 15 (TX7 1).1 (TX7 1).2.1 (TX7 1).2.2.1 ∈ tables_1 := (mt_2 (List.mem_of_getElem? (i := 135) (by decide +kernel)))
theorem fl_X7_18 : Cond.fieldLink RX7 18 (TX7 2).1 (TX7 2).2.1 (TX7 2).2.2.1 ∈ tables_1 := (mt_2 (List.mem_of_getElem? (i := 136) (by decide +kernel)))
theorem ml_X7_26 : Cond.methodLink RX7 26 yX0_at ∈ tables_1 := (mt_5 (List.mem_of_getElem? (i := 58) (by decide +kernel)))
theorem fl_X8_37 : Cond.fieldLink RX8 37 (TX8 2).1 (TX8 2).2.1 (TX8 2).2.2.1 ∈ tables_1 := (mt_1 (List.mem_of_getElem? (i := 94) (by decide +kernel)))
theorem fl_X8_9 : Cond.fieldLink RX8 9 (TX8 0).1 (TX8 0).2.1 (TX8 0).2.2.1 ∈ tables_1 := (mt_1 (List.mem_of_getElem? (i := 91) (by decide +kernel)))
theorem fl_X8_40 : Cond.fieldLink RX8 40 (TX8 4).1 (TX8 4).2.1 (TX8 4).2.2.1 ∈ tables_1 := (mt_1 (List.mem_of_getElem? (i := 96) (by decide +kernel)))
theorem fl_X8_43 : Cond.fieldLink RX8 43 (TX8 8).1 (TX8 8).2.1 (TX8 8).2.2.1 ∈ tables_1 := (mt_1 (List.mem_of_getElem? (i := 110) (by decide +kernel)))
theorem ml_X8_46 : Cond.methodLink RX8 46 yX8_step ∈ tables_1 := (mt_3 (List.mem_of_getElem? (i := 33) (by decide +kernel)))
theorem fl_X8_52 : Cond.fieldLink RX8 52 (TX8 5).1 (TX8 5).2.1 (TX8 5).2.2.1 ∈ tables_1 := (mt_1 (List.mem_of_getElem? (i := 100) (by decide +kernel)))
theorem ml_X8_87 : Cond.methodLink RX8 87 yX8_wrong ∈ tables_1 := (mt_3 (List.mem_of_getElem? (i := 90) (by decide +kernel)))
theorem fl_X8_80 : Cond.fieldLink RX8 80 (TX8 6).1 (TX8 6).2.1 (TX8 6).2.2.1 ∈ tables_1 := (mt_1 (List.mem_of_getElem? (i := 104) (by decide +kernel)))
theorem fl_X8_15 : Cond.fieldLink RX8 15 (TX8 1).1 (TX8 1).2.1 (TX8 1).2.2.1 ∈ tables_1 := (mt_1 (List.mem_of_getElem? (i := 92) (by decide +kernel)))
theorem ml_X8_83 : Cond.methodLink RX8 83 yX8_isFact ∈ tables_1 := (mt_3 (List.mem_of_getElem? (i := 75) (by decide +kernel)))
theorem ml_X8_62 : Cond.methodLink RX8 62 yX8_isDigit ∈ tables_1 := (mt_3 (List.mem_of_getElem? (i := 48) (by decide +kernel)))
theorem fl_X8_49 : Cond.fieldLink RX8 49 (TX8 3).1 (TX8 3).2.1 (TX8 3).2.2.1 ∈ tables_1 := (mt_1 (List.mem_of_getElem? (i := 95) (by decide +kernel)))
theorem fl_X8_72 : Cond.fieldLink RX8 72 (TX8 7).1 (TX8 7).2.1 (TX8 7).2.2.1 ∈ tables_1 := (mt_1 (List.mem_of_getElem? (i := 107) (by decide +kernel)))
theorem ml_X8_55 : Cond.methodLink RX8 55 yX8_isLetter ∈ tables_1 := (mt_3 (List.mem_of_getElem? (i := 37) (by decide +kernel)))
theorem ml_X8_31 : Cond.methodLink RX8 31 yX8_withLetter ∈ tables_1 := (mt_1 (List.mem_of_getElem? (i := 87) (by decide +kernel)))
theorem ml_X8_76 : Cond.methodLink RX8 76 yX8_kindOfWord ∈ tables_1 := (mt_3 (List.mem_of_getElem? (i := 44) (by decide +kernel)))
theorem ml_X8_59 : Cond.methodLink RX8 59 yX8_readWord ∈ tables_1 := (mt_3 (List.mem_of_getElem? (i := 40) (by decide +kernel)))
theorem ml_X8_65 : Cond.methodLink RX8 65 yX8_readNumber ∈ tables_1 := (mt_3 (List.mem_of_getElem? (i := 51) (by decide +kernel)))
theorem ml_X8_68 : Cond.methodLink RX8 68 yX8_kindOfSign ∈ tables_1 := (mt_3 (List.mem_of_getElem? (i := 55) (by decide +kernel)))
theorem fl_X9_41 : Cond.fieldLink RX9 41 (TX9 10).1 (TX9 10).2.1 (TX9 10).2.2.1 ∈ tables_1 := (mt_2 (List.mem_of_getElem? (i := 103) (by decide +kernel)))
theorem fl_X9_22 : Cond.fieldLink RX9 22 (TX9 3).1 (TX9 3).2.1 (TX9 3).2.2.1 ∈ tables_1 := (mt_2 (List.mem_of_getElem? (i := 91) (by decide +kernel)))
theorem ml_X9_57 : Cond.methodLink RX9 57 yX9_sum ∈ tables_1 := (mt_4 (List.mem_of_getElem? (i := 180) (by decide +kernel)))
theorem fl_X9_61 : Cond.fieldLink RX9 61 (TX3 8).1 (TX3 8).2.1 (TX3 8).2.2.1 ∈ tables_1 := (mt_1 (List.mem_of_getElem? (i := 218) (by decide +kernel)))
theorem fl_X9_19 : Cond.fieldLink RX9 19 (TX9 2).1 (TX9 2).2.1 (TX9 2).2.2.1 ∈ tables_1 := (mt_2 (List.mem_of_getElem? (i := 90) (by decide +kernel)))
theorem fl_X9_66 : Cond.fieldLink RX9 66 (TX3 10).1 (TX3 10).2.1 (TX3 10).2.2.1 ∈ tables_1 := (mt_1 (List.mem_of_getElem? (i := 226) (by decide +kernel)))
theorem ml_X9_70 : Cond.methodLink RX9 70 yX1_worth ∈ tables_1 := (mt_4 (List.mem_of_getElem? (i := 183) (by decide +kernel)))
theorem fl_X9_32 : Cond.fieldLink RX9 32 (TX9 6).1 (TX9 6).2.1 (TX9 6).2.2.1 ∈ tables_1 := (mt_2 (List.mem_of_getElem? (i := 97) (by decide +kernel)))
theorem ml_X9_76 : Cond.methodLink RX9 76 yX9_bringTo ∈ tables_1 := (mt_4 (List.mem_of_getElem? (i := 194) (by decide +kernel)))
theorem fl_X9_11 : Cond.fieldLink RX9 11 (TX9 0).1 (TX9 0).2.1 (TX9 0).2.2.1 ∈ tables_1 := (mt_2 (List.mem_of_getElem? (i := 88) (by decide +kernel)))
theorem fl_X9_26 : Cond.fieldLink RX9 26 (TX9 4).1 (TX9 4).2.1 (TX9 4).2.2.1 ∈ tables_1 := (mt_2 (List.mem_of_getElem? (i := 93) (by decide +kernel)))
theorem ml_X9_45 : Cond.methodLink RX9 45 arraycopyName ∈ tables_1 := (mt_5 (List.mem_of_getElem? (i := 77) (by decide +kernel)))
theorem fl_X9_29 : Cond.fieldLink RX9 29 (TX9 5).1 (TX9 5).2.1 (TX9 5).2.2.1 ∈ tables_1 := (mt_2 (List.mem_of_getElem? (i := 95) (by decide +kernel)))
theorem fl_X9_35 : Cond.fieldLink RX9 35 (TX9 7).1 (TX9 7).2.1 (TX9 7).2.2.1 ∈ tables_1 := (mt_2 (List.mem_of_getElem? (i := 99) (by decide +kernel)))
theorem fl_X9_151 : Cond.fieldLink RX9 151 (TX9 9).1 (TX9 9).2.1 (TX9 9).2.2.1 ∈ tables_1 := (mt_2 (List.mem_of_getElem? (i := 102) (by decide +kernel)))
theorem fl_X9_16 : Cond.fieldLink RX9 16 (TX9 1).1 (TX9 1).2.1 (TX9 1).2.2.1 ∈ tables_1 := (mt_2 (List.mem_of_getElem? (i := 89) (by decide +kernel)))
theorem fl_X9_38 : Cond.fieldLink RX9 38 (TX9 8).1 (TX9 8).2.1 (TX9 8).2.2.1 ∈ tables_1 := (mt_2 (List.mem_of_getElem? (i := 101) (by decide +kernel)))
theorem ml_X9_115 : Cond.methodLink RX9 115 yX0_at ∈ tables_1 := (mt_4 (List.mem_of_getElem? (i := 214) (by decide +kernel)))
theorem ml_X9_51 : Cond.methodLink RX9 51 Lib.Math.max.name ∈ tables_1 := (mt_4 (List.mem_of_getElem? (i := 224) (by decide +kernel)))
theorem ml_X9_121 : Cond.methodLink RX9 121 yX9_firstPlaceAbove ∈ tables_1 := (mt_4 (List.mem_of_getElem? (i := 220) (by decide +kernel)))
theorem fl_X9_80 : Cond.fieldLink RX9 80 (TX3 12).1 (TX3 12).2.1 (TX3 12).2.2.1 ∈ tables_1 := (mt_1 (List.mem_of_getElem? (i := 235) (by decide +kernel)))
theorem ml_X9_83 : Cond.methodLink RX9 83 yX9_serveAt ∈ tables_1 := (mt_4 (List.mem_of_getElem? (i := 206) (by decide +kernel)))
theorem ml_X9_87 : Cond.methodLink RX9 87 yX9_sendOn ∈ tables_1 := (mt_4 (List.mem_of_getElem? (i := 229) (by decide +kernel)))
theorem ml_X9_130 : Cond.methodLink RX9 130 yX9_reset ∈ tables_1 := (mt_5 (List.mem_of_getElem? (i := 2) (by decide +kernel)))
theorem fl_X9_133 : Cond.fieldLink RX9 133 (TX5 2).1 (TX5 2).2.1 (TX5 2).2.2.1 ∈ tables_1 := (mt_2 (List.mem_of_getElem? (i := 73) (by decide +kernel)))
theorem fl_X9_138 : Cond.fieldLink RX9 138 (TX5 0).1 (TX5 0).2.1 (TX5 0).2.2.1 ∈ tables_1 := (mt_2 (List.mem_of_getElem? (i := 68) (by decide +kernel)))
theorem ml_X9_141 : Cond.methodLink RX9 141 yX9_passOn ∈ tables_1 := (mt_5 (List.mem_of_getElem? (i := 3) (by decide +kernel)))
theorem fl_X9_145 : Cond.fieldLink RX9 145 (TX5 1).1 (TX5 1).2.1 (TX5 1).2.2.1 ∈ tables_1 := (mt_2 (List.mem_of_getElem? (i := 70) (by decide +kernel)))
theorem ml_X9_148 : Cond.methodLink RX9 148 yX9_admit ∈ tables_1 := (mt_5 (List.mem_of_getElem? (i := 4) (by decide +kernel)))
theorem fl_X9_155 : Cond.fieldLink RX9 155 (TX3 13).1 (TX3 13).2.1 (TX3 13).2.2.1 ∈ tables_1 := (mt_2 (List.mem_of_getElem? (i := 1) (by decide +kernel)))
theorem ml_X9_158 : Cond.methodLink RX9 158 yX9_draw ∈ tables_1 := (mt_5 (List.mem_of_getElem? (i := 82) (by decide +kernel)))
theorem fl_X9_108 : Cond.fieldLink RX9 108 (TX3 0).1 (TX3 0).2.1 (TX3 0).2.2.1 ∈ tables_1 := (mt_1 (List.mem_of_getElem? (i := 189) (by decide +kernel)))
theorem fl_X9_112 : Cond.fieldLink RX9 112 (TX3 5).1 (TX3 5).2.1 (TX3 5).2.2.1 ∈ tables_1 := (mt_1 (List.mem_of_getElem? (i := 205) (by decide +kernel)))
theorem ml_X9_124 : Cond.methodLink RX9 124 yX3_hopAt ∈ tables_1 := (mt_4 (List.mem_of_getElem? (i := 233) (by decide +kernel)))
theorem fl_X9_127 : Cond.fieldLink RX9 127 (TX3 7).1 (TX3 7).2.1 (TX3 7).2.2.1 ∈ tables_1 := (mt_1 (List.mem_of_getElem? (i := 215) (by decide +kernel)))
theorem ml_X9_91 : Cond.methodLink RX9 91 yX9_quota ∈ tables_1 := (mt_4 (List.mem_of_getElem? (i := 210) (by decide +kernel)))
theorem ml_X9_95 : Cond.methodLink RX9 95 Lib.Math.min.name ∈ tables_1 := (mt_4 (List.mem_of_getElem? (i := 215) (by decide +kernel)))
theorem fl_X9_98 : Cond.fieldLink RX9 98 (TX3 4).1 (TX3 4).2.1 (TX3 4).2.2.1 ∈ tables_1 := (mt_1 (List.mem_of_getElem? (i := 200) (by decide +kernel)))
theorem ml_X9_101 : Cond.methodLink RX9 101 yX9_nextPlace ∈ tables_1 := (mt_4 (List.mem_of_getElem? (i := 216) (by decide +kernel)))
theorem ml_X9_105 : Cond.methodLink RX9 105 yX9_takeOut ∈ tables_1 := (mt_4 (List.mem_of_getElem? (i := 225) (by decide +kernel)))
theorem mo_J6_bitCount_0f7a4 : MOkS M_J6_bitCount_0f7a4 1 := ⟨⟨(mt_4 (List.mem_of_getElem? (i := 87) (by decide +kernel))), (mt_1 (List.mem_of_getElem? (i := 22) (by decide +kernel))), by decide +kernel, ⟨by decide +kernel, by decide +kernel, by decide +kernel⟩, by decide⟩, (mt_4 (List.mem_of_getElem? (i := 86) (by decide +kernel)))⟩
theorem mo_X0_at : MOkV M_X0_at 1 0 := ⟨⟨(mt_3 (List.mem_of_getElem? (i := 213) (by decide +kernel))), (mt_1 (List.mem_of_getElem? (i := 9) (by decide +kernel))), by decide +kernel, ⟨by decide +kernel, by decide +kernel, by decide +kernel⟩, by decide⟩, (mt_3 (List.mem_of_getElem? (i := 211) (by decide +kernel))), in_g (mt_3 (List.mem_of_getElem? (i := 212) (by decide +kernel))) rfl, _, rfl, rfl⟩
theorem mo_X0_bends : MOkV M_X0_bends 0 0 := ⟨⟨(mt_3 (List.mem_of_getElem? (i := 209) (by decide +kernel))), (mt_1 (List.mem_of_getElem? (i := 9) (by decide +kernel))), by decide +kernel, ⟨by decide +kernel, by decide +kernel, by decide +kernel⟩, by decide⟩, (mt_3 (List.mem_of_getElem? (i := 207) (by decide +kernel))), in_g (mt_3 (List.mem_of_getElem? (i := 208) (by decide +kernel))) rfl, _, rfl, rfl⟩
theorem mo_X0_fill : MOkV M_X0_fill 2 0 := ⟨⟨(mt_4 (List.mem_of_getElem? (i := 17) (by decide +kernel))), (mt_1 (List.mem_of_getElem? (i := 9) (by decide +kernel))), by decide +kernel, ⟨by decide +kernel, by decide +kernel, by decide +kernel⟩, by decide⟩, (mt_4 (List.mem_of_getElem? (i := 15) (by decide +kernel))), in_g (mt_4 (List.mem_of_getElem? (i := 16) (by decide +kernel))) rfl, _, rfl, rfl⟩
theorem mo_X0_init : MOk M_X0_init 0 := ⟨(mt_1 (List.mem_of_getElem? (i := 163) (by decide +kernel))), (mt_1 (List.mem_of_getElem? (i := 9) (by decide +kernel))), by decide +kernel, ⟨by decide +kernel, by decide +kernel, by decide +kernel⟩, by decide⟩
theorem mo_X10_above : MOkV M_X10_above 2 10 := ⟨⟨(mt_4 (List.mem_of_getElem? (i := 42) (by decide +kernel))), (mt_1 (List.mem_of_getElem? (i := 1) (by decide +kernel))), by decide +kernel, ⟨by decide +kernel, by decide +kernel, by decide +kernel⟩, by decide⟩, (mt_4 (List.mem_of_getElem? (i := 40) (by decide +kernel))), in_g (mt_4 (List.mem_of_getElem? (i := 41) (by decide +kernel))) rfl, _, rfl, rfl⟩
theorem mo_X10_isCurve : MOkV M_X10_isCurve 1 10 := ⟨⟨(mt_3 (List.mem_of_getElem? (i := 205) (by decide +kernel))), (mt_1 (List.mem_of_getElem? (i := 1) (by decide +kernel))), by decide +kernel, ⟨by decide +kernel, by decide +kernel, by decide +kernel⟩, by decide⟩, (mt_3 (List.mem_of_getElem? (i := 204) (by decide +kernel))), in_p (q := (yX10_isCurve, 17)) (List.mem_of_getElem? (i := 20) (by decide +kernel)), _, rfl, rfl⟩
theorem mo_X10_appendBytes : MOkV M_X10_appendBytes 1 10 := ⟨⟨(mt_3 (List.mem_of_getElem? (i := 7) (by decide +kernel))), (mt_1 (List.mem_of_getElem? (i := 1) (by decide +kernel))), by decide +kernel, ⟨by decide +kernel, by decide +kernel, by decide +kernel⟩, by decide⟩, (mt_3 (List.mem_of_getElem? (i := 6) (by decide +kernel))), in_p (q := (yX10_appendBytes, 17)) (List.mem_of_getElem? (i := 0) (by decide +kernel)), _, rfl, rfl⟩
theorem mo_X8_append : MOkV M_X8_append 1 8 := ⟨⟨(mt_3 (List.mem_of_getElem? (i := 12) (by decide +kernel))), (mt_1 (List.mem_of_getElem? (i := 2) (by decide +kernel))), by decide +kernel, ⟨by decide +kernel, by decide +kernel, by decide +kernel⟩, by decide⟩, (mt_3 (List.mem_of_getElem? (i := 10) (by decide +kernel))), in_g (mt_3 (List.mem_of_getElem? (i := 11) (by decide +kernel))) rfl, _, rfl, rfl⟩
theorem mo_X10_arrives : MOkV M_X10_arrives 3 10 := ⟨⟨(mt_4 (List.mem_of_getElem? (i := 109) (by decide +kernel))), (mt_1 (List.mem_of_getElem? (i := 1) (by decide +kernel))), by decide +kernel, ⟨by decide +kernel, by decide +kernel, by decide +kernel⟩, by decide⟩, (mt_4 (List.mem_of_getElem? (i := 107) (by decide +kernel))), in_g (mt_4 (List.mem_of_getElem? (i := 108) (by decide +kernel))) rfl, _, rfl, rfl⟩
theorem mo_X10_isHop : MOkV M_X10_isHop 2 10 := ⟨⟨(mt_4 (List.mem_of_getElem? (i := 1) (by decide +kernel))), (mt_1 (List.mem_of_getElem? (i := 1) (by decide +kernel))), by decide +kernel, ⟨by decide +kernel, by decide +kernel, by decide +kernel⟩, by decide⟩, (mt_4 (List.mem_of_getElem? (i := 0) (by decide +kernel))), in_p (q := (yX10_isHop, 17)) (List.mem_of_getElem? (i := 23) (by decide +kernel)), _, rfl, rfl⟩
theorem mo_X10_isWithin : MOkS M_X10_isWithin 2 := ⟨⟨(mt_4 (List.mem_of_getElem? (i := 8) (by decide +kernel))), (mt_1 (List.mem_of_getElem? (i := 1) (by decide +kernel))), by decide +kernel, ⟨by decide +kernel, by decide +kernel, by decide +kernel⟩, by decide⟩, (mt_4 (List.mem_of_getElem? (i := 7) (by decide +kernel)))⟩
theorem mo_X10_diverges : MOkV M_X10_diverges 0 10 := ⟨⟨(mt_4 (List.mem_of_getElem? (i := 105) (by decide +kernel))), (mt_1 (List.mem_of_getElem? (i := 1) (by decide +kernel))), by decide +kernel, ⟨by decide +kernel, by decide +kernel, by decide +kernel⟩, by decide⟩, (mt_4 (List.mem_of_getElem? (i := 104) (by decide +kernel))), in_p (q := (yX10_diverges, 17)) (List.mem_of_getElem? (i := 30) (by decide +kernel)), _, rfl, rfl⟩
theorem mo_X6_arrivingAt : MOkV M_X6_arrivingAt 3 6 := ⟨⟨(mt_4 (List.mem_of_getElem? (i := 113) (by decide +kernel))), (mt_1 (List.mem_of_getElem? (i := 15) (by decide +kernel))), by decide +kernel, ⟨by decide +kernel, by decide +kernel, by decide +kernel⟩, by decide⟩, (mt_4 (List.mem_of_getElem? (i := 111) (by decide +kernel))), in_g (mt_4 (List.mem_of_getElem? (i := 112) (by decide +kernel))) rfl, _, rfl, rfl⟩
theorem mo_X10_beginAnew : MOkV M_X10_beginAnew 0 10 := ⟨⟨(mt_3 (List.mem_of_getElem? (i := 166) (by decide +kernel))), (mt_1 (List.mem_of_getElem? (i := 1) (by decide +kernel))), by decide +kernel, ⟨by decide +kernel, by decide +kernel, by decide +kernel⟩, by decide⟩, (mt_3 (List.mem_of_getElem? (i := 165) (by decide +kernel))), in_p (q := (yX10_beginAnew, 17)) (List.mem_of_getElem? (i := 17) (by decide +kernel)), _, rfl, rfl⟩
theorem mo_X9_reset : MOkV M_X9_reset 0 9 := ⟨⟨(mt_3 (List.mem_of_getElem? (i := 170) (by decide +kernel))), (mt_1 (List.mem_of_getElem? (i := 13) (by decide +kernel))), by decide +kernel, ⟨by decide +kernel, by decide +kernel, by decide +kernel⟩, by decide⟩, (mt_3 (List.mem_of_getElem? (i := 168) (by decide +kernel))), in_g (mt_3 (List.mem_of_getElem? (i := 169) (by decide +kernel))) rfl, _, rfl, rfl⟩
theorem mo_X6_forget : MOkV M_X6_forget 0 6 := ⟨⟨(mt_3 (List.mem_of_getElem? (i := 174) (by decide +kernel))), (mt_1 (List.mem_of_getElem? (i := 15) (by decide +kernel))), by decide +kernel, ⟨by decide +kernel, by decide +kernel, by decide +kernel⟩, by decide⟩, (mt_3 (List.mem_of_getElem? (i := 172) (by decide +kernel))), in_g (mt_3 (List.mem_of_getElem? (i := 173) (by decide +kernel))) rfl, _, rfl, rfl⟩
theorem mo_X10_behind : MOkV M_X10_behind 2 10 := ⟨⟨(mt_5 (List.mem_of_getElem? (i := 177) (by decide +kernel))), (mt_1 (List.mem_of_getElem? (i := 1) (by decide +kernel))), by decide +kernel, ⟨by decide +kernel, by decide +kernel, by decide +kernel⟩, by decide⟩, (mt_5 (List.mem_of_getElem? (i := 175) (by decide +kernel))), in_g (mt_5 (List.mem_of_getElem? (i := 176) (by decide +kernel))) rfl, _, rfl, rfl⟩
theorem mo_X10_comes : MOkV M_X10_comes 2 10 := ⟨⟨(mt_4 (List.mem_of_getElem? (i := 154) (by decide +kernel))), (mt_1 (List.mem_of_getElem? (i := 1) (by decide +kernel))), by decide +kernel, ⟨by decide +kernel, by decide +kernel, by decide +kernel⟩, by decide⟩, (mt_4 (List.mem_of_getElem? (i := 152) (by decide +kernel))), in_g (mt_4 (List.mem_of_getElem? (i := 153) (by decide +kernel))) rfl, _, rfl, rfl⟩
theorem mo_X10_isNode : MOkV M_X10_isNode 1 10 := ⟨⟨(mt_3 (List.mem_of_getElem? (i := 221) (by decide +kernel))), (mt_1 (List.mem_of_getElem? (i := 1) (by decide +kernel))), by decide +kernel, ⟨by decide +kernel, by decide +kernel, by decide +kernel⟩, by decide⟩, (mt_3 (List.mem_of_getElem? (i := 220) (by decide +kernel))), in_p (q := (yX10_isNode, 17)) (List.mem_of_getElem? (i := 21) (by decide +kernel)), _, rfl, rfl⟩
theorem mo_X6_fillComing : MOkV M_X6_fillComing 2 6 := ⟨⟨(mt_4 (List.mem_of_getElem? (i := 75) (by decide +kernel))), (mt_1 (List.mem_of_getElem? (i := 15) (by decide +kernel))), by decide +kernel, ⟨by decide +kernel, by decide +kernel, by decide +kernel⟩, by decide⟩, (mt_4 (List.mem_of_getElem? (i := 73) (by decide +kernel))), in_g (mt_4 (List.mem_of_getElem? (i := 74) (by decide +kernel))) rfl, _, rfl, rfl⟩
theorem mo_X10_count : MOkV M_X10_count 1 10 := ⟨⟨(mt_5 (List.mem_of_getElem? (i := 101) (by decide +kernel))), (mt_1 (List.mem_of_getElem? (i := 1) (by decide +kernel))), by decide +kernel, ⟨by decide +kernel, by decide +kernel, by decide +kernel⟩, by decide⟩, (mt_5 (List.mem_of_getElem? (i := 99) (by decide +kernel))), in_g (mt_5 (List.mem_of_getElem? (i := 100) (by decide +kernel))) rfl, _, rfl, rfl⟩
theorem mo_X9_sum : MOkS M_X9_sum 1 := ⟨⟨(mt_4 (List.mem_of_getElem? (i := 182) (by decide +kernel))), (mt_1 (List.mem_of_getElem? (i := 13) (by decide +kernel))), by decide +kernel, ⟨by decide +kernel, by decide +kernel, by decide +kernel⟩, by decide⟩, (mt_4 (List.mem_of_getElem? (i := 181) (by decide +kernel)))⟩
theorem mo_X10_curve : MOkV M_X10_curve 2 10 := ⟨⟨(mt_3 (List.mem_of_getElem? (i := 201) (by decide +kernel))), (mt_1 (List.mem_of_getElem? (i := 1) (by decide +kernel))), by decide +kernel, ⟨by decide +kernel, by decide +kernel, by decide +kernel⟩, by decide⟩, (mt_3 (List.mem_of_getElem? (i := 199) (by decide +kernel))), in_g (mt_3 (List.mem_of_getElem? (i := 200) (by decide +kernel))) rfl, _, rfl, rfl⟩
theorem mo_X10_delay : MOkV M_X10_delay 2 10 := ⟨⟨(mt_4 (List.mem_of_getElem? (i := 101) (by decide +kernel))), (mt_1 (List.mem_of_getElem? (i := 1) (by decide +kernel))), by decide +kernel, ⟨by decide +kernel, by decide +kernel, by decide +kernel⟩, by decide⟩, (mt_4 (List.mem_of_getElem? (i := 99) (by decide +kernel))), in_g (mt_4 (List.mem_of_getElem? (i := 100) (by decide +kernel))) rfl, _, rfl, rfl⟩
theorem mo_X6_roundsAsTold : MOkV M_X6_roundsAsTold 1 6 := ⟨⟨(mt_4 (List.mem_of_getElem? (i := 50) (by decide +kernel))), (mt_1 (List.mem_of_getElem? (i := 15) (by decide +kernel))), by decide +kernel, ⟨by decide +kernel, by decide +kernel, by decide +kernel⟩, by decide⟩, (mt_4 (List.mem_of_getElem? (i := 48) (by decide +kernel))), in_g (mt_4 (List.mem_of_getElem? (i := 49) (by decide +kernel))) rfl, _, rfl, rfl⟩
theorem mo_X10_feed : MOkV M_X10_feed 3 10 := ⟨⟨(mt_3 (List.mem_of_getElem? (i := 3) (by decide +kernel))), (mt_1 (List.mem_of_getElem? (i := 1) (by decide +kernel))), by decide +kernel, ⟨by decide +kernel, by decide +kernel, by decide +kernel⟩, by decide⟩, (mt_3 (List.mem_of_getElem? (i := 1) (by decide +kernel))), in_g (mt_3 (List.mem_of_getElem? (i := 2) (by decide +kernel))) rfl, _, rfl, rfl⟩
theorem mo_X10_fits : MOkV M_X10_fits 1 10 := ⟨⟨(mt_5 (List.mem_of_getElem? (i := 13) (by decide +kernel))), (mt_1 (List.mem_of_getElem? (i := 1) (by decide +kernel))), by decide +kernel, ⟨by decide +kernel, by decide +kernel, by decide +kernel⟩, by decide⟩, (mt_5 (List.mem_of_getElem? (i := 11) (by decide +kernel))), in_g (mt_5 (List.mem_of_getElem? (i := 12) (by decide +kernel))) rfl, _, rfl, rfl⟩
theorem mo_X10_isFlow : MOkV M_X10_isFlow 1 10 := ⟨⟨(mt_3 (List.mem_of_getElem? (i := 229) (by decide +kernel))), (mt_1 (List.mem_of_getElem? (i := 1) (by decide +kernel))), by decide +kernel, ⟨by decide +kernel, by decide +kernel, by decide +kernel⟩, by decide⟩, (mt_3 (List.mem_of_getElem? (i := 228) (by decide +kernel))), in_p (q := (yX10_isFlow, 17)) (List.mem_of_getElem? (i := 22) (by decide +kernel)), _, rfl, rfl⟩
theorem mo_X9_keepsTo : MOkV M_X9_keepsTo 2 9 := ⟨⟨(mt_5 (List.mem_of_getElem? (i := 17) (by decide +kernel))), (mt_1 (List.mem_of_getElem? (i := 13) (by decide +kernel))), by decide +kernel, ⟨by decide +kernel, by decide +kernel, by decide +kernel⟩, by decide⟩, (mt_5 (List.mem_of_getElem? (i := 15) (by decide +kernel))), in_g (mt_5 (List.mem_of_getElem? (i := 16) (by decide +kernel))) rfl, _, rfl, rfl⟩
theorem mo_X10_flow : MOkV M_X10_flow 2 10 := ⟨⟨(mt_3 (List.mem_of_getElem? (i := 225) (by decide +kernel))), (mt_1 (List.mem_of_getElem? (i := 1) (by decide +kernel))), by decide +kernel, ⟨by decide +kernel, by decide +kernel, by decide +kernel⟩, by decide⟩, (mt_3 (List.mem_of_getElem? (i := 223) (by decide +kernel))), in_g (mt_3 (List.mem_of_getElem? (i := 224) (by decide +kernel))) rfl, _, rfl, rfl⟩
theorem mo_X9_unitsOf : MOkV M_X9_unitsOf 1 9 := ⟨⟨(mt_3 (List.mem_of_getElem? (i := 233) (by decide +kernel))), (mt_1 (List.mem_of_getElem? (i := 13) (by decide +kernel))), by decide +kernel, ⟨by decide +kernel, by decide +kernel, by decide +kernel⟩, by decide⟩, (mt_3 (List.mem_of_getElem? (i := 231) (by decide +kernel))), in_g (mt_3 (List.mem_of_getElem? (i := 232) (by decide +kernel))) rfl, _, rfl, rfl⟩
theorem mo_X10_fold : MOkV M_X10_fold 3 10 := ⟨⟨(mt_4 (List.mem_of_getElem? (i := 13) (by decide +kernel))), (mt_1 (List.mem_of_getElem? (i := 1) (by decide +kernel))), by decide +kernel, ⟨by decide +kernel, by decide +kernel, by decide +kernel⟩, by decide⟩, (mt_4 (List.mem_of_getElem? (i := 11) (by decide +kernel))), in_g (mt_4 (List.mem_of_getElem? (i := 12) (by decide +kernel))) rfl, _, rfl, rfl⟩
theorem mo_X10_foldedAt : MOkS M_X10_foldedAt 3 := ⟨⟨(mt_4 (List.mem_of_getElem? (i := 20) (by decide +kernel))), (mt_1 (List.mem_of_getElem? (i := 1) (by decide +kernel))), by decide +kernel, ⟨by decide +kernel, by decide +kernel, by decide +kernel⟩, by decide⟩, (mt_4 (List.mem_of_getElem? (i := 19) (by decide +kernel)))⟩
theorem mo_X10_foldOn : MOkV M_X10_foldOn 3 10 := ⟨⟨(mt_4 (List.mem_of_getElem? (i := 138) (by decide +kernel))), (mt_1 (List.mem_of_getElem? (i := 1) (by decide +kernel))), by decide +kernel, ⟨by decide +kernel, by decide +kernel, by decide +kernel⟩, by decide⟩, (mt_4 (List.mem_of_getElem? (i := 137) (by decide +kernel))), in_p (q := (yX10_foldOn, 17)) (List.mem_of_getElem? (i := 32) (by decide +kernel)), _, rfl, rfl⟩
theorem mo_X6_fillLeft : MOkV M_X6_fillLeft 3 6 := ⟨⟨(mt_4 (List.mem_of_getElem? (i := 84) (by decide +kernel))), (mt_1 (List.mem_of_getElem? (i := 15) (by decide +kernel))), by decide +kernel, ⟨by decide +kernel, by decide +kernel, by decide +kernel⟩, by decide⟩, (mt_4 (List.mem_of_getElem? (i := 82) (by decide +kernel))), in_g (mt_4 (List.mem_of_getElem? (i := 83) (by decide +kernel))) rfl, _, rfl, rfl⟩
theorem mo_X10_full : MOkV M_X10_full 1 10 := ⟨⟨(mt_4 (List.mem_of_getElem? (i := 145) (by decide +kernel))), (mt_1 (List.mem_of_getElem? (i := 1) (by decide +kernel))), by decide +kernel, ⟨by decide +kernel, by decide +kernel, by decide +kernel⟩, by decide⟩, (mt_4 (List.mem_of_getElem? (i := 143) (by decide +kernel))), in_g (mt_4 (List.mem_of_getElem? (i := 144) (by decide +kernel))) rfl, _, rfl, rfl⟩
theorem mo_X10_mostAbove : MOkS M_X10_mostAbove 2 := ⟨⟨(mt_4 (List.mem_of_getElem? (i := 149) (by decide +kernel))), (mt_1 (List.mem_of_getElem? (i := 1) (by decide +kernel))), by decide +kernel, ⟨by decide +kernel, by decide +kernel, by decide +kernel⟩, by decide⟩, (mt_4 (List.mem_of_getElem? (i := 148) (by decide +kernel)))⟩
theorem mo_X10_holds : MOkV M_X10_holds 1 10 := ⟨⟨(mt_5 (List.mem_of_getElem? (i := 21) (by decide +kernel))), (mt_1 (List.mem_of_getElem? (i := 1) (by decide +kernel))), by decide +kernel, ⟨by decide +kernel, by decide +kernel, by decide +kernel⟩, by decide⟩, (mt_5 (List.mem_of_getElem? (i := 19) (by decide +kernel))), in_g (mt_5 (List.mem_of_getElem? (i := 20) (by decide +kernel))) rfl, _, rfl, rfl⟩
theorem mo_X6_totalOf : MOkV M_X6_totalOf 1 6 := ⟨⟨(mt_4 (List.mem_of_getElem? (i := 126) (by decide +kernel))), (mt_1 (List.mem_of_getElem? (i := 15) (by decide +kernel))), by decide +kernel, ⟨by decide +kernel, by decide +kernel, by decide +kernel⟩, by decide⟩, (mt_4 (List.mem_of_getElem? (i := 124) (by decide +kernel))), in_g (mt_4 (List.mem_of_getElem? (i := 125) (by decide +kernel))) rfl, _, rfl, rfl⟩
theorem mo_X10_init : MOk M_X10_init 0 := ⟨(mt_1 (List.mem_of_getElem? (i := 28) (by decide +kernel))), (mt_1 (List.mem_of_getElem? (i := 1) (by decide +kernel))), by decide +kernel, ⟨by decide +kernel, by decide +kernel, by decide +kernel⟩, by decide⟩
theorem mo_X10_judged : MOkV M_X10_judged 1 10 := ⟨⟨(mt_4 (List.mem_of_getElem? (i := 237) (by decide +kernel))), (mt_1 (List.mem_of_getElem? (i := 1) (by decide +kernel))), by decide +kernel, ⟨by decide +kernel, by decide +kernel, by decide +kernel⟩, by decide⟩, (mt_4 (List.mem_of_getElem? (i := 235) (by decide +kernel))), in_g (mt_4 (List.mem_of_getElem? (i := 236) (by decide +kernel))) rfl, _, rfl, rfl⟩
theorem mo_X9_play : MOkV M_X9_play 2 9 := ⟨⟨(mt_5 (List.mem_of_getElem? (i := 1) (by decide +kernel))), (mt_1 (List.mem_of_getElem? (i := 13) (by decide +kernel))), by decide +kernel, ⟨by decide +kernel, by decide +kernel, by decide +kernel⟩, by decide⟩, (mt_4 (List.mem_of_getElem? (i := 239) (by decide +kernel))), in_g (mt_5 (List.mem_of_getElem? (i := 0) (by decide +kernel))) rfl, _, rfl, rfl⟩
theorem mo_X9_latestOfAll : MOkV M_X9_latestOfAll 0 9 := ⟨⟨(mt_5 (List.mem_of_getElem? (i := 9) (by decide +kernel))), (mt_1 (List.mem_of_getElem? (i := 13) (by decide +kernel))), by decide +kernel, ⟨by decide +kernel, by decide +kernel, by decide +kernel⟩, by decide⟩, (mt_5 (List.mem_of_getElem? (i := 7) (by decide +kernel))), in_g (mt_5 (List.mem_of_getElem? (i := 8) (by decide +kernel))) rfl, _, rfl, rfl⟩
theorem mo_X10_late : MOkV M_X10_late 2 10 := ⟨⟨(mt_4 (List.mem_of_getElem? (i := 35) (by decide +kernel))), (mt_1 (List.mem_of_getElem? (i := 1) (by decide +kernel))), by decide +kernel, ⟨by decide +kernel, by decide +kernel, by decide +kernel⟩, by decide⟩, (mt_4 (List.mem_of_getElem? (i := 33) (by decide +kernel))), in_g (mt_4 (List.mem_of_getElem? (i := 34) (by decide +kernel))) rfl, _, rfl, rfl⟩
theorem mo_X10_lateness : MOkS M_X10_lateness 2 := ⟨⟨(mt_4 (List.mem_of_getElem? (i := 38) (by decide +kernel))), (mt_1 (List.mem_of_getElem? (i := 1) (by decide +kernel))), by decide +kernel, ⟨by decide +kernel, by decide +kernel, by decide +kernel⟩, by decide⟩, (mt_4 (List.mem_of_getElem? (i := 37) (by decide +kernel)))⟩
theorem mo_X10_latest : MOkV M_X10_latest 1 10 := ⟨⟨(mt_5 (List.mem_of_getElem? (i := 33) (by decide +kernel))), (mt_1 (List.mem_of_getElem? (i := 1) (by decide +kernel))), by decide +kernel, ⟨by decide +kernel, by decide +kernel, by decide +kernel⟩, by decide⟩, (mt_5 (List.mem_of_getElem? (i := 31) (by decide +kernel))), in_g (mt_5 (List.mem_of_getElem? (i := 32) (by decide +kernel))) rfl, _, rfl, rfl⟩
theorem mo_X10_left : MOkV M_X10_left 3 10 := ⟨⟨(mt_4 (List.mem_of_getElem? (i := 117) (by decide +kernel))), (mt_1 (List.mem_of_getElem? (i := 1) (by decide +kernel))), by decide +kernel, ⟨by decide +kernel, by decide +kernel, by decide +kernel⟩, by decide⟩, (mt_4 (List.mem_of_getElem? (i := 115) (by decide +kernel))), in_g (mt_4 (List.mem_of_getElem? (i := 116) (by decide +kernel))) rfl, _, rfl, rfl⟩
theorem mo_X10_loads : MOkV M_X10_loads 3 10 := ⟨⟨(mt_5 (List.mem_of_getElem? (i := 72) (by decide +kernel))), (mt_1 (List.mem_of_getElem? (i := 1) (by decide +kernel))), by decide +kernel, ⟨by decide +kernel, by decide +kernel, by decide +kernel⟩, by decide⟩, (mt_5 (List.mem_of_getElem? (i := 70) (by decide +kernel))), in_g (mt_5 (List.mem_of_getElem? (i := 71) (by decide +kernel))) rfl, _, rfl, rfl⟩
theorem mo_X9_copy : MOkV M_X9_copy 1 9 := ⟨⟨(mt_5 (List.mem_of_getElem? (i := 76) (by decide +kernel))), (mt_1 (List.mem_of_getElem? (i := 13) (by decide +kernel))), by decide +kernel, ⟨by decide +kernel, by decide +kernel, by decide +kernel⟩, by decide⟩, (mt_5 (List.mem_of_getElem? (i := 74) (by decide +kernel))), in_g (mt_5 (List.mem_of_getElem? (i := 75) (by decide +kernel))) rfl, _, rfl, rfl⟩
theorem mo_X9_playDraws : MOkV M_X9_playDraws 3 9 := ⟨⟨(mt_5 (List.mem_of_getElem? (i := 81) (by decide +kernel))), (mt_1 (List.mem_of_getElem? (i := 13) (by decide +kernel))), by decide +kernel, ⟨by decide +kernel, by decide +kernel, by decide +kernel⟩, by decide⟩, (mt_5 (List.mem_of_getElem? (i := 79) (by decide +kernel))), in_g (mt_5 (List.mem_of_getElem? (i := 80) (by decide +kernel))) rfl, _, rfl, rfl⟩
theorem mo_X10_look : MOkV M_X10_look 0 10 := ⟨⟨(mt_5 (List.mem_of_getElem? (i := 62) (by decide +kernel))), (mt_1 (List.mem_of_getElem? (i := 1) (by decide +kernel))), by decide +kernel, ⟨by decide +kernel, by decide +kernel, by decide +kernel⟩, by decide⟩, (mt_5 (List.mem_of_getElem? (i := 60) (by decide +kernel))), in_g (mt_5 (List.mem_of_getElem? (i := 61) (by decide +kernel))) rfl, _, rfl, rfl⟩
theorem mo_X10_who : MOkV M_X10_who 0 10 := ⟨⟨(mt_5 (List.mem_of_getElem? (i := 53) (by decide +kernel))), (mt_1 (List.mem_of_getElem? (i := 1) (by decide +kernel))), by decide +kernel, ⟨by decide +kernel, by decide +kernel, by decide +kernel⟩, by decide⟩, (mt_5 (List.mem_of_getElem? (i := 51) (by decide +kernel))), in_g (mt_5 (List.mem_of_getElem? (i := 52) (by decide +kernel))) rfl, _, rfl, rfl⟩
theorem mo_X10_mostAlike : MOkV M_X10_mostAlike 2 10 := ⟨⟨(mt_5 (List.mem_of_getElem? (i := 68) (by decide +kernel))), (mt_1 (List.mem_of_getElem? (i := 1) (by decide +kernel))), by decide +kernel, ⟨by decide +kernel, by decide +kernel, by decide +kernel⟩, by decide⟩, (mt_5 (List.mem_of_getElem? (i := 67) (by decide +kernel))), in_p (q := (yX10_mostAlike, 17)) (List.mem_of_getElem? (i := 41) (by decide +kernel)), _, rfl, rfl⟩
theorem mo_X10_mark : MOkV M_X10_mark 2 10 := ⟨⟨(mt_5 (List.mem_of_getElem? (i := 93) (by decide +kernel))), (mt_1 (List.mem_of_getElem? (i := 1) (by decide +kernel))), by decide +kernel, ⟨by decide +kernel, by decide +kernel, by decide +kernel⟩, by decide⟩, (mt_5 (List.mem_of_getElem? (i := 91) (by decide +kernel))), in_g (mt_5 (List.mem_of_getElem? (i := 92) (by decide +kernel))) rfl, _, rfl, rfl⟩
theorem mo_X7_copy : MOkV M_X7_copy 1 7 := ⟨⟨(mt_5 (List.mem_of_getElem? (i := 97) (by decide +kernel))), (mt_1 (List.mem_of_getElem? (i := 14) (by decide +kernel))), by decide +kernel, ⟨by decide +kernel, by decide +kernel, by decide +kernel⟩, by decide⟩, (mt_5 (List.mem_of_getElem? (i := 95) (by decide +kernel))), in_g (mt_5 (List.mem_of_getElem? (i := 96) (by decide +kernel))) rfl, _, rfl, rfl⟩
theorem mo_X10_net : MOkV M_X10_net 0 10 := ⟨⟨(mt_3 (List.mem_of_getElem? (i := 16) (by decide +kernel))), (mt_1 (List.mem_of_getElem? (i := 1) (by decide +kernel))), by decide +kernel, ⟨by decide +kernel, by decide +kernel, by decide +kernel⟩, by decide⟩, (mt_3 (List.mem_of_getElem? (i := 14) (by decide +kernel))), in_g (mt_3 (List.mem_of_getElem? (i := 15) (by decide +kernel))) rfl, _, rfl, rfl⟩
theorem mo_X4_read : MOkV M_X4_read 1 4 := ⟨⟨(mt_3 (List.mem_of_getElem? (i := 20) (by decide +kernel))), (mt_1 (List.mem_of_getElem? (i := 10) (by decide +kernel))), by decide +kernel, ⟨by decide +kernel, by decide +kernel, by decide +kernel⟩, by decide⟩, (mt_3 (List.mem_of_getElem? (i := 18) (by decide +kernel))), in_g (mt_3 (List.mem_of_getElem? (i := 19) (by decide +kernel))) rfl, _, rfl, rfl⟩
theorem mo_X8_empty : MOkV M_X8_empty 0 8 := ⟨⟨(mt_3 (List.mem_of_getElem? (i := 162) (by decide +kernel))), (mt_1 (List.mem_of_getElem? (i := 2) (by decide +kernel))), by decide +kernel, ⟨by decide +kernel, by decide +kernel, by decide +kernel⟩, by decide⟩, (mt_3 (List.mem_of_getElem? (i := 160) (by decide +kernel))), in_g (mt_3 (List.mem_of_getElem? (i := 161) (by decide +kernel))) rfl, _, rfl, rfl⟩
theorem mo_X10_node : MOkV M_X10_node 2 10 := ⟨⟨(mt_3 (List.mem_of_getElem? (i := 217) (by decide +kernel))), (mt_1 (List.mem_of_getElem? (i := 1) (by decide +kernel))), by decide +kernel, ⟨by decide +kernel, by decide +kernel, by decide +kernel⟩, by decide⟩, (mt_3 (List.mem_of_getElem? (i := 215) (by decide +kernel))), in_g (mt_3 (List.mem_of_getElem? (i := 216) (by decide +kernel))) rfl, _, rfl, rfl⟩
theorem mo_X10_oldest : MOkV M_X10_oldest 1 10 := ⟨⟨(mt_5 (List.mem_of_getElem? (i := 37) (by decide +kernel))), (mt_1 (List.mem_of_getElem? (i := 1) (by decide +kernel))), by decide +kernel, ⟨by decide +kernel, by decide +kernel, by decide +kernel⟩, by decide⟩, (mt_5 (List.mem_of_getElem? (i := 35) (by decide +kernel))), in_g (mt_5 (List.mem_of_getElem? (i := 36) (by decide +kernel))) rfl, _, rfl, rfl⟩
theorem mo_X9_oldestOf : MOkV M_X9_oldestOf 1 9 := ⟨⟨(mt_5 (List.mem_of_getElem? (i := 41) (by decide +kernel))), (mt_1 (List.mem_of_getElem? (i := 13) (by decide +kernel))), by decide +kernel, ⟨by decide +kernel, by decide +kernel, by decide +kernel⟩, by decide⟩, (mt_5 (List.mem_of_getElem? (i := 39) (by decide +kernel))), in_g (mt_5 (List.mem_of_getElem? (i := 40) (by decide +kernel))) rfl, _, rfl, rfl⟩
theorem mo_X10_once : MOkV M_X10_once 1 10 := ⟨⟨(mt_4 (List.mem_of_getElem? (i := 130) (by decide +kernel))), (mt_1 (List.mem_of_getElem? (i := 1) (by decide +kernel))), by decide +kernel, ⟨by decide +kernel, by decide +kernel, by decide +kernel⟩, by decide⟩, (mt_4 (List.mem_of_getElem? (i := 128) (by decide +kernel))), in_g (mt_4 (List.mem_of_getElem? (i := 129) (by decide +kernel))) rfl, _, rfl, rfl⟩
theorem mo_X10_paidOnce : MOkV M_X10_paidOnce 1 10 := ⟨⟨(mt_4 (List.mem_of_getElem? (i := 134) (by decide +kernel))), (mt_1 (List.mem_of_getElem? (i := 1) (by decide +kernel))), by decide +kernel, ⟨by decide +kernel, by decide +kernel, by decide +kernel⟩, by decide⟩, (mt_4 (List.mem_of_getElem? (i := 133) (by decide +kernel))), in_p (q := (yX10_paidOnce, 17)) (List.mem_of_getElem? (i := 31) (by decide +kernel)), _, rfl, rfl⟩
theorem mo_X10_put : MOkV M_X10_put 2 10 := ⟨⟨(mt_4 (List.mem_of_getElem? (i := 175) (by decide +kernel))), (mt_1 (List.mem_of_getElem? (i := 1) (by decide +kernel))), by decide +kernel, ⟨by decide +kernel, by decide +kernel, by decide +kernel⟩, by decide⟩, (mt_4 (List.mem_of_getElem? (i := 173) (by decide +kernel))), in_g (mt_4 (List.mem_of_getElem? (i := 174) (by decide +kernel))) rfl, _, rfl, rfl⟩
theorem mo_X9_admit : MOkV M_X9_admit 3 9 := ⟨⟨(mt_4 (List.mem_of_getElem? (i := 179) (by decide +kernel))), (mt_1 (List.mem_of_getElem? (i := 13) (by decide +kernel))), by decide +kernel, ⟨by decide +kernel, by decide +kernel, by decide +kernel⟩, by decide⟩, (mt_4 (List.mem_of_getElem? (i := 177) (by decide +kernel))), in_g (mt_4 (List.mem_of_getElem? (i := 178) (by decide +kernel))) rfl, _, rfl, rfl⟩
theorem mo_X10_rounds : MOkV M_X10_rounds 0 10 := ⟨⟨(mt_4 (List.mem_of_getElem? (i := 46) (by decide +kernel))), (mt_1 (List.mem_of_getElem? (i := 1) (by decide +kernel))), by decide +kernel, ⟨by decide +kernel, by decide +kernel, by decide +kernel⟩, by decide⟩, (mt_4 (List.mem_of_getElem? (i := 44) (by decide +kernel))), in_g (mt_4 (List.mem_of_getElem? (i := 45) (by decide +kernel))) rfl, _, rfl, rfl⟩
theorem mo_X10_run : MOkV M_X10_run 0 10 := ⟨⟨(mt_3 (List.mem_of_getElem? (i := 178) (by decide +kernel))), (mt_1 (List.mem_of_getElem? (i := 1) (by decide +kernel))), by decide +kernel, ⟨by decide +kernel, by decide +kernel, by decide +kernel⟩, by decide⟩, (mt_3 (List.mem_of_getElem? (i := 176) (by decide +kernel))), in_g (mt_3 (List.mem_of_getElem? (i := 177) (by decide +kernel))) rfl, _, rfl, rfl⟩
theorem mo_X5_read : MOkV M_X5_read 2 5 := ⟨⟨(mt_3 (List.mem_of_getElem? (i := 182) (by decide +kernel))), (mt_1 (List.mem_of_getElem? (i := 12) (by decide +kernel))), by decide +kernel, ⟨by decide +kernel, by decide +kernel, by decide +kernel⟩, by decide⟩, (mt_3 (List.mem_of_getElem? (i := 180) (by decide +kernel))), in_g (mt_3 (List.mem_of_getElem? (i := 181) (by decide +kernel))) rfl, _, rfl, rfl⟩
theorem mo_X10_saves : MOkV M_X10_saves 1 10 := ⟨⟨(mt_5 (List.mem_of_getElem? (i := 184) (by decide +kernel))), (mt_1 (List.mem_of_getElem? (i := 1) (by decide +kernel))), by decide +kernel, ⟨by decide +kernel, by decide +kernel, by decide +kernel⟩, by decide⟩, (mt_5 (List.mem_of_getElem? (i := 182) (by decide +kernel))), in_g (mt_5 (List.mem_of_getElem? (i := 183) (by decide +kernel))) rfl, _, rfl, rfl⟩
theorem mo_X10_see : MOkV M_X10_see 3 10 := ⟨⟨(mt_5 (List.mem_of_getElem? (i := 45) (by decide +kernel))), (mt_1 (List.mem_of_getElem? (i := 1) (by decide +kernel))), by decide +kernel, ⟨by decide +kernel, by decide +kernel, by decide +kernel⟩, by decide⟩, (mt_5 (List.mem_of_getElem? (i := 43) (by decide +kernel))), in_g (mt_5 (List.mem_of_getElem? (i := 44) (by decide +kernel))) rfl, _, rfl, rfl⟩
theorem mo_X7_add : MOkV M_X7_add 3 7 := ⟨⟨(mt_5 (List.mem_of_getElem? (i := 49) (by decide +kernel))), (mt_1 (List.mem_of_getElem? (i := 14) (by decide +kernel))), by decide +kernel, ⟨by decide +kernel, by decide +kernel, by decide +kernel⟩, by decide⟩, (mt_5 (List.mem_of_getElem? (i := 47) (by decide +kernel))), in_g (mt_5 (List.mem_of_getElem? (i := 48) (by decide +kernel))) rfl, _, rfl, rfl⟩
theorem mo_X10_serves : MOkV M_X10_serves 1 10 := ⟨⟨(mt_5 (List.mem_of_getElem? (i := 25) (by decide +kernel))), (mt_1 (List.mem_of_getElem? (i := 1) (by decide +kernel))), by decide +kernel, ⟨by decide +kernel, by decide +kernel, by decide +kernel⟩, by decide⟩, (mt_5 (List.mem_of_getElem? (i := 23) (by decide +kernel))), in_g (mt_5 (List.mem_of_getElem? (i := 24) (by decide +kernel))) rfl, _, rfl, rfl⟩
theorem mo_X9_servedFirst : MOkV M_X9_servedFirst 2 9 := ⟨⟨(mt_5 (List.mem_of_getElem? (i := 29) (by decide +kernel))), (mt_1 (List.mem_of_getElem? (i := 13) (by decide +kernel))), by decide +kernel, ⟨by decide +kernel, by decide +kernel, by decide +kernel⟩, by decide⟩, (mt_5 (List.mem_of_getElem? (i := 27) (by decide +kernel))), in_g (mt_5 (List.mem_of_getElem? (i := 28) (by decide +kernel))) rfl, _, rfl, rfl⟩
theorem mo_X10_star : MOkV M_X10_star 2 10 := ⟨⟨(mt_4 (List.mem_of_getElem? (i := 27) (by decide +kernel))), (mt_1 (List.mem_of_getElem? (i := 1) (by decide +kernel))), by decide +kernel, ⟨by decide +kernel, by decide +kernel, by decide +kernel⟩, by decide⟩, (mt_4 (List.mem_of_getElem? (i := 25) (by decide +kernel))), in_g (mt_4 (List.mem_of_getElem? (i := 26) (by decide +kernel))) rfl, _, rfl, rfl⟩
theorem mo_X10_sub : MOkV M_X10_sub 1 10 := ⟨⟨(mt_4 (List.mem_of_getElem? (i := 31) (by decide +kernel))), (mt_1 (List.mem_of_getElem? (i := 1) (by decide +kernel))), by decide +kernel, ⟨by decide +kernel, by decide +kernel, by decide +kernel⟩, by decide⟩, (mt_4 (List.mem_of_getElem? (i := 29) (by decide +kernel))), in_g (mt_4 (List.mem_of_getElem? (i := 30) (by decide +kernel))) rfl, _, rfl, rfl⟩
theorem mo_X10_tick : MOkV M_X10_tick 0 10 := ⟨⟨(mt_4 (List.mem_of_getElem? (i := 201) (by decide +kernel))), (mt_1 (List.mem_of_getElem? (i := 1) (by decide +kernel))), by decide +kernel, ⟨by decide +kernel, by decide +kernel, by decide +kernel⟩, by decide⟩, (mt_4 (List.mem_of_getElem? (i := 199) (by decide +kernel))), in_g (mt_4 (List.mem_of_getElem? (i := 200) (by decide +kernel))) rfl, _, rfl, rfl⟩
theorem mo_X9_passOn : MOkV M_X9_passOn 1 9 := ⟨⟨(mt_4 (List.mem_of_getElem? (i := 205) (by decide +kernel))), (mt_1 (List.mem_of_getElem? (i := 13) (by decide +kernel))), by decide +kernel, ⟨by decide +kernel, by decide +kernel, by decide +kernel⟩, by decide⟩, (mt_4 (List.mem_of_getElem? (i := 203) (by decide +kernel))), in_g (mt_4 (List.mem_of_getElem? (i := 204) (by decide +kernel))) rfl, _, rfl, rfl⟩
theorem mo_X10_total : MOkV M_X10_total 1 10 := ⟨⟨(mt_4 (List.mem_of_getElem? (i := 122) (by decide +kernel))), (mt_1 (List.mem_of_getElem? (i := 1) (by decide +kernel))), by decide +kernel, ⟨by decide +kernel, by decide +kernel, by decide +kernel⟩, by decide⟩, (mt_4 (List.mem_of_getElem? (i := 120) (by decide +kernel))), in_g (mt_4 (List.mem_of_getElem? (i := 121) (by decide +kernel))) rfl, _, rfl, rfl⟩
theorem mo_X10_triedTotal : MOkV M_X10_triedTotal 3 10 := ⟨⟨(mt_4 (List.mem_of_getElem? (i := 166) (by decide +kernel))), (mt_1 (List.mem_of_getElem? (i := 1) (by decide +kernel))), by decide +kernel, ⟨by decide +kernel, by decide +kernel, by decide +kernel⟩, by decide⟩, (mt_4 (List.mem_of_getElem? (i := 165) (by decide +kernel))), in_p (q := (yX10_triedTotal, 17)) (List.mem_of_getElem? (i := 33) (by decide +kernel)), _, rfl, rfl⟩
theorem mo_X6_settle : MOkV M_X6_settle 3 6 := ⟨⟨(mt_4 (List.mem_of_getElem? (i := 54) (by decide +kernel))), (mt_1 (List.mem_of_getElem? (i := 15) (by decide +kernel))), by decide +kernel, ⟨by decide +kernel, by decide +kernel, by decide +kernel⟩, by decide⟩, (mt_4 (List.mem_of_getElem? (i := 52) (by decide +kernel))), in_g (mt_4 (List.mem_of_getElem? (i := 53) (by decide +kernel))) rfl, _, rfl, rfl⟩
theorem mo_X10_tries : MOkV M_X10_tries 3 10 := ⟨⟨(mt_4 (List.mem_of_getElem? (i := 162) (by decide +kernel))), (mt_1 (List.mem_of_getElem? (i := 1) (by decide +kernel))), by decide +kernel, ⟨by decide +kernel, by decide +kernel, by decide +kernel⟩, by decide⟩, (mt_4 (List.mem_of_getElem? (i := 160) (by decide +kernel))), in_g (mt_4 (List.mem_of_getElem? (i := 161) (by decide +kernel))) rfl, _, rfl, rfl⟩
theorem mo_X10_tune : MOkV M_X10_tune 2 10 := ⟨⟨(mt_4 (List.mem_of_getElem? (i := 171) (by decide +kernel))), (mt_1 (List.mem_of_getElem? (i := 1) (by decide +kernel))), by decide +kernel, ⟨by decide +kernel, by decide +kernel, by decide +kernel⟩, by decide⟩, (mt_4 (List.mem_of_getElem? (i := 169) (by decide +kernel))), in_g (mt_4 (List.mem_of_getElem? (i := 170) (by decide +kernel))) rfl, _, rfl, rfl⟩
theorem mo_X10_unfold : MOkV M_X10_unfold 3 10 := ⟨⟨(mt_5 (List.mem_of_getElem? (i := 109) (by decide +kernel))), (mt_1 (List.mem_of_getElem? (i := 1) (by decide +kernel))), by decide +kernel, ⟨by decide +kernel, by decide +kernel, by decide +kernel⟩, by decide⟩, (mt_5 (List.mem_of_getElem? (i := 107) (by decide +kernel))), in_g (mt_5 (List.mem_of_getElem? (i := 108) (by decide +kernel))) rfl, _, rfl, rfl⟩
theorem mo_X10_value : MOkV M_X10_value 2 10 := ⟨⟨(mt_4 (List.mem_of_getElem? (i := 5) (by decide +kernel))), (mt_1 (List.mem_of_getElem? (i := 1) (by decide +kernel))), by decide +kernel, ⟨by decide +kernel, by decide +kernel, by decide +kernel⟩, by decide⟩, (mt_4 (List.mem_of_getElem? (i := 3) (by decide +kernel))), in_g (mt_4 (List.mem_of_getElem? (i := 4) (by decide +kernel))) rfl, _, rfl, rfl⟩
theorem mo_X10_way : MOkV M_X10_way 2 10 := ⟨⟨(mt_3 (List.mem_of_getElem? (i := 237) (by decide +kernel))), (mt_1 (List.mem_of_getElem? (i := 1) (by decide +kernel))), by decide +kernel, ⟨by decide +kernel, by decide +kernel, by decide +kernel⟩, by decide⟩, (mt_3 (List.mem_of_getElem? (i := 235) (by decide +kernel))), in_g (mt_3 (List.mem_of_getElem? (i := 236) (by decide +kernel))) rfl, _, rfl, rfl⟩
theorem mo_X7_suits : MOkV M_X7_suits 1 7 := ⟨⟨(mt_5 (List.mem_of_getElem? (i := 57) (by decide +kernel))), (mt_1 (List.mem_of_getElem? (i := 14) (by decide +kernel))), by decide +kernel, ⟨by decide +kernel, by decide +kernel, by decide +kernel⟩, by decide⟩, (mt_5 (List.mem_of_getElem? (i := 55) (by decide +kernel))), in_g (mt_5 (List.mem_of_getElem? (i := 56) (by decide +kernel))) rfl, _, rfl, rfl⟩
theorem mo_X10_worst : MOkV M_X10_worst 0 10 := ⟨⟨(mt_4 (List.mem_of_getElem? (i := 158) (by decide +kernel))), (mt_1 (List.mem_of_getElem? (i := 1) (by decide +kernel))), by decide +kernel, ⟨by decide +kernel, by decide +kernel, by decide +kernel⟩, by decide⟩, (mt_4 (List.mem_of_getElem? (i := 156) (by decide +kernel))), in_g (mt_4 (List.mem_of_getElem? (i := 157) (by decide +kernel))) rfl, _, rfl, rfl⟩
theorem mo_X11_above : MOkV M_X11_above 2 11 := ⟨⟨(mt_7 (List.mem_of_getElem? (i := 59) (by decide +kernel))), (mt_1 (List.mem_of_getElem? (i := 16) (by decide +kernel))), by decide +kernel, ⟨by decide +kernel, by decide +kernel, by decide +kernel⟩, by decide⟩, (mt_7 (List.mem_of_getElem? (i := 57) (by decide +kernel))), in_g (mt_7 (List.mem_of_getElem? (i := 58) (by decide +kernel))) rfl, _, rfl, rfl⟩
theorem mo_X11_isCurve : MOkV M_X11_isCurve 1 11 := ⟨⟨(mt_7 (List.mem_of_getElem? (i := 0) (by decide +kernel))), (mt_1 (List.mem_of_getElem? (i := 16) (by decide +kernel))), by decide +kernel, ⟨by decide +kernel, by decide +kernel, by decide +kernel⟩, by decide⟩, (mt_6 (List.mem_of_getElem? (i := 239) (by decide +kernel))), in_p (q := (yX11_isCurve, 33)) (List.mem_of_getElem? (i := 76) (by decide +kernel)), _, rfl, rfl⟩
theorem mo_X11_valueOf : MOkV M_X11_valueOf 2 11 := ⟨⟨(mt_7 (List.mem_of_getElem? (i := 15) (by decide +kernel))), (mt_1 (List.mem_of_getElem? (i := 16) (by decide +kernel))), by decide +kernel, ⟨by decide +kernel, by decide +kernel, by decide +kernel⟩, by decide⟩, (mt_7 (List.mem_of_getElem? (i := 14) (by decide +kernel))), in_p (q := (yX11_valueOf, 33)) (List.mem_of_getElem? (i := 79) (by decide +kernel)), _, rfl, rfl⟩
theorem mo_X11_aheadOf : MOkV M_X11_aheadOf 2 11 := ⟨⟨(mt_7 (List.mem_of_getElem? (i := 111) (by decide +kernel))), (mt_1 (List.mem_of_getElem? (i := 16) (by decide +kernel))), by decide +kernel, ⟨by decide +kernel, by decide +kernel, by decide +kernel⟩, by decide⟩, (mt_7 (List.mem_of_getElem? (i := 110) (by decide +kernel))), in_p (q := (yX11_aheadOf, 33)) (List.mem_of_getElem? (i := 94) (by decide +kernel)), _, rfl, rfl⟩
theorem mo_X11_arrives : MOkV M_X11_arrives 3 11 := ⟨⟨(mt_7 (List.mem_of_getElem? (i := 138) (by decide +kernel))), (mt_1 (List.mem_of_getElem? (i := 16) (by decide +kernel))), by decide +kernel, ⟨by decide +kernel, by decide +kernel, by decide +kernel⟩, by decide⟩, (mt_7 (List.mem_of_getElem? (i := 136) (by decide +kernel))), in_g (mt_7 (List.mem_of_getElem? (i := 137) (by decide +kernel))) rfl, _, rfl, rfl⟩
theorem mo_X11_isHop : MOkV M_X11_isHop 2 11 := ⟨⟨(mt_7 (List.mem_of_getElem? (i := 130) (by decide +kernel))), (mt_1 (List.mem_of_getElem? (i := 16) (by decide +kernel))), by decide +kernel, ⟨by decide +kernel, by decide +kernel, by decide +kernel⟩, by decide⟩, (mt_7 (List.mem_of_getElem? (i := 129) (by decide +kernel))), in_p (q := (yX11_isHop, 33)) (List.mem_of_getElem? (i := 97) (by decide +kernel)), _, rfl, rfl⟩
theorem mo_X11_within : MOkS M_X11_within 3 := ⟨⟨(mt_7 (List.mem_of_getElem? (i := 7) (by decide +kernel))), (mt_1 (List.mem_of_getElem? (i := 16) (by decide +kernel))), by decide +kernel, ⟨by decide +kernel, by decide +kernel, by decide +kernel⟩, by decide⟩, (mt_7 (List.mem_of_getElem? (i := 6) (by decide +kernel)))⟩
theorem mo_X11_settlesNow : MOkV M_X11_settlesNow 0 11 := ⟨⟨(mt_7 (List.mem_of_getElem? (i := 67) (by decide +kernel))), (mt_1 (List.mem_of_getElem? (i := 16) (by decide +kernel))), by decide +kernel, ⟨by decide +kernel, by decide +kernel, by decide +kernel⟩, by decide⟩, (mt_7 (List.mem_of_getElem? (i := 66) (by decide +kernel))), in_p (q := (yX11_settlesNow, 33)) (List.mem_of_getElem? (i := 83) (by decide +kernel)), _, rfl, rfl⟩
theorem mo_X11_arrivesAt : MOkV M_X11_arrivesAt 3 11 := ⟨⟨(mt_7 (List.mem_of_getElem? (i := 103) (by decide +kernel))), (mt_1 (List.mem_of_getElem? (i := 16) (by decide +kernel))), by decide +kernel, ⟨by decide +kernel, by decide +kernel, by decide +kernel⟩, by decide⟩, (mt_7 (List.mem_of_getElem? (i := 102) (by decide +kernel))), in_p (q := (yX11_arrivesAt, 33)) (List.mem_of_getElem? (i := 92) (by decide +kernel)), _, rfl, rfl⟩
theorem mo_X11_sendsBy : MOkV M_X11_sendsBy 1 11 := ⟨⟨(mt_7 (List.mem_of_getElem? (i := 107) (by decide +kernel))), (mt_1 (List.mem_of_getElem? (i := 16) (by decide +kernel))), by decide +kernel, ⟨by decide +kernel, by decide +kernel, by decide +kernel⟩, by decide⟩, (mt_7 (List.mem_of_getElem? (i := 106) (by decide +kernel))), in_p (q := (yX11_sendsBy, 33)) (List.mem_of_getElem? (i := 93) (by decide +kernel)), _, rfl, rfl⟩
theorem mo_X11_arrivesOf : MOkV M_X11_arrivesOf 3 11 := ⟨⟨(mt_7 (List.mem_of_getElem? (i := 99) (by decide +kernel))), (mt_1 (List.mem_of_getElem? (i := 16) (by decide +kernel))), by decide +kernel, ⟨by decide +kernel, by decide +kernel, by decide +kernel⟩, by decide⟩, (mt_7 (List.mem_of_getElem? (i := 98) (by decide +kernel))), in_p (q := (yX11_arrivesOf, 33)) (List.mem_of_getElem? (i := 91) (by decide +kernel)), _, rfl, rfl⟩
theorem mo_X11_flows : MOkV M_X11_flows 0 11 := ⟨⟨(mt_6 (List.mem_of_getElem? (i := 232) (by decide +kernel))), (mt_1 (List.mem_of_getElem? (i := 16) (by decide +kernel))), by decide +kernel, ⟨by decide +kernel, by decide +kernel, by decide +kernel⟩, by decide⟩, (mt_6 (List.mem_of_getElem? (i := 231) (by decide +kernel))), in_p (q := (yX11_flows, 33)) (List.mem_of_getElem? (i := 75) (by decide +kernel)), _, rfl, rfl⟩
theorem mo_X11_hopAt : MOkV M_X11_hopAt 2 11 := ⟨⟨(mt_7 (List.mem_of_getElem? (i := 95) (by decide +kernel))), (mt_1 (List.mem_of_getElem? (i := 16) (by decide +kernel))), by decide +kernel, ⟨by decide +kernel, by decide +kernel, by decide +kernel⟩, by decide⟩, (mt_7 (List.mem_of_getElem? (i := 94) (by decide +kernel))), in_p (q := (yX11_hopAt, 33)) (List.mem_of_getElem? (i := 90) (by decide +kernel)), _, rfl, rfl⟩
theorem mo_X11_begins : MOkV M_X11_begins 0 11 := ⟨⟨(mt_5 (List.mem_of_getElem? (i := 233) (by decide +kernel))), (mt_1 (List.mem_of_getElem? (i := 16) (by decide +kernel))), by decide +kernel, ⟨by decide +kernel, by decide +kernel, by decide +kernel⟩, by decide⟩, (mt_5 (List.mem_of_getElem? (i := 232) (by decide +kernel))), in_p (q := (yX11_begins, 33)) (List.mem_of_getElem? (i := 46) (by decide +kernel)), _, rfl, rfl⟩
theorem mo_X11_starts : MOkV M_X11_starts 1 11 := ⟨⟨(mt_5 (List.mem_of_getElem? (i := 237) (by decide +kernel))), (mt_1 (List.mem_of_getElem? (i := 16) (by decide +kernel))), by decide +kernel, ⟨by decide +kernel, by decide +kernel, by decide +kernel⟩, by decide⟩, (mt_5 (List.mem_of_getElem? (i := 236) (by decide +kernel))), in_p (q := (yX11_starts, 33)) (List.mem_of_getElem? (i := 47) (by decide +kernel)), _, rfl, rfl⟩
theorem mo_X11_behind : MOkV M_X11_behind 2 11 := ⟨⟨(mt_7 (List.mem_of_getElem? (i := 51) (by decide +kernel))), (mt_1 (List.mem_of_getElem? (i := 16) (by decide +kernel))), by decide +kernel, ⟨by decide +kernel, by decide +kernel, by decide +kernel⟩, by decide⟩, (mt_7 (List.mem_of_getElem? (i := 49) (by decide +kernel))), in_g (mt_7 (List.mem_of_getElem? (i := 50) (by decide +kernel))) rfl, _, rfl, rfl⟩
theorem mo_X11_laysCurves : MOkV M_X11_laysCurves 2 11 := ⟨⟨(mt_7 (List.mem_of_getElem? (i := 43) (by decide +kernel))), (mt_1 (List.mem_of_getElem? (i := 16) (by decide +kernel))), by decide +kernel, ⟨by decide +kernel, by decide +kernel, by decide +kernel⟩, by decide⟩, (mt_7 (List.mem_of_getElem? (i := 42) (by decide +kernel))), in_p (q := (yX11_laysCurves, 33)) (List.mem_of_getElem? (i := 80) (by decide +kernel)), _, rfl, rfl⟩
theorem mo_X11_behindness : MOkV M_X11_behindness 0 11 := ⟨⟨(mt_7 (List.mem_of_getElem? (i := 55) (by decide +kernel))), (mt_1 (List.mem_of_getElem? (i := 16) (by decide +kernel))), by decide +kernel, ⟨by decide +kernel, by decide +kernel, by decide +kernel⟩, by decide⟩, (mt_7 (List.mem_of_getElem? (i := 54) (by decide +kernel))), in_p (q := (yX11_behindness, 33)) (List.mem_of_getElem? (i := 82) (by decide +kernel)), _, rfl, rfl⟩
theorem mo_X11_bendsOf : MOkV M_X11_bendsOf 1 11 := ⟨⟨(mt_7 (List.mem_of_getElem? (i := 11) (by decide +kernel))), (mt_1 (List.mem_of_getElem? (i := 16) (by decide +kernel))), by decide +kernel, ⟨by decide +kernel, by decide +kernel, by decide +kernel⟩, by decide⟩, (mt_7 (List.mem_of_getElem? (i := 10) (by decide +kernel))), in_p (q := (yX11_bendsOf, 33)) (List.mem_of_getElem? (i := 78) (by decide +kernel)), _, rfl, rfl⟩
theorem mo_X11_bits : MOkS M_X11_bits 1 := ⟨⟨(mt_7 (List.mem_of_getElem? (i := 122) (by decide +kernel))), (mt_1 (List.mem_of_getElem? (i := 16) (by decide +kernel))), by decide +kernel, ⟨by decide +kernel, by decide +kernel, by decide +kernel⟩, by decide⟩, (mt_7 (List.mem_of_getElem? (i := 121) (by decide +kernel)))⟩
theorem mo_X11_comes : MOkV M_X11_comes 2 11 := ⟨⟨(mt_7 (List.mem_of_getElem? (i := 178) (by decide +kernel))), (mt_1 (List.mem_of_getElem? (i := 16) (by decide +kernel))), by decide +kernel, ⟨by decide +kernel, by decide +kernel, by decide +kernel⟩, by decide⟩, (mt_7 (List.mem_of_getElem? (i := 176) (by decide +kernel))), in_g (mt_7 (List.mem_of_getElem? (i := 177) (by decide +kernel))) rfl, _, rfl, rfl⟩
theorem mo_X11_isNode : MOkV M_X11_isNode 1 11 := ⟨⟨(mt_7 (List.mem_of_getElem? (i := 170) (by decide +kernel))), (mt_1 (List.mem_of_getElem? (i := 16) (by decide +kernel))), by decide +kernel, ⟨by decide +kernel, by decide +kernel, by decide +kernel⟩, by decide⟩, (mt_7 (List.mem_of_getElem? (i := 169) (by decide +kernel))), in_p (q := (yX11_isNode, 33)) (List.mem_of_getElem? (i := 101) (by decide +kernel)), _, rfl, rfl⟩
theorem mo_X11_flowsOver : MOkV M_X11_flowsOver 1 11 := ⟨⟨(mt_7 (List.mem_of_getElem? (i := 91) (by decide +kernel))), (mt_1 (List.mem_of_getElem? (i := 16) (by decide +kernel))), by decide +kernel, ⟨by decide +kernel, by decide +kernel, by decide +kernel⟩, by decide⟩, (mt_7 (List.mem_of_getElem? (i := 90) (by decide +kernel))), in_p (q := (yX11_flowsOver, 33)) (List.mem_of_getElem? (i := 89) (by decide +kernel)), _, rfl, rfl⟩
theorem mo_X11_count : MOkV M_X11_count 1 11 := ⟨⟨(mt_8 (List.mem_of_getElem? (i := 108) (by decide +kernel))), (mt_1 (List.mem_of_getElem? (i := 16) (by decide +kernel))), by decide +kernel, ⟨by decide +kernel, by decide +kernel, by decide +kernel⟩, by decide⟩, (mt_8 (List.mem_of_getElem? (i := 106) (by decide +kernel))), in_g (mt_8 (List.mem_of_getElem? (i := 107) (by decide +kernel))) rfl, _, rfl, rfl⟩
theorem mo_X11_curves : MOkV M_X11_curves 0 11 := ⟨⟨(mt_7 (List.mem_of_getElem? (i := 4) (by decide +kernel))), (mt_1 (List.mem_of_getElem? (i := 16) (by decide +kernel))), by decide +kernel, ⟨by decide +kernel, by decide +kernel, by decide +kernel⟩, by decide⟩, (mt_7 (List.mem_of_getElem? (i := 3) (by decide +kernel))), in_p (q := (yX11_curves, 33)) (List.mem_of_getElem? (i := 77) (by decide +kernel)), _, rfl, rfl⟩
theorem mo_X11_nodes : MOkV M_X11_nodes 0 11 := ⟨⟨(mt_7 (List.mem_of_getElem? (i := 174) (by decide +kernel))), (mt_1 (List.mem_of_getElem? (i := 16) (by decide +kernel))), by decide +kernel, ⟨by decide +kernel, by decide +kernel, by decide +kernel⟩, by decide⟩, (mt_7 (List.mem_of_getElem? (i := 173) (by decide +kernel))), in_p (q := (yX11_nodes, 33)) (List.mem_of_getElem? (i := 102) (by decide +kernel)), _, rfl, rfl⟩
theorem mo_X11_sumOf : MOkV M_X11_sumOf 1 11 := ⟨⟨(mt_8 (List.mem_of_getElem? (i := 28) (by decide +kernel))), (mt_1 (List.mem_of_getElem? (i := 16) (by decide +kernel))), by decide +kernel, ⟨by decide +kernel, by decide +kernel, by decide +kernel⟩, by decide⟩, (mt_8 (List.mem_of_getElem? (i := 27) (by decide +kernel))), in_p (q := (yX11_sumOf, 33)) (List.mem_of_getElem? (i := 117) (by decide +kernel)), _, rfl, rfl⟩
theorem mo_X11_curve : MOkV M_X11_curve 2 11 := ⟨⟨(mt_6 (List.mem_of_getElem? (i := 236) (by decide +kernel))), (mt_1 (List.mem_of_getElem? (i := 16) (by decide +kernel))), by decide +kernel, ⟨by decide +kernel, by decide +kernel, by decide +kernel⟩, by decide⟩, (mt_6 (List.mem_of_getElem? (i := 234) (by decide +kernel))), in_g (mt_6 (List.mem_of_getElem? (i := 235) (by decide +kernel))) rfl, _, rfl, rfl⟩
theorem mo_X11_curveOf : MOkV M_X11_curveOf 1 11 := ⟨⟨(mt_7 (List.mem_of_getElem? (i := 119) (by decide +kernel))), (mt_1 (List.mem_of_getElem? (i := 16) (by decide +kernel))), by decide +kernel, ⟨by decide +kernel, by decide +kernel, by decide +kernel⟩, by decide⟩, (mt_7 (List.mem_of_getElem? (i := 118) (by decide +kernel))), in_p (q := (yX11_curveOf, 33)) (List.mem_of_getElem? (i := 96) (by decide +kernel)), _, rfl, rfl⟩
theorem mo_X11_cutAll : MOkV M_X11_cutAll 0 11 := ⟨⟨(mt_6 (List.mem_of_getElem? (i := 105) (by decide +kernel))), (mt_1 (List.mem_of_getElem? (i := 16) (by decide +kernel))), by decide +kernel, ⟨by decide +kernel, by decide +kernel, by decide +kernel⟩, by decide⟩, (mt_6 (List.mem_of_getElem? (i := 104) (by decide +kernel))), in_p (q := (yX11_cutAll, 33)) (List.mem_of_getElem? (i := 48) (by decide +kernel)), _, rfl, rfl⟩
theorem mo_X11_isLetter : MOkS M_X11_isLetter 1 := ⟨⟨(mt_6 (List.mem_of_getElem? (i := 108) (by decide +kernel))), (mt_1 (List.mem_of_getElem? (i := 16) (by decide +kernel))), by decide +kernel, ⟨by decide +kernel, by decide +kernel, by decide +kernel⟩, by decide⟩, (mt_6 (List.mem_of_getElem? (i := 107) (by decide +kernel)))⟩
theorem mo_X11_rank : MOkS M_X11_rank 1 := ⟨⟨(mt_6 (List.mem_of_getElem? (i := 112) (by decide +kernel))), (mt_1 (List.mem_of_getElem? (i := 16) (by decide +kernel))), by decide +kernel, ⟨by decide +kernel, by decide +kernel, by decide +kernel⟩, by decide⟩, (mt_6 (List.mem_of_getElem? (i := 111) (by decide +kernel)))⟩
theorem mo_X11_isDigit : MOkS M_X11_isDigit 1 := ⟨⟨(mt_6 (List.mem_of_getElem? (i := 115) (by decide +kernel))), (mt_1 (List.mem_of_getElem? (i := 16) (by decide +kernel))), by decide +kernel, ⟨by decide +kernel, by decide +kernel, by decide +kernel⟩, by decide⟩, (mt_6 (List.mem_of_getElem? (i := 114) (by decide +kernel)))⟩
theorem mo_X11_isSignOf : MOkS M_X11_isSignOf 1 := ⟨⟨(mt_6 (List.mem_of_getElem? (i := 120) (by decide +kernel))), (mt_1 (List.mem_of_getElem? (i := 16) (by decide +kernel))), by decide +kernel, ⟨by decide +kernel, by decide +kernel, by decide +kernel⟩, by decide⟩, (mt_6 (List.mem_of_getElem? (i := 119) (by decide +kernel)))⟩
theorem mo_X11_delay : MOkV M_X11_delay 2 11 := ⟨⟨(mt_7 (List.mem_of_getElem? (i := 126) (by decide +kernel))), (mt_1 (List.mem_of_getElem? (i := 16) (by decide +kernel))), by decide +kernel, ⟨by decide +kernel, by decide +kernel, by decide +kernel⟩, by decide⟩, (mt_7 (List.mem_of_getElem? (i := 124) (by decide +kernel))), in_g (mt_7 (List.mem_of_getElem? (i := 125) (by decide +kernel))) rfl, _, rfl, rfl⟩
theorem mo_X11_draw : MOkV M_X11_draw 1 11 := ⟨⟨(mt_8 (List.mem_of_getElem? (i := 96) (by decide +kernel))), (mt_1 (List.mem_of_getElem? (i := 16) (by decide +kernel))), by decide +kernel, ⟨by decide +kernel, by decide +kernel, by decide +kernel⟩, by decide⟩, (mt_8 (List.mem_of_getElem? (i := 95) (by decide +kernel))), in_p (q := (yX11_draw, 33)) (List.mem_of_getElem? (i := 122) (by decide +kernel)), _, rfl, rfl⟩
theorem mo_X11_emit : MOkV M_X11_emit 2 11 := ⟨⟨(mt_6 (List.mem_of_getElem? (i := 216) (by decide +kernel))), (mt_1 (List.mem_of_getElem? (i := 16) (by decide +kernel))), by decide +kernel, ⟨by decide +kernel, by decide +kernel, by decide +kernel⟩, by decide⟩, (mt_6 (List.mem_of_getElem? (i := 215) (by decide +kernel))), in_p (q := (yX11_emit, 33)) (List.mem_of_getElem? (i := 72) (by decide +kernel)), _, rfl, rfl⟩
theorem mo_X11_enters : MOkV M_X11_enters 4 11 := ⟨⟨(mt_7 (List.mem_of_getElem? (i := 228) (by decide +kernel))), (mt_1 (List.mem_of_getElem? (i := 16) (by decide +kernel))), by decide +kernel, ⟨by decide +kernel, by decide +kernel, by decide +kernel⟩, by decide⟩, (mt_7 (List.mem_of_getElem? (i := 227) (by decide +kernel))), in_p (q := (yX11_enters, 33)) (List.mem_of_getElem? (i := 109) (by decide +kernel)), _, rfl, rfl⟩
theorem mo_X11_unitAt : MOkS M_X11_unitAt 2 := ⟨⟨(mt_7 (List.mem_of_getElem? (i := 217) (by decide +kernel))), (mt_1 (List.mem_of_getElem? (i := 16) (by decide +kernel))), by decide +kernel, ⟨by decide +kernel, by decide +kernel, by decide +kernel⟩, by decide⟩, (mt_7 (List.mem_of_getElem? (i := 216) (by decide +kernel)))⟩
theorem mo_X11_feed : MOkV M_X11_feed 3 11 := ⟨⟨(mt_5 (List.mem_of_getElem? (i := 192) (by decide +kernel))), (mt_1 (List.mem_of_getElem? (i := 16) (by decide +kernel))), by decide +kernel, ⟨by decide +kernel, by decide +kernel, by decide +kernel⟩, by decide⟩, (mt_5 (List.mem_of_getElem? (i := 190) (by decide +kernel))), in_g (mt_5 (List.mem_of_getElem? (i := 191) (by decide +kernel))) rfl, _, rfl, rfl⟩
theorem mo_X11_lay : MOkV M_X11_lay 1 11 := ⟨⟨(mt_5 (List.mem_of_getElem? (i := 197) (by decide +kernel))), (mt_1 (List.mem_of_getElem? (i := 16) (by decide +kernel))), by decide +kernel, ⟨by decide +kernel, by decide +kernel, by decide +kernel⟩, by decide⟩, (mt_5 (List.mem_of_getElem? (i := 195) (by decide +kernel))), in_p (q := (yX11_lay, 33)) (List.mem_of_getElem? (i := 44) (by decide +kernel)), _, rfl, rfl⟩
theorem mo_X11_fits : MOkV M_X11_fits 1 11 := ⟨⟨(mt_8 (List.mem_of_getElem? (i := 36) (by decide +kernel))), (mt_1 (List.mem_of_getElem? (i := 16) (by decide +kernel))), by decide +kernel, ⟨by decide +kernel, by decide +kernel, by decide +kernel⟩, by decide⟩, (mt_8 (List.mem_of_getElem? (i := 34) (by decide +kernel))), in_g (mt_8 (List.mem_of_getElem? (i := 35) (by decide +kernel))) rfl, _, rfl, rfl⟩
theorem mo_X11_isFlow : MOkV M_X11_isFlow 1 11 := ⟨⟨(mt_7 (List.mem_of_getElem? (i := 134) (by decide +kernel))), (mt_1 (List.mem_of_getElem? (i := 16) (by decide +kernel))), by decide +kernel, ⟨by decide +kernel, by decide +kernel, by decide +kernel⟩, by decide⟩, (mt_7 (List.mem_of_getElem? (i := 133) (by decide +kernel))), in_p (q := (yX11_isFlow, 33)) (List.mem_of_getElem? (i := 98) (by decide +kernel)), _, rfl, rfl⟩
theorem mo_X11_flow : MOkV M_X11_flow 2 11 := ⟨⟨(mt_8 (List.mem_of_getElem? (i := 60) (by decide +kernel))), (mt_1 (List.mem_of_getElem? (i := 16) (by decide +kernel))), by decide +kernel, ⟨by decide +kernel, by decide +kernel, by decide +kernel⟩, by decide⟩, (mt_8 (List.mem_of_getElem? (i := 58) (by decide +kernel))), in_g (mt_8 (List.mem_of_getElem? (i := 59) (by decide +kernel))) rfl, _, rfl, rfl⟩
theorem mo_X11_hopsOf : MOkV M_X11_hopsOf 1 11 := ⟨⟨(mt_7 (List.mem_of_getElem? (i := 75) (by decide +kernel))), (mt_1 (List.mem_of_getElem? (i := 16) (by decide +kernel))), by decide +kernel, ⟨by decide +kernel, by decide +kernel, by decide +kernel⟩, by decide⟩, (mt_7 (List.mem_of_getElem? (i := 74) (by decide +kernel))), in_p (q := (yX11_hopsOf, 33)) (List.mem_of_getElem? (i := 85) (by decide +kernel)), _, rfl, rfl⟩
theorem mo_X11_unitsOf : MOkV M_X11_unitsOf 2 11 := ⟨⟨(mt_8 (List.mem_of_getElem? (i := 64) (by decide +kernel))), (mt_1 (List.mem_of_getElem? (i := 16) (by decide +kernel))), by decide +kernel, ⟨by decide +kernel, by decide +kernel, by decide +kernel⟩, by decide⟩, (mt_8 (List.mem_of_getElem? (i := 63) (by decide +kernel))), in_p (q := (yX11_unitsOf, 33)) (List.mem_of_getElem? (i := 119) (by decide +kernel)), _, rfl, rfl⟩
theorem mo_X11_fold : MOkV M_X11_fold 3 11 := ⟨⟨(mt_7 (List.mem_of_getElem? (i := 23) (by decide +kernel))), (mt_1 (List.mem_of_getElem? (i := 16) (by decide +kernel))), by decide +kernel, ⟨by decide +kernel, by decide +kernel, by decide +kernel⟩, by decide⟩, (mt_7 (List.mem_of_getElem? (i := 21) (by decide +kernel))), in_g (mt_7 (List.mem_of_getElem? (i := 22) (by decide +kernel))) rfl, _, rfl, rfl⟩
theorem mo_X11_folds : MOkV M_X11_folds 1 11 := ⟨⟨(mt_7 (List.mem_of_getElem? (i := 158) (by decide +kernel))), (mt_1 (List.mem_of_getElem? (i := 16) (by decide +kernel))), by decide +kernel, ⟨by decide +kernel, by decide +kernel, by decide +kernel⟩, by decide⟩, (mt_7 (List.mem_of_getElem? (i := 157) (by decide +kernel))), in_p (q := (yX11_folds, 33)) (List.mem_of_getElem? (i := 100) (by decide +kernel)), _, rfl, rfl⟩
theorem mo_X11_full : MOkV M_X11_full 1 11 := ⟨⟨(mt_7 (List.mem_of_getElem? (i := 166) (by decide +kernel))), (mt_1 (List.mem_of_getElem? (i := 16) (by decide +kernel))), by decide +kernel, ⟨by decide +kernel, by decide +kernel, by decide +kernel⟩, by decide⟩, (mt_7 (List.mem_of_getElem? (i := 164) (by decide +kernel))), in_g (mt_7 (List.mem_of_getElem? (i := 165) (by decide +kernel))) rfl, _, rfl, rfl⟩
theorem mo_X11_goes : MOkV M_X11_goes 3 11 := ⟨⟨(mt_8 (List.mem_of_getElem? (i := 20) (by decide +kernel))), (mt_1 (List.mem_of_getElem? (i := 16) (by decide +kernel))), by decide +kernel, ⟨by decide +kernel, by decide +kernel, by decide +kernel⟩, by decide⟩, (mt_8 (List.mem_of_getElem? (i := 19) (by decide +kernel))), in_p (q := (yX11_goes, 33)) (List.mem_of_getElem? (i := 116) (by decide +kernel)), _, rfl, rfl⟩
theorem mo_X11_hasSign : MOkV M_X11_hasSign 1 11 := ⟨⟨(mt_6 (List.mem_of_getElem? (i := 220) (by decide +kernel))), (mt_1 (List.mem_of_getElem? (i := 16) (by decide +kernel))), by decide +kernel, ⟨by decide +kernel, by decide +kernel, by decide +kernel⟩, by decide⟩, (mt_6 (List.mem_of_getElem? (i := 219) (by decide +kernel))), in_p (q := (yX11_hasSign, 33)) (List.mem_of_getElem? (i := 73) (by decide +kernel)), _, rfl, rfl⟩
theorem mo_X11_isSign : MOkV M_X11_isSign 1 11 := ⟨⟨(mt_6 (List.mem_of_getElem? (i := 212) (by decide +kernel))), (mt_1 (List.mem_of_getElem? (i := 16) (by decide +kernel))), by decide +kernel, ⟨by decide +kernel, by decide +kernel, by decide +kernel⟩, by decide⟩, (mt_6 (List.mem_of_getElem? (i := 211) (by decide +kernel))), in_p (q := (yX11_isSign, 33)) (List.mem_of_getElem? (i := 71) (by decide +kernel)), _, rfl, rfl⟩
theorem mo_X11_hasWord : MOkV M_X11_hasWord 1 11 := ⟨⟨(mt_6 (List.mem_of_getElem? (i := 164) (by decide +kernel))), (mt_1 (List.mem_of_getElem? (i := 16) (by decide +kernel))), by decide +kernel, ⟨by decide +kernel, by decide +kernel, by decide +kernel⟩, by decide⟩, (mt_6 (List.mem_of_getElem? (i := 163) (by decide +kernel))), in_p (q := (yX11_hasWord, 33)) (List.mem_of_getElem? (i := 59) (by decide +kernel)), _, rfl, rfl⟩
theorem mo_X11_isWord : MOkV M_X11_isWord 1 11 := ⟨⟨(mt_6 (List.mem_of_getElem? (i := 128) (by decide +kernel))), (mt_1 (List.mem_of_getElem? (i := 16) (by decide +kernel))), by decide +kernel, ⟨by decide +kernel, by decide +kernel, by decide +kernel⟩, by decide⟩, (mt_6 (List.mem_of_getElem? (i := 127) (by decide +kernel))), in_p (q := (yX11_isWord, 33)) (List.mem_of_getElem? (i := 50) (by decide +kernel)), _, rfl, rfl⟩
theorem mo_X11_holds : MOkV M_X11_holds 1 11 := ⟨⟨(mt_8 (List.mem_of_getElem? (i := 40) (by decide +kernel))), (mt_1 (List.mem_of_getElem? (i := 16) (by decide +kernel))), by decide +kernel, ⟨by decide +kernel, by decide +kernel, by decide +kernel⟩, by decide⟩, (mt_8 (List.mem_of_getElem? (i := 38) (by decide +kernel))), in_g (mt_8 (List.mem_of_getElem? (i := 39) (by decide +kernel))) rfl, _, rfl, rfl⟩
theorem mo_X11_nodeOf : MOkV M_X11_nodeOf 2 11 := ⟨⟨(mt_7 (List.mem_of_getElem? (i := 83) (by decide +kernel))), (mt_1 (List.mem_of_getElem? (i := 16) (by decide +kernel))), by decide +kernel, ⟨by decide +kernel, by decide +kernel, by decide +kernel⟩, by decide⟩, (mt_7 (List.mem_of_getElem? (i := 82) (by decide +kernel))), in_p (q := (yX11_nodeOf, 33)) (List.mem_of_getElem? (i := 87) (by decide +kernel)), _, rfl, rfl⟩
theorem mo_X11_init : MOk M_X11_init 0 := ⟨(mt_5 (List.mem_of_getElem? (i := 201) (by decide +kernel))), (mt_1 (List.mem_of_getElem? (i := 16) (by decide +kernel))), by decide +kernel, ⟨by decide +kernel, by decide +kernel, by decide +kernel⟩, by decide⟩
theorem mo_X11_standsAsAlways : MOkV M_X11_standsAsAlways 1 11 := ⟨⟨(mt_5 (List.mem_of_getElem? (i := 229) (by decide +kernel))), (mt_1 (List.mem_of_getElem? (i := 16) (by decide +kernel))), by decide +kernel, ⟨by decide +kernel, by decide +kernel, by decide +kernel⟩, by decide⟩, (mt_5 (List.mem_of_getElem? (i := 228) (by decide +kernel))), in_p (q := (yX11_standsAsAlways, 33)) (List.mem_of_getElem? (i := 45) (by decide +kernel)), _, rfl, rfl⟩
theorem mo_X11_isName : MOkV M_X11_isName 0 11 := ⟨⟨(mt_6 (List.mem_of_getElem? (i := 148) (by decide +kernel))), (mt_1 (List.mem_of_getElem? (i := 16) (by decide +kernel))), by decide +kernel, ⟨by decide +kernel, by decide +kernel, by decide +kernel⟩, by decide⟩, (mt_6 (List.mem_of_getElem? (i := 147) (by decide +kernel))), in_p (q := (yX11_isName, 33)) (List.mem_of_getElem? (i := 55) (by decide +kernel)), _, rfl, rfl⟩
theorem mo_X11_wordHere : MOkV M_X11_wordHere 2 11 := ⟨⟨(mt_6 (List.mem_of_getElem? (i := 152) (by decide +kernel))), (mt_1 (List.mem_of_getElem? (i := 16) (by decide +kernel))), by decide +kernel, ⟨by decide +kernel, by decide +kernel, by decide +kernel⟩, by decide⟩, (mt_6 (List.mem_of_getElem? (i := 151) (by decide +kernel))), in_p (q := (yX11_wordHere, 33)) (List.mem_of_getElem? (i := 56) (by decide +kernel)), _, rfl, rfl⟩
theorem mo_X11_judged : MOkV M_X11_judged 1 11 := ⟨⟨(mt_8 (List.mem_of_getElem? (i := 24) (by decide +kernel))), (mt_1 (List.mem_of_getElem? (i := 16) (by decide +kernel))), by decide +kernel, ⟨by decide +kernel, by decide +kernel, by decide +kernel⟩, by decide⟩, (mt_8 (List.mem_of_getElem? (i := 22) (by decide +kernel))), in_g (mt_8 (List.mem_of_getElem? (i := 23) (by decide +kernel))) rfl, _, rfl, rfl⟩
theorem mo_X11_mayTick : MOkV M_X11_mayTick 1 11 := ⟨⟨(mt_7 (List.mem_of_getElem? (i := 236) (by decide +kernel))), (mt_1 (List.mem_of_getElem? (i := 16) (by decide +kernel))), by decide +kernel, ⟨by decide +kernel, by decide +kernel, by decide +kernel⟩, by decide⟩, (mt_7 (List.mem_of_getElem? (i := 235) (by decide +kernel))), in_p (q := (yX11_mayTick, 33)) (List.mem_of_getElem? (i := 110) (by decide +kernel)), _, rfl, rfl⟩
theorem mo_X11_mayPut : MOkV M_X11_mayPut 2 11 := ⟨⟨(mt_7 (List.mem_of_getElem? (i := 202) (by decide +kernel))), (mt_1 (List.mem_of_getElem? (i := 16) (by decide +kernel))), by decide +kernel, ⟨by decide +kernel, by decide +kernel, by decide +kernel⟩, by decide⟩, (mt_7 (List.mem_of_getElem? (i := 201) (by decide +kernel))), in_p (q := (yX11_mayPut, 33)) (List.mem_of_getElem? (i := 104) (by decide +kernel)), _, rfl, rfl⟩
theorem mo_X11_ticks : MOkV M_X11_ticks 1 11 := ⟨⟨(mt_8 (List.mem_of_getElem? (i := 0) (by decide +kernel))), (mt_1 (List.mem_of_getElem? (i := 16) (by decide +kernel))), by decide +kernel, ⟨by decide +kernel, by decide +kernel, by decide +kernel⟩, by decide⟩, (mt_7 (List.mem_of_getElem? (i := 239) (by decide +kernel))), in_p (q := (yX11_ticks, 33)) (List.mem_of_getElem? (i := 111) (by decide +kernel)), _, rfl, rfl⟩
theorem mo_X11_puts : MOkV M_X11_puts 3 11 := ⟨⟨(mt_7 (List.mem_of_getElem? (i := 206) (by decide +kernel))), (mt_1 (List.mem_of_getElem? (i := 16) (by decide +kernel))), by decide +kernel, ⟨by decide +kernel, by decide +kernel, by decide +kernel⟩, by decide⟩, (mt_7 (List.mem_of_getElem? (i := 205) (by decide +kernel))), in_p (q := (yX11_puts, 33)) (List.mem_of_getElem? (i := 105) (by decide +kernel)), _, rfl, rfl⟩
theorem mo_X11_latestOfAll : MOkV M_X11_latestOfAll 1 11 := ⟨⟨(mt_8 (List.mem_of_getElem? (i := 32) (by decide +kernel))), (mt_1 (List.mem_of_getElem? (i := 16) (by decide +kernel))), by decide +kernel, ⟨by decide +kernel, by decide +kernel, by decide +kernel⟩, by decide⟩, (mt_8 (List.mem_of_getElem? (i := 31) (by decide +kernel))), in_p (q := (yX11_latestOfAll, 33)) (List.mem_of_getElem? (i := 118) (by decide +kernel)), _, rfl, rfl⟩
theorem mo_X11_kindOf : MOkV M_X11_kindOf 1 11 := ⟨⟨(mt_7 (List.mem_of_getElem? (i := 87) (by decide +kernel))), (mt_1 (List.mem_of_getElem? (i := 16) (by decide +kernel))), by decide +kernel, ⟨by decide +kernel, by decide +kernel, by decide +kernel⟩, by decide⟩, (mt_7 (List.mem_of_getElem? (i := 86) (by decide +kernel))), in_p (q := (yX11_kindOf, 33)) (List.mem_of_getElem? (i := 88) (by decide +kernel)), _, rfl, rfl⟩
theorem mo_X11_late : MOkV M_X11_late 2 11 := ⟨⟨(mt_7 (List.mem_of_getElem? (i := 39) (by decide +kernel))), (mt_1 (List.mem_of_getElem? (i := 16) (by decide +kernel))), by decide +kernel, ⟨by decide +kernel, by decide +kernel, by decide +kernel⟩, by decide⟩, (mt_7 (List.mem_of_getElem? (i := 37) (by decide +kernel))), in_g (mt_7 (List.mem_of_getElem? (i := 38) (by decide +kernel))) rfl, _, rfl, rfl⟩
theorem mo_X11_lateness : MOkV M_X11_lateness 0 11 := ⟨⟨(mt_7 (List.mem_of_getElem? (i := 47) (by decide +kernel))), (mt_1 (List.mem_of_getElem? (i := 16) (by decide +kernel))), by decide +kernel, ⟨by decide +kernel, by decide +kernel, by decide +kernel⟩, by decide⟩, (mt_7 (List.mem_of_getElem? (i := 46) (by decide +kernel))), in_p (q := (yX11_lateness, 33)) (List.mem_of_getElem? (i := 81) (by decide +kernel)), _, rfl, rfl⟩
theorem mo_X11_latest : MOkV M_X11_latest 1 11 := ⟨⟨(mt_8 (List.mem_of_getElem? (i := 48) (by decide +kernel))), (mt_1 (List.mem_of_getElem? (i := 16) (by decide +kernel))), by decide +kernel, ⟨by decide +kernel, by decide +kernel, by decide +kernel⟩, by decide⟩, (mt_8 (List.mem_of_getElem? (i := 46) (by decide +kernel))), in_g (mt_8 (List.mem_of_getElem? (i := 47) (by decide +kernel))) rfl, _, rfl, rfl⟩
theorem mo_X11_laysArriving : MOkV M_X11_laysArriving 2 11 := ⟨⟨(mt_7 (List.mem_of_getElem? (i := 79) (by decide +kernel))), (mt_1 (List.mem_of_getElem? (i := 16) (by decide +kernel))), by decide +kernel, ⟨by decide +kernel, by decide +kernel, by decide +kernel⟩, by decide⟩, (mt_7 (List.mem_of_getElem? (i := 78) (by decide +kernel))), in_p (q := (yX11_laysArriving, 33)) (List.mem_of_getElem? (i := 86) (by decide +kernel)), _, rfl, rfl⟩
theorem mo_X11_laysLeft : MOkV M_X11_laysLeft 2 11 := ⟨⟨(mt_7 (List.mem_of_getElem? (i := 115) (by decide +kernel))), (mt_1 (List.mem_of_getElem? (i := 16) (by decide +kernel))), by decide +kernel, ⟨by decide +kernel, by decide +kernel, by decide +kernel⟩, by decide⟩, (mt_7 (List.mem_of_getElem? (i := 114) (by decide +kernel))), in_p (q := (yX11_laysLeft, 33)) (List.mem_of_getElem? (i := 95) (by decide +kernel)), _, rfl, rfl⟩
theorem mo_X11_left : MOkV M_X11_left 3 11 := ⟨⟨(mt_7 (List.mem_of_getElem? (i := 142) (by decide +kernel))), (mt_1 (List.mem_of_getElem? (i := 16) (by decide +kernel))), by decide +kernel, ⟨by decide +kernel, by decide +kernel, by decide +kernel⟩, by decide⟩, (mt_7 (List.mem_of_getElem? (i := 140) (by decide +kernel))), in_g (mt_7 (List.mem_of_getElem? (i := 141) (by decide +kernel))) rfl, _, rfl, rfl⟩
theorem mo_X11_loads : MOkV M_X11_loads 3 11 := ⟨⟨(mt_8 (List.mem_of_getElem? (i := 88) (by decide +kernel))), (mt_1 (List.mem_of_getElem? (i := 16) (by decide +kernel))), by decide +kernel, ⟨by decide +kernel, by decide +kernel, by decide +kernel⟩, by decide⟩, (mt_8 (List.mem_of_getElem? (i := 86) (by decide +kernel))), in_g (mt_8 (List.mem_of_getElem? (i := 87) (by decide +kernel))) rfl, _, rfl, rfl⟩
theorem mo_X11_moves : MOkV M_X11_moves 3 11 := ⟨⟨(mt_8 (List.mem_of_getElem? (i := 92) (by decide +kernel))), (mt_1 (List.mem_of_getElem? (i := 16) (by decide +kernel))), by decide +kernel, ⟨by decide +kernel, by decide +kernel, by decide +kernel⟩, by decide⟩, (mt_8 (List.mem_of_getElem? (i := 91) (by decide +kernel))), in_p (q := (yX11_moves, 33)) (List.mem_of_getElem? (i := 121) (by decide +kernel)), _, rfl, rfl⟩
theorem mo_X11_look : MOkV M_X11_look 0 11 := ⟨⟨(mt_8 (List.mem_of_getElem? (i := 84) (by decide +kernel))), (mt_1 (List.mem_of_getElem? (i := 16) (by decide +kernel))), by decide +kernel, ⟨by decide +kernel, by decide +kernel, by decide +kernel⟩, by decide⟩, (mt_8 (List.mem_of_getElem? (i := 82) (by decide +kernel))), in_g (mt_8 (List.mem_of_getElem? (i := 83) (by decide +kernel))) rfl, _, rfl, rfl⟩
theorem mo_X11_whoNow : MOkV M_X11_whoNow 0 11 := ⟨⟨(mt_8 (List.mem_of_getElem? (i := 80) (by decide +kernel))), (mt_1 (List.mem_of_getElem? (i := 16) (by decide +kernel))), by decide +kernel, ⟨by decide +kernel, by decide +kernel, by decide +kernel⟩, by decide⟩, (mt_8 (List.mem_of_getElem? (i := 79) (by decide +kernel))), in_p (q := (yX11_whoNow, 33)) (List.mem_of_getElem? (i := 120) (by decide +kernel)), _, rfl, rfl⟩
theorem mo_X11_mark : MOkV M_X11_mark 2 11 := ⟨⟨(mt_8 (List.mem_of_getElem? (i := 104) (by decide +kernel))), (mt_1 (List.mem_of_getElem? (i := 16) (by decide +kernel))), by decide +kernel, ⟨by decide +kernel, by decide +kernel, by decide +kernel⟩, by decide⟩, (mt_8 (List.mem_of_getElem? (i := 102) (by decide +kernel))), in_g (mt_8 (List.mem_of_getElem? (i := 103) (by decide +kernel))) rfl, _, rfl, rfl⟩
theorem mo_X11_nameAt : MOkV M_X11_nameAt 2 11 := ⟨⟨(mt_6 (List.mem_of_getElem? (i := 156) (by decide +kernel))), (mt_1 (List.mem_of_getElem? (i := 16) (by decide +kernel))), by decide +kernel, ⟨by decide +kernel, by decide +kernel, by decide +kernel⟩, by decide⟩, (mt_6 (List.mem_of_getElem? (i := 155) (by decide +kernel))), in_p (q := (yX11_nameAt, 33)) (List.mem_of_getElem? (i := 57) (by decide +kernel)), _, rfl, rfl⟩
theorem mo_X11_net : MOkV M_X11_net 0 11 := ⟨⟨(mt_6 (List.mem_of_getElem? (i := 101) (by decide +kernel))), (mt_1 (List.mem_of_getElem? (i := 16) (by decide +kernel))), by decide +kernel, ⟨by decide +kernel, by decide +kernel, by decide +kernel⟩, by decide⟩, (mt_6 (List.mem_of_getElem? (i := 99) (by decide +kernel))), in_g (mt_6 (List.mem_of_getElem? (i := 100) (by decide +kernel))) rfl, _, rfl, rfl⟩
theorem mo_X11_readLine : MOkV M_X11_readLine 0 11 := ⟨⟨(mt_6 (List.mem_of_getElem? (i := 124) (by decide +kernel))), (mt_1 (List.mem_of_getElem? (i := 16) (by decide +kernel))), by decide +kernel, ⟨by decide +kernel, by decide +kernel, by decide +kernel⟩, by decide⟩, (mt_6 (List.mem_of_getElem? (i := 123) (by decide +kernel))), in_p (q := (yX11_readLine, 33)) (List.mem_of_getElem? (i := 49) (by decide +kernel)), _, rfl, rfl⟩
theorem mo_X11_takeSign : MOkV M_X11_takeSign 1 11 := ⟨⟨(mt_6 (List.mem_of_getElem? (i := 224) (by decide +kernel))), (mt_1 (List.mem_of_getElem? (i := 16) (by decide +kernel))), by decide +kernel, ⟨by decide +kernel, by decide +kernel, by decide +kernel⟩, by decide⟩, (mt_6 (List.mem_of_getElem? (i := 223) (by decide +kernel))), in_p (q := (yX11_takeSign, 33)) (List.mem_of_getElem? (i := 74) (by decide +kernel)), _, rfl, rfl⟩
theorem mo_X11_nextUnit : MOkV M_X11_nextUnit 2 11 := ⟨⟨(mt_8 (List.mem_of_getElem? (i := 12) (by decide +kernel))), (mt_1 (List.mem_of_getElem? (i := 16) (by decide +kernel))), by decide +kernel, ⟨by decide +kernel, by decide +kernel, by decide +kernel⟩, by decide⟩, (mt_8 (List.mem_of_getElem? (i := 11) (by decide +kernel))), in_p (q := (yX11_nextUnit, 33)) (List.mem_of_getElem? (i := 114) (by decide +kernel)), _, rfl, rfl⟩
theorem mo_X11_unitOf : MOkV M_X11_unitOf 4 11 := ⟨⟨(mt_8 (List.mem_of_getElem? (i := 16) (by decide +kernel))), (mt_1 (List.mem_of_getElem? (i := 16) (by decide +kernel))), by decide +kernel, ⟨by decide +kernel, by decide +kernel, by decide +kernel⟩, by decide⟩, (mt_8 (List.mem_of_getElem? (i := 15) (by decide +kernel))), in_p (q := (yX11_unitOf, 33)) (List.mem_of_getElem? (i := 115) (by decide +kernel)), _, rfl, rfl⟩
theorem mo_X11_node : MOkV M_X11_node 2 11 := ⟨⟨(mt_8 (List.mem_of_getElem? (i := 56) (by decide +kernel))), (mt_1 (List.mem_of_getElem? (i := 16) (by decide +kernel))), by decide +kernel, ⟨by decide +kernel, by decide +kernel, by decide +kernel⟩, by decide⟩, (mt_8 (List.mem_of_getElem? (i := 54) (by decide +kernel))), in_g (mt_8 (List.mem_of_getElem? (i := 55) (by decide +kernel))) rfl, _, rfl, rfl⟩
theorem mo_X11_unitsAt : MOkV M_X11_unitsAt 2 11 := ⟨⟨(mt_7 (List.mem_of_getElem? (i := 210) (by decide +kernel))), (mt_1 (List.mem_of_getElem? (i := 16) (by decide +kernel))), by decide +kernel, ⟨by decide +kernel, by decide +kernel, by decide +kernel⟩, by decide⟩, (mt_7 (List.mem_of_getElem? (i := 209) (by decide +kernel))), in_p (q := (yX11_unitsAt, 33)) (List.mem_of_getElem? (i := 106) (by decide +kernel)), _, rfl, rfl⟩
theorem mo_X11_nodeAt : MOkV M_X11_nodeAt 2 11 := ⟨⟨(mt_7 (List.mem_of_getElem? (i := 214) (by decide +kernel))), (mt_1 (List.mem_of_getElem? (i := 16) (by decide +kernel))), by decide +kernel, ⟨by decide +kernel, by decide +kernel, by decide +kernel⟩, by decide⟩, (mt_7 (List.mem_of_getElem? (i := 213) (by decide +kernel))), in_p (q := (yX11_nodeAt, 33)) (List.mem_of_getElem? (i := 107) (by decide +kernel)), _, rfl, rfl⟩
theorem mo_X11_oldest : MOkV M_X11_oldest 1 11 := ⟨⟨(mt_8 (List.mem_of_getElem? (i := 52) (by decide +kernel))), (mt_1 (List.mem_of_getElem? (i := 16) (by decide +kernel))), by decide +kernel, ⟨by decide +kernel, by decide +kernel, by decide +kernel⟩, by decide⟩, (mt_8 (List.mem_of_getElem? (i := 50) (by decide +kernel))), in_g (mt_8 (List.mem_of_getElem? (i := 51) (by decide +kernel))) rfl, _, rfl, rfl⟩
theorem mo_X11_once : MOkV M_X11_once 1 11 := ⟨⟨(mt_7 (List.mem_of_getElem? (i := 150) (by decide +kernel))), (mt_1 (List.mem_of_getElem? (i := 16) (by decide +kernel))), by decide +kernel, ⟨by decide +kernel, by decide +kernel, by decide +kernel⟩, by decide⟩, (mt_7 (List.mem_of_getElem? (i := 148) (by decide +kernel))), in_g (mt_7 (List.mem_of_getElem? (i := 149) (by decide +kernel))) rfl, _, rfl, rfl⟩
theorem mo_X11_onceOf : MOkV M_X11_onceOf 1 11 := ⟨⟨(mt_7 (List.mem_of_getElem? (i := 154) (by decide +kernel))), (mt_1 (List.mem_of_getElem? (i := 16) (by decide +kernel))), by decide +kernel, ⟨by decide +kernel, by decide +kernel, by decide +kernel⟩, by decide⟩, (mt_7 (List.mem_of_getElem? (i := 153) (by decide +kernel))), in_p (q := (yX11_onceOf, 33)) (List.mem_of_getElem? (i := 99) (by decide +kernel)), _, rfl, rfl⟩
theorem mo_X11_products : MOkV M_X11_products 1 11 := ⟨⟨(mt_6 (List.mem_of_getElem? (i := 204) (by decide +kernel))), (mt_1 (List.mem_of_getElem? (i := 16) (by decide +kernel))), by decide +kernel, ⟨by decide +kernel, by decide +kernel, by decide +kernel⟩, by decide⟩, (mt_6 (List.mem_of_getElem? (i := 203) (by decide +kernel))), in_p (q := (yX11_products, 33)) (List.mem_of_getElem? (i := 69) (by decide +kernel)), _, rfl, rfl⟩
theorem mo_X11_takePart : MOkV M_X11_takePart 1 11 := ⟨⟨(mt_6 (List.mem_of_getElem? (i := 208) (by decide +kernel))), (mt_1 (List.mem_of_getElem? (i := 16) (by decide +kernel))), by decide +kernel, ⟨by decide +kernel, by decide +kernel, by decide +kernel⟩, by decide⟩, (mt_6 (List.mem_of_getElem? (i := 207) (by decide +kernel))), in_p (q := (yX11_takePart, 33)) (List.mem_of_getElem? (i := 70) (by decide +kernel)), _, rfl, rfl⟩
theorem mo_X11_put : MOkV M_X11_put 2 11 := ⟨⟨(mt_7 (List.mem_of_getElem? (i := 198) (by decide +kernel))), (mt_1 (List.mem_of_getElem? (i := 16) (by decide +kernel))), by decide +kernel, ⟨by decide +kernel, by decide +kernel, by decide +kernel⟩, by decide⟩, (mt_7 (List.mem_of_getElem? (i := 196) (by decide +kernel))), in_g (mt_7 (List.mem_of_getElem? (i := 197) (by decide +kernel))) rfl, _, rfl, rfl⟩
theorem mo_X11_worthAt : MOkV M_X11_worthAt 1 11 := ⟨⟨(mt_7 (List.mem_of_getElem? (i := 221) (by decide +kernel))), (mt_1 (List.mem_of_getElem? (i := 16) (by decide +kernel))), by decide +kernel, ⟨by decide +kernel, by decide +kernel, by decide +kernel⟩, by decide⟩, (mt_7 (List.mem_of_getElem? (i := 220) (by decide +kernel))), in_p (q := (yX11_worthAt, 33)) (List.mem_of_getElem? (i := 108) (by decide +kernel)), _, rfl, rfl⟩
theorem mo_X11_rateNow : MOkV M_X11_rateNow 2 11 := ⟨⟨(mt_8 (List.mem_of_getElem? (i := 4) (by decide +kernel))), (mt_1 (List.mem_of_getElem? (i := 16) (by decide +kernel))), by decide +kernel, ⟨by decide +kernel, by decide +kernel, by decide +kernel⟩, by decide⟩, (mt_8 (List.mem_of_getElem? (i := 3) (by decide +kernel))), in_p (q := (yX11_rateNow, 33)) (List.mem_of_getElem? (i := 112) (by decide +kernel)), _, rfl, rfl⟩
theorem mo_X11_read : MOkV M_X11_read 1 11 := ⟨⟨(mt_6 (List.mem_of_getElem? (i := 136) (by decide +kernel))), (mt_1 (List.mem_of_getElem? (i := 16) (by decide +kernel))), by decide +kernel, ⟨by decide +kernel, by decide +kernel, by decide +kernel⟩, by decide⟩, (mt_6 (List.mem_of_getElem? (i := 135) (by decide +kernel))), in_p (q := (yX11_read, 33)) (List.mem_of_getElem? (i := 52) (by decide +kernel)), _, rfl, rfl⟩
theorem mo_X11_readCurve : MOkV M_X11_readCurve 0 11 := ⟨⟨(mt_6 (List.mem_of_getElem? (i := 132) (by decide +kernel))), (mt_1 (List.mem_of_getElem? (i := 16) (by decide +kernel))), by decide +kernel, ⟨by decide +kernel, by decide +kernel, by decide +kernel⟩, by decide⟩, (mt_6 (List.mem_of_getElem? (i := 131) (by decide +kernel))), in_p (q := (yX11_readCurve, 33)) (List.mem_of_getElem? (i := 51) (by decide +kernel)), _, rfl, rfl⟩
theorem mo_X11_readName : MOkV M_X11_readName 3 11 := ⟨⟨(mt_6 (List.mem_of_getElem? (i := 140) (by decide +kernel))), (mt_1 (List.mem_of_getElem? (i := 16) (by decide +kernel))), by decide +kernel, ⟨by decide +kernel, by decide +kernel, by decide +kernel⟩, by decide⟩, (mt_6 (List.mem_of_getElem? (i := 139) (by decide +kernel))), in_p (q := (yX11_readName, 33)) (List.mem_of_getElem? (i := 53) (by decide +kernel)), _, rfl, rfl⟩
theorem mo_X11_takeWord : MOkV M_X11_takeWord 1 11 := ⟨⟨(mt_6 (List.mem_of_getElem? (i := 160) (by decide +kernel))), (mt_1 (List.mem_of_getElem? (i := 16) (by decide +kernel))), by decide +kernel, ⟨by decide +kernel, by decide +kernel, by decide +kernel⟩, by decide⟩, (mt_6 (List.mem_of_getElem? (i := 159) (by decide +kernel))), in_p (q := (yX11_takeWord, 33)) (List.mem_of_getElem? (i := 58) (by decide +kernel)), _, rfl, rfl⟩
theorem mo_X11_takeNumber : MOkV M_X11_takeNumber 2 11 := ⟨⟨(mt_6 (List.mem_of_getElem? (i := 168) (by decide +kernel))), (mt_1 (List.mem_of_getElem? (i := 16) (by decide +kernel))), by decide +kernel, ⟨by decide +kernel, by decide +kernel, by decide +kernel⟩, by decide⟩, (mt_6 (List.mem_of_getElem? (i := 167) (by decide +kernel))), in_p (q := (yX11_takeNumber, 33)) (List.mem_of_getElem? (i := 60) (by decide +kernel)), _, rfl, rfl⟩
theorem mo_X11_wrong : MOkV M_X11_wrong 1 11 := ⟨⟨(mt_6 (List.mem_of_getElem? (i := 144) (by decide +kernel))), (mt_1 (List.mem_of_getElem? (i := 16) (by decide +kernel))), by decide +kernel, ⟨by decide +kernel, by decide +kernel, by decide +kernel⟩, by decide⟩, (mt_6 (List.mem_of_getElem? (i := 143) (by decide +kernel))), in_p (q := (yX11_wrong, 33)) (List.mem_of_getElem? (i := 54) (by decide +kernel)), _, rfl, rfl⟩
theorem mo_X11_takeAfter : MOkV M_X11_takeAfter 3 11 := ⟨⟨(mt_6 (List.mem_of_getElem? (i := 172) (by decide +kernel))), (mt_1 (List.mem_of_getElem? (i := 16) (by decide +kernel))), by decide +kernel, ⟨by decide +kernel, by decide +kernel, by decide +kernel⟩, by decide⟩, (mt_6 (List.mem_of_getElem? (i := 171) (by decide +kernel))), in_p (q := (yX11_takeAfter, 33)) (List.mem_of_getElem? (i := 61) (by decide +kernel)), _, rfl, rfl⟩
theorem mo_X11_readFlow : MOkV M_X11_readFlow 0 11 := ⟨⟨(mt_6 (List.mem_of_getElem? (i := 188) (by decide +kernel))), (mt_1 (List.mem_of_getElem? (i := 16) (by decide +kernel))), by decide +kernel, ⟨by decide +kernel, by decide +kernel, by decide +kernel⟩, by decide⟩, (mt_6 (List.mem_of_getElem? (i := 187) (by decide +kernel))), in_p (q := (yX11_readFlow, 33)) (List.mem_of_getElem? (i := 65) (by decide +kernel)), _, rfl, rfl⟩
theorem mo_X11_takeTold : MOkV M_X11_takeTold 3 11 := ⟨⟨(mt_6 (List.mem_of_getElem? (i := 184) (by decide +kernel))), (mt_1 (List.mem_of_getElem? (i := 16) (by decide +kernel))), by decide +kernel, ⟨by decide +kernel, by decide +kernel, by decide +kernel⟩, by decide⟩, (mt_6 (List.mem_of_getElem? (i := 183) (by decide +kernel))), in_p (q := (yX11_takeTold, 33)) (List.mem_of_getElem? (i := 64) (by decide +kernel)), _, rfl, rfl⟩
theorem mo_X11_readNode : MOkV M_X11_readNode 0 11 := ⟨⟨(mt_6 (List.mem_of_getElem? (i := 176) (by decide +kernel))), (mt_1 (List.mem_of_getElem? (i := 16) (by decide +kernel))), by decide +kernel, ⟨by decide +kernel, by decide +kernel, by decide +kernel⟩, by decide⟩, (mt_6 (List.mem_of_getElem? (i := 175) (by decide +kernel))), in_p (q := (yX11_readNode, 33)) (List.mem_of_getElem? (i := 62) (by decide +kernel)), _, rfl, rfl⟩
theorem mo_X11_whole : MOkV M_X11_whole 1 11 := ⟨⟨(mt_6 (List.mem_of_getElem? (i := 192) (by decide +kernel))), (mt_1 (List.mem_of_getElem? (i := 16) (by decide +kernel))), by decide +kernel, ⟨by decide +kernel, by decide +kernel, by decide +kernel⟩, by decide⟩, (mt_6 (List.mem_of_getElem? (i := 191) (by decide +kernel))), in_p (q := (yX11_whole, 33)) (List.mem_of_getElem? (i := 66) (by decide +kernel)), _, rfl, rfl⟩
theorem mo_X11_takeOne : MOkV M_X11_takeOne 2 11 := ⟨⟨(mt_6 (List.mem_of_getElem? (i := 180) (by decide +kernel))), (mt_1 (List.mem_of_getElem? (i := 16) (by decide +kernel))), by decide +kernel, ⟨by decide +kernel, by decide +kernel, by decide +kernel⟩, by decide⟩, (mt_6 (List.mem_of_getElem? (i := 179) (by decide +kernel))), in_p (q := (yX11_takeOne, 33)) (List.mem_of_getElem? (i := 63) (by decide +kernel)), _, rfl, rfl⟩
theorem mo_X11_rounds : MOkV M_X11_rounds 0 11 := ⟨⟨(mt_7 (List.mem_of_getElem? (i := 63) (by decide +kernel))), (mt_1 (List.mem_of_getElem? (i := 16) (by decide +kernel))), by decide +kernel, ⟨by decide +kernel, by decide +kernel, by decide +kernel⟩, by decide⟩, (mt_7 (List.mem_of_getElem? (i := 61) (by decide +kernel))), in_g (mt_7 (List.mem_of_getElem? (i := 62) (by decide +kernel))) rfl, _, rfl, rfl⟩
theorem mo_X11_run : MOkV M_X11_run 0 11 := ⟨⟨(mt_6 (List.mem_of_getElem? (i := 228) (by decide +kernel))), (mt_1 (List.mem_of_getElem? (i := 16) (by decide +kernel))), by decide +kernel, ⟨by decide +kernel, by decide +kernel, by decide +kernel⟩, by decide⟩, (mt_6 (List.mem_of_getElem? (i := 226) (by decide +kernel))), in_g (mt_6 (List.mem_of_getElem? (i := 227) (by decide +kernel))) rfl, _, rfl, rfl⟩
theorem mo_X11_saves : MOkV M_X11_saves 1 11 := ⟨⟨(mt_7 (List.mem_of_getElem? (i := 162) (by decide +kernel))), (mt_1 (List.mem_of_getElem? (i := 16) (by decide +kernel))), by decide +kernel, ⟨by decide +kernel, by decide +kernel, by decide +kernel⟩, by decide⟩, (mt_7 (List.mem_of_getElem? (i := 160) (by decide +kernel))), in_g (mt_7 (List.mem_of_getElem? (i := 161) (by decide +kernel))) rfl, _, rfl, rfl⟩
theorem mo_X11_see : MOkV M_X11_see 3 11 := ⟨⟨(mt_8 (List.mem_of_getElem? (i := 72) (by decide +kernel))), (mt_1 (List.mem_of_getElem? (i := 16) (by decide +kernel))), by decide +kernel, ⟨by decide +kernel, by decide +kernel, by decide +kernel⟩, by decide⟩, (mt_8 (List.mem_of_getElem? (i := 70) (by decide +kernel))), in_g (mt_8 (List.mem_of_getElem? (i := 71) (by decide +kernel))) rfl, _, rfl, rfl⟩
theorem mo_X11_serves : MOkV M_X11_serves 1 11 := ⟨⟨(mt_8 (List.mem_of_getElem? (i := 44) (by decide +kernel))), (mt_1 (List.mem_of_getElem? (i := 16) (by decide +kernel))), by decide +kernel, ⟨by decide +kernel, by decide +kernel, by decide +kernel⟩, by decide⟩, (mt_8 (List.mem_of_getElem? (i := 42) (by decide +kernel))), in_g (mt_8 (List.mem_of_getElem? (i := 43) (by decide +kernel))) rfl, _, rfl, rfl⟩
theorem mo_X11_servesOf : MOkV M_X11_servesOf 3 11 := ⟨⟨(mt_8 (List.mem_of_getElem? (i := 8) (by decide +kernel))), (mt_1 (List.mem_of_getElem? (i := 16) (by decide +kernel))), by decide +kernel, ⟨by decide +kernel, by decide +kernel, by decide +kernel⟩, by decide⟩, (mt_8 (List.mem_of_getElem? (i := 7) (by decide +kernel))), in_p (q := (yX11_servesOf, 33)) (List.mem_of_getElem? (i := 113) (by decide +kernel)), _, rfl, rfl⟩
theorem mo_X11_settles : MOkV M_X11_settles 0 11 := ⟨⟨(mt_7 (List.mem_of_getElem? (i := 71) (by decide +kernel))), (mt_1 (List.mem_of_getElem? (i := 16) (by decide +kernel))), by decide +kernel, ⟨by decide +kernel, by decide +kernel, by decide +kernel⟩, by decide⟩, (mt_7 (List.mem_of_getElem? (i := 70) (by decide +kernel))), in_p (q := (yX11_settles, 33)) (List.mem_of_getElem? (i := 84) (by decide +kernel)), _, rfl, rfl⟩
theorem mo_X11_star : MOkV M_X11_star 2 11 := ⟨⟨(mt_7 (List.mem_of_getElem? (i := 31) (by decide +kernel))), (mt_1 (List.mem_of_getElem? (i := 16) (by decide +kernel))), by decide +kernel, ⟨by decide +kernel, by decide +kernel, by decide +kernel⟩, by decide⟩, (mt_7 (List.mem_of_getElem? (i := 29) (by decide +kernel))), in_g (mt_7 (List.mem_of_getElem? (i := 30) (by decide +kernel))) rfl, _, rfl, rfl⟩
theorem mo_X11_sub : MOkV M_X11_sub 1 11 := ⟨⟨(mt_7 (List.mem_of_getElem? (i := 35) (by decide +kernel))), (mt_1 (List.mem_of_getElem? (i := 16) (by decide +kernel))), by decide +kernel, ⟨by decide +kernel, by decide +kernel, by decide +kernel⟩, by decide⟩, (mt_7 (List.mem_of_getElem? (i := 33) (by decide +kernel))), in_g (mt_7 (List.mem_of_getElem? (i := 34) (by decide +kernel))) rfl, _, rfl, rfl⟩
theorem mo_X11_sums : MOkV M_X11_sums 1 11 := ⟨⟨(mt_6 (List.mem_of_getElem? (i := 200) (by decide +kernel))), (mt_1 (List.mem_of_getElem? (i := 16) (by decide +kernel))), by decide +kernel, ⟨by decide +kernel, by decide +kernel, by decide +kernel⟩, by decide⟩, (mt_6 (List.mem_of_getElem? (i := 199) (by decide +kernel))), in_p (q := (yX11_sums, 33)) (List.mem_of_getElem? (i := 68) (by decide +kernel)), _, rfl, rfl⟩
theorem mo_X11_test : MOkV M_X11_test 1 11 := ⟨⟨(mt_6 (List.mem_of_getElem? (i := 196) (by decide +kernel))), (mt_1 (List.mem_of_getElem? (i := 16) (by decide +kernel))), by decide +kernel, ⟨by decide +kernel, by decide +kernel, by decide +kernel⟩, by decide⟩, (mt_6 (List.mem_of_getElem? (i := 195) (by decide +kernel))), in_p (q := (yX11_test, 33)) (List.mem_of_getElem? (i := 67) (by decide +kernel)), _, rfl, rfl⟩
theorem mo_X11_thrown : MOkV M_X11_thrown 0 11 := ⟨⟨(mt_5 (List.mem_of_getElem? (i := 188) (by decide +kernel))), (mt_1 (List.mem_of_getElem? (i := 16) (by decide +kernel))), by decide +kernel, ⟨by decide +kernel, by decide +kernel, by decide +kernel⟩, by decide⟩, (mt_5 (List.mem_of_getElem? (i := 186) (by decide +kernel))), in_g (mt_5 (List.mem_of_getElem? (i := 187) (by decide +kernel))) rfl, _, rfl, rfl⟩
theorem mo_X11_tick : MOkV M_X11_tick 0 11 := ⟨⟨(mt_7 (List.mem_of_getElem? (i := 232) (by decide +kernel))), (mt_1 (List.mem_of_getElem? (i := 16) (by decide +kernel))), by decide +kernel, ⟨by decide +kernel, by decide +kernel, by decide +kernel⟩, by decide⟩, (mt_7 (List.mem_of_getElem? (i := 230) (by decide +kernel))), in_g (mt_7 (List.mem_of_getElem? (i := 231) (by decide +kernel))) rfl, _, rfl, rfl⟩
theorem mo_X11_total : MOkV M_X11_total 1 11 := ⟨⟨(mt_7 (List.mem_of_getElem? (i := 146) (by decide +kernel))), (mt_1 (List.mem_of_getElem? (i := 16) (by decide +kernel))), by decide +kernel, ⟨by decide +kernel, by decide +kernel, by decide +kernel⟩, by decide⟩, (mt_7 (List.mem_of_getElem? (i := 144) (by decide +kernel))), in_g (mt_7 (List.mem_of_getElem? (i := 145) (by decide +kernel))) rfl, _, rfl, rfl⟩
theorem mo_X11_tries : MOkV M_X11_tries 3 11 := ⟨⟨(mt_7 (List.mem_of_getElem? (i := 186) (by decide +kernel))), (mt_1 (List.mem_of_getElem? (i := 16) (by decide +kernel))), by decide +kernel, ⟨by decide +kernel, by decide +kernel, by decide +kernel⟩, by decide⟩, (mt_7 (List.mem_of_getElem? (i := 184) (by decide +kernel))), in_g (mt_7 (List.mem_of_getElem? (i := 185) (by decide +kernel))) rfl, _, rfl, rfl⟩
theorem mo_X11_triesBy : MOkV M_X11_triesBy 3 11 := ⟨⟨(mt_7 (List.mem_of_getElem? (i := 190) (by decide +kernel))), (mt_1 (List.mem_of_getElem? (i := 16) (by decide +kernel))), by decide +kernel, ⟨by decide +kernel, by decide +kernel, by decide +kernel⟩, by decide⟩, (mt_7 (List.mem_of_getElem? (i := 189) (by decide +kernel))), in_p (q := (yX11_triesBy, 33)) (List.mem_of_getElem? (i := 103) (by decide +kernel)), _, rfl, rfl⟩
theorem mo_X11_tune : MOkV M_X11_tune 2 11 := ⟨⟨(mt_7 (List.mem_of_getElem? (i := 194) (by decide +kernel))), (mt_1 (List.mem_of_getElem? (i := 16) (by decide +kernel))), by decide +kernel, ⟨by decide +kernel, by decide +kernel, by decide +kernel⟩, by decide⟩, (mt_7 (List.mem_of_getElem? (i := 192) (by decide +kernel))), in_g (mt_7 (List.mem_of_getElem? (i := 193) (by decide +kernel))) rfl, _, rfl, rfl⟩
theorem mo_X11_unfold : MOkV M_X11_unfold 3 11 := ⟨⟨(mt_7 (List.mem_of_getElem? (i := 27) (by decide +kernel))), (mt_1 (List.mem_of_getElem? (i := 16) (by decide +kernel))), by decide +kernel, ⟨by decide +kernel, by decide +kernel, by decide +kernel⟩, by decide⟩, (mt_7 (List.mem_of_getElem? (i := 25) (by decide +kernel))), in_g (mt_7 (List.mem_of_getElem? (i := 26) (by decide +kernel))) rfl, _, rfl, rfl⟩
theorem mo_X11_value : MOkV M_X11_value 2 11 := ⟨⟨(mt_7 (List.mem_of_getElem? (i := 19) (by decide +kernel))), (mt_1 (List.mem_of_getElem? (i := 16) (by decide +kernel))), by decide +kernel, ⟨by decide +kernel, by decide +kernel, by decide +kernel⟩, by decide⟩, (mt_7 (List.mem_of_getElem? (i := 17) (by decide +kernel))), in_g (mt_7 (List.mem_of_getElem? (i := 18) (by decide +kernel))) rfl, _, rfl, rfl⟩
theorem mo_X11_way : MOkV M_X11_way 2 11 := ⟨⟨(mt_8 (List.mem_of_getElem? (i := 68) (by decide +kernel))), (mt_1 (List.mem_of_getElem? (i := 16) (by decide +kernel))), by decide +kernel, ⟨by decide +kernel, by decide +kernel, by decide +kernel⟩, by decide⟩, (mt_8 (List.mem_of_getElem? (i := 66) (by decide +kernel))), in_g (mt_8 (List.mem_of_getElem? (i := 67) (by decide +kernel))) rfl, _, rfl, rfl⟩
theorem mo_X11_who : MOkV M_X11_who 0 11 := ⟨⟨(mt_8 (List.mem_of_getElem? (i := 76) (by decide +kernel))), (mt_1 (List.mem_of_getElem? (i := 16) (by decide +kernel))), by decide +kernel, ⟨by decide +kernel, by decide +kernel, by decide +kernel⟩, by decide⟩, (mt_8 (List.mem_of_getElem? (i := 74) (by decide +kernel))), in_g (mt_8 (List.mem_of_getElem? (i := 75) (by decide +kernel))) rfl, _, rfl, rfl⟩
theorem mo_X11_worked : MOkS M_X11_worked 3 := ⟨⟨(mt_7 (List.mem_of_getElem? (i := 224) (by decide +kernel))), (mt_1 (List.mem_of_getElem? (i := 16) (by decide +kernel))), by decide +kernel, ⟨by decide +kernel, by decide +kernel, by decide +kernel⟩, by decide⟩, (mt_7 (List.mem_of_getElem? (i := 223) (by decide +kernel)))⟩
theorem mo_X11_worst : MOkV M_X11_worst 0 11 := ⟨⟨(mt_7 (List.mem_of_getElem? (i := 182) (by decide +kernel))), (mt_1 (List.mem_of_getElem? (i := 16) (by decide +kernel))), by decide +kernel, ⟨by decide +kernel, by decide +kernel, by decide +kernel⟩, by decide⟩, (mt_7 (List.mem_of_getElem? (i := 180) (by decide +kernel))), in_g (mt_7 (List.mem_of_getElem? (i := 181) (by decide +kernel))) rfl, _, rfl, rfl⟩
theorem mo_X1_add : MOkV M_X1_add 1 1 := ⟨⟨(mt_3 (List.mem_of_getElem? (i := 154) (by decide +kernel))), (mt_1 (List.mem_of_getElem? (i := 8) (by decide +kernel))), by decide +kernel, ⟨by decide +kernel, by decide +kernel, by decide +kernel⟩, by decide⟩, (mt_3 (List.mem_of_getElem? (i := 152) (by decide +kernel))), in_g (mt_3 (List.mem_of_getElem? (i := 153) (by decide +kernel))) rfl, _, rfl, rfl⟩
theorem mo_X1_fact : MOkS M_X1_fact 5 := ⟨⟨(mt_4 (List.mem_of_getElem? (i := 193) (by decide +kernel))), (mt_1 (List.mem_of_getElem? (i := 8) (by decide +kernel))), by decide +kernel, ⟨by decide +kernel, by decide +kernel, by decide +kernel⟩, by decide⟩, (mt_4 (List.mem_of_getElem? (i := 192) (by decide +kernel)))⟩
theorem mo_X1_init : MOk M_X1_init 0 := ⟨(mt_1 (List.mem_of_getElem? (i := 147) (by decide +kernel))), (mt_1 (List.mem_of_getElem? (i := 8) (by decide +kernel))), by decide +kernel, ⟨by decide +kernel, by decide +kernel, by decide +kernel⟩, by decide⟩
theorem mo_X1_joined : MOkS M_X1_joined 3 := ⟨⟨(mt_4 (List.mem_of_getElem? (i := 190) (by decide +kernel))), (mt_1 (List.mem_of_getElem? (i := 8) (by decide +kernel))), by decide +kernel, ⟨by decide +kernel, by decide +kernel, by decide +kernel⟩, by decide⟩, (mt_4 (List.mem_of_getElem? (i := 189) (by decide +kernel)))⟩
theorem mo_X1_reset : MOkV M_X1_reset 0 1 := ⟨⟨(mt_3 (List.mem_of_getElem? (i := 28) (by decide +kernel))), (mt_1 (List.mem_of_getElem? (i := 8) (by decide +kernel))), by decide +kernel, ⟨by decide +kernel, by decide +kernel, by decide +kernel⟩, by decide⟩, (mt_3 (List.mem_of_getElem? (i := 26) (by decide +kernel))), in_g (mt_3 (List.mem_of_getElem? (i := 27) (by decide +kernel))) rfl, _, rfl, rfl⟩
theorem mo_X1_strengthOf : MOkS M_X1_strengthOf 1 := ⟨⟨(mt_3 (List.mem_of_getElem? (i := 158) (by decide +kernel))), (mt_1 (List.mem_of_getElem? (i := 8) (by decide +kernel))), by decide +kernel, ⟨by decide +kernel, by decide +kernel, by decide +kernel⟩, by decide⟩, (mt_3 (List.mem_of_getElem? (i := 157) (by decide +kernel)))⟩
theorem mo_X1_worth : MOkV M_X1_worth 4 1 := ⟨⟨(mt_4 (List.mem_of_getElem? (i := 186) (by decide +kernel))), (mt_1 (List.mem_of_getElem? (i := 8) (by decide +kernel))), by decide +kernel, ⟨by decide +kernel, by decide +kernel, by decide +kernel⟩, by decide⟩, (mt_4 (List.mem_of_getElem? (i := 184) (by decide +kernel))), in_g (mt_4 (List.mem_of_getElem? (i := 185) (by decide +kernel))) rfl, _, rfl, rfl⟩
theorem mo_X2_init : MOk M_X2_init 1 := ⟨(mt_2 (List.mem_of_getElem? (i := 45) (by decide +kernel))), (mt_1 (List.mem_of_getElem? (i := 11) (by decide +kernel))), by decide +kernel, ⟨by decide +kernel, by decide +kernel, by decide +kernel⟩, by decide⟩
theorem mo_X2_readPairs : MOkV M_X2_readPairs 3 2 := ⟨⟨(mt_3 (List.mem_of_getElem? (i := 143) (by decide +kernel))), (mt_1 (List.mem_of_getElem? (i := 11) (by decide +kernel))), by decide +kernel, ⟨by decide +kernel, by decide +kernel, by decide +kernel⟩, by decide⟩, (mt_3 (List.mem_of_getElem? (i := 141) (by decide +kernel))), in_g (mt_3 (List.mem_of_getElem? (i := 142) (by decide +kernel))) rfl, _, rfl, rfl⟩
theorem mo_X2_readPart : MOkV M_X2_readPart 2 2 := ⟨⟨(mt_3 (List.mem_of_getElem? (i := 147) (by decide +kernel))), (mt_1 (List.mem_of_getElem? (i := 11) (by decide +kernel))), by decide +kernel, ⟨by decide +kernel, by decide +kernel, by decide +kernel⟩, by decide⟩, (mt_3 (List.mem_of_getElem? (i := 146) (by decide +kernel))), in_p (q := (yX2_readPart, 1)) (List.mem_of_getElem? (i := 16) (by decide +kernel)), _, rfl, rfl⟩
theorem mo_X8_step : MOkV M_X8_step 0 8 := ⟨⟨(mt_3 (List.mem_of_getElem? (i := 36) (by decide +kernel))), (mt_1 (List.mem_of_getElem? (i := 2) (by decide +kernel))), by decide +kernel, ⟨by decide +kernel, by decide +kernel, by decide +kernel⟩, by decide⟩, (mt_3 (List.mem_of_getElem? (i := 34) (by decide +kernel))), in_g (mt_3 (List.mem_of_getElem? (i := 35) (by decide +kernel))) rfl, _, rfl, rfl⟩
theorem mo_X8_isFact : MOkV M_X8_isFact 0 8 := ⟨⟨(mt_3 (List.mem_of_getElem? (i := 78) (by decide +kernel))), (mt_1 (List.mem_of_getElem? (i := 2) (by decide +kernel))), by decide +kernel, ⟨by decide +kernel, by decide +kernel, by decide +kernel⟩, by decide⟩, (mt_3 (List.mem_of_getElem? (i := 76) (by decide +kernel))), in_g (mt_3 (List.mem_of_getElem? (i := 77) (by decide +kernel))) rfl, _, rfl, rfl⟩
theorem mo_X8_wrong : MOkV M_X8_wrong 1 8 := ⟨⟨(mt_3 (List.mem_of_getElem? (i := 65) (by decide +kernel))), (mt_1 (List.mem_of_getElem? (i := 2) (by decide +kernel))), by decide +kernel, ⟨by decide +kernel, by decide +kernel, by decide +kernel⟩, by decide⟩, (mt_3 (List.mem_of_getElem? (i := 63) (by decide +kernel))), in_g (mt_3 (List.mem_of_getElem? (i := 64) (by decide +kernel))) rfl, _, rfl, rfl⟩
theorem mo_X3_find : MOkS M_X3_find 3 := ⟨⟨(mt_3 (List.mem_of_getElem? (i := 85) (by decide +kernel))), (mt_1 (List.mem_of_getElem? (i := 7) (by decide +kernel))), by decide +kernel, ⟨by decide +kernel, by decide +kernel, by decide +kernel⟩, by decide⟩, (mt_3 (List.mem_of_getElem? (i := 84) (by decide +kernel)))⟩
theorem mo_X3_hopAt : MOkV M_X3_hopAt 2 3 := ⟨⟨(mt_3 (List.mem_of_getElem? (i := 135) (by decide +kernel))), (mt_1 (List.mem_of_getElem? (i := 7) (by decide +kernel))), by decide +kernel, ⟨by decide +kernel, by decide +kernel, by decide +kernel⟩, by decide⟩, (mt_3 (List.mem_of_getElem? (i := 133) (by decide +kernel))), in_g (mt_3 (List.mem_of_getElem? (i := 134) (by decide +kernel))) rfl, _, rfl, rfl⟩
theorem mo_X3_init : MOk M_X3_init 0 := ⟨(mt_1 (List.mem_of_getElem? (i := 137) (by decide +kernel))), (mt_1 (List.mem_of_getElem? (i := 7) (by decide +kernel))), by decide +kernel, ⟨by decide +kernel, by decide +kernel, by decide +kernel⟩, by decide⟩
theorem mo_X3_knows : MOkV M_X3_knows 1 3 := ⟨⟨(mt_3 (List.mem_of_getElem? (i := 82) (by decide +kernel))), (mt_1 (List.mem_of_getElem? (i := 7) (by decide +kernel))), by decide +kernel, ⟨by decide +kernel, by decide +kernel, by decide +kernel⟩, by decide⟩, (mt_3 (List.mem_of_getElem? (i := 80) (by decide +kernel))), in_g (mt_3 (List.mem_of_getElem? (i := 81) (by decide +kernel))) rfl, _, rfl, rfl⟩
theorem mo_X3_reset : MOkV M_X3_reset 0 3 := ⟨⟨(mt_3 (List.mem_of_getElem? (i := 24) (by decide +kernel))), (mt_1 (List.mem_of_getElem? (i := 7) (by decide +kernel))), by decide +kernel, ⟨by decide +kernel, by decide +kernel, by decide +kernel⟩, by decide⟩, (mt_3 (List.mem_of_getElem? (i := 22) (by decide +kernel))), in_g (mt_3 (List.mem_of_getElem? (i := 23) (by decide +kernel))) rfl, _, rfl, rfl⟩
theorem mo_X4_init : MOk M_X4_init 2 := ⟨(mt_2 (List.mem_of_getElem? (i := 39) (by decide +kernel))), (mt_1 (List.mem_of_getElem? (i := 10) (by decide +kernel))), by decide +kernel, ⟨by decide +kernel, by decide +kernel, by decide +kernel⟩, by decide⟩
theorem mo_X8_begin : MOkV M_X8_begin 0 8 := ⟨⟨(mt_3 (List.mem_of_getElem? (i := 32) (by decide +kernel))), (mt_1 (List.mem_of_getElem? (i := 2) (by decide +kernel))), by decide +kernel, ⟨by decide +kernel, by decide +kernel, by decide +kernel⟩, by decide⟩, (mt_3 (List.mem_of_getElem? (i := 30) (by decide +kernel))), in_g (mt_3 (List.mem_of_getElem? (i := 31) (by decide +kernel))) rfl, _, rfl, rfl⟩
theorem mo_X4_readCurve : MOkV M_X4_readCurve 0 4 := ⟨⟨(mt_3 (List.mem_of_getElem? (i := 61) (by decide +kernel))), (mt_1 (List.mem_of_getElem? (i := 10) (by decide +kernel))), by decide +kernel, ⟨by decide +kernel, by decide +kernel, by decide +kernel⟩, by decide⟩, (mt_3 (List.mem_of_getElem? (i := 60) (by decide +kernel))), in_p (q := (yX4_readCurve, 3)) (List.mem_of_getElem? (i := 4) (by decide +kernel)), _, rfl, rfl⟩
theorem mo_X4_readNode : MOkV M_X4_readNode 0 4 := ⟨⟨(mt_3 (List.mem_of_getElem? (i := 110) (by decide +kernel))), (mt_1 (List.mem_of_getElem? (i := 10) (by decide +kernel))), by decide +kernel, ⟨by decide +kernel, by decide +kernel, by decide +kernel⟩, by decide⟩, (mt_3 (List.mem_of_getElem? (i := 109) (by decide +kernel))), in_p (q := (yX4_readNode, 3)) (List.mem_of_getElem? (i := 9) (by decide +kernel)), _, rfl, rfl⟩
theorem mo_X4_readFlow : MOkV M_X4_readFlow 0 4 := ⟨⟨(mt_3 (List.mem_of_getElem? (i := 123) (by decide +kernel))), (mt_1 (List.mem_of_getElem? (i := 10) (by decide +kernel))), by decide +kernel, ⟨by decide +kernel, by decide +kernel, by decide +kernel⟩, by decide⟩, (mt_3 (List.mem_of_getElem? (i := 122) (by decide +kernel))), in_p (q := (yX4_readFlow, 3)) (List.mem_of_getElem? (i := 12) (by decide +kernel)), _, rfl, rfl⟩
theorem mo_X4_readLoses : MOkV M_X4_readLoses 0 4 := ⟨⟨(mt_3 (List.mem_of_getElem? (i := 139) (by decide +kernel))), (mt_1 (List.mem_of_getElem? (i := 10) (by decide +kernel))), by decide +kernel, ⟨by decide +kernel, by decide +kernel, by decide +kernel⟩, by decide⟩, (mt_3 (List.mem_of_getElem? (i := 138) (by decide +kernel))), in_p (q := (yX4_readLoses, 3)) (List.mem_of_getElem? (i := 15) (by decide +kernel)), _, rfl, rfl⟩
theorem mo_X4_readAdds : MOkV M_X4_readAdds 1 4 := ⟨⟨(mt_3 (List.mem_of_getElem? (i := 106) (by decide +kernel))), (mt_1 (List.mem_of_getElem? (i := 10) (by decide +kernel))), by decide +kernel, ⟨by decide +kernel, by decide +kernel, by decide +kernel⟩, by decide⟩, (mt_3 (List.mem_of_getElem? (i := 105) (by decide +kernel))), in_p (q := (yX4_readAdds, 3)) (List.mem_of_getElem? (i := 8) (by decide +kernel)), _, rfl, rfl⟩
theorem mo_X8_hasNumber : MOkV M_X8_hasNumber 2 8 := ⟨⟨(mt_3 (List.mem_of_getElem? (i := 98) (by decide +kernel))), (mt_1 (List.mem_of_getElem? (i := 2) (by decide +kernel))), by decide +kernel, ⟨by decide +kernel, by decide +kernel, by decide +kernel⟩, by decide⟩, (mt_3 (List.mem_of_getElem? (i := 96) (by decide +kernel))), in_g (mt_3 (List.mem_of_getElem? (i := 97) (by decide +kernel))) rfl, _, rfl, rfl⟩
theorem mo_X4_readAgain : MOkV M_X4_readAgain 1 4 := ⟨⟨(mt_3 (List.mem_of_getElem? (i := 102) (by decide +kernel))), (mt_1 (List.mem_of_getElem? (i := 10) (by decide +kernel))), by decide +kernel, ⟨by decide +kernel, by decide +kernel, by decide +kernel⟩, by decide⟩, (mt_3 (List.mem_of_getElem? (i := 101) (by decide +kernel))), in_p (q := (yX4_readAgain, 3)) (List.mem_of_getElem? (i := 7) (by decide +kernel)), _, rfl, rfl⟩
theorem mo_X4_readNewName : MOkV M_X4_readNewName 2 4 := ⟨⟨(mt_3 (List.mem_of_getElem? (i := 70) (by decide +kernel))), (mt_1 (List.mem_of_getElem? (i := 10) (by decide +kernel))), by decide +kernel, ⟨by decide +kernel, by decide +kernel, by decide +kernel⟩, by decide⟩, (mt_3 (List.mem_of_getElem? (i := 69) (by decide +kernel))), in_p (q := (yX4_readNewName, 3)) (List.mem_of_getElem? (i := 5) (by decide +kernel)), _, rfl, rfl⟩
theorem mo_X8_take : MOkV M_X8_take 1 8 := ⟨⟨(mt_3 (List.mem_of_getElem? (i := 89) (by decide +kernel))), (mt_1 (List.mem_of_getElem? (i := 2) (by decide +kernel))), by decide +kernel, ⟨by decide +kernel, by decide +kernel, by decide +kernel⟩, by decide⟩, (mt_3 (List.mem_of_getElem? (i := 87) (by decide +kernel))), in_g (mt_3 (List.mem_of_getElem? (i := 88) (by decide +kernel))) rfl, _, rfl, rfl⟩
theorem mo_X4_readValues : MOkV M_X4_readValues 1 4 := ⟨⟨(mt_3 (List.mem_of_getElem? (i := 94) (by decide +kernel))), (mt_1 (List.mem_of_getElem? (i := 10) (by decide +kernel))), by decide +kernel, ⟨by decide +kernel, by decide +kernel, by decide +kernel⟩, by decide⟩, (mt_3 (List.mem_of_getElem? (i := 93) (by decide +kernel))), in_p (q := (yX4_readValues, 3)) (List.mem_of_getElem? (i := 6) (by decide +kernel)), _, rfl, rfl⟩
theorem mo_X4_readCurveName : MOkV M_X4_readCurveName 2 4 := ⟨⟨(mt_3 (List.mem_of_getElem? (i := 118) (by decide +kernel))), (mt_1 (List.mem_of_getElem? (i := 10) (by decide +kernel))), by decide +kernel, ⟨by decide +kernel, by decide +kernel, by decide +kernel⟩, by decide⟩, (mt_3 (List.mem_of_getElem? (i := 117) (by decide +kernel))), in_p (q := (yX4_readCurveName, 3)) (List.mem_of_getElem? (i := 11) (by decide +kernel)), _, rfl, rfl⟩
theorem mo_X8_isName : MOkV M_X8_isName 0 8 := ⟨⟨(mt_3 (List.mem_of_getElem? (i := 74) (by decide +kernel))), (mt_1 (List.mem_of_getElem? (i := 2) (by decide +kernel))), by decide +kernel, ⟨by decide +kernel, by decide +kernel, by decide +kernel⟩, by decide⟩, (mt_3 (List.mem_of_getElem? (i := 72) (by decide +kernel))), in_g (mt_3 (List.mem_of_getElem? (i := 73) (by decide +kernel))) rfl, _, rfl, rfl⟩
theorem mo_X4_readDiscipline : MOkV M_X4_readDiscipline 1 4 := ⟨⟨(mt_3 (List.mem_of_getElem? (i := 114) (by decide +kernel))), (mt_1 (List.mem_of_getElem? (i := 10) (by decide +kernel))), by decide +kernel, ⟨by decide +kernel, by decide +kernel, by decide +kernel⟩, by decide⟩, (mt_3 (List.mem_of_getElem? (i := 113) (by decide +kernel))), in_p (q := (yX4_readDiscipline, 3)) (List.mem_of_getElem? (i := 10) (by decide +kernel)), _, rfl, rfl⟩
theorem mo_X4_readWay : MOkV M_X4_readWay 1 4 := ⟨⟨(mt_3 (List.mem_of_getElem? (i := 127) (by decide +kernel))), (mt_1 (List.mem_of_getElem? (i := 10) (by decide +kernel))), by decide +kernel, ⟨by decide +kernel, by decide +kernel, by decide +kernel⟩, by decide⟩, (mt_3 (List.mem_of_getElem? (i := 126) (by decide +kernel))), in_p (q := (yX4_readWay, 3)) (List.mem_of_getElem? (i := 13) (by decide +kernel)), _, rfl, rfl⟩
theorem mo_X4_readHop : MOkV M_X4_readHop 1 4 := ⟨⟨(mt_3 (List.mem_of_getElem? (i := 131) (by decide +kernel))), (mt_1 (List.mem_of_getElem? (i := 10) (by decide +kernel))), by decide +kernel, ⟨by decide +kernel, by decide +kernel, by decide +kernel⟩, by decide⟩, (mt_3 (List.mem_of_getElem? (i := 130) (by decide +kernel))), in_p (q := (yX4_readHop, 3)) (List.mem_of_getElem? (i := 14) (by decide +kernel)), _, rfl, rfl⟩
theorem mo_X5_init : MOk M_X5_init 0 := ⟨(mt_2 (List.mem_of_getElem? (i := 65) (by decide +kernel))), (mt_1 (List.mem_of_getElem? (i := 12) (by decide +kernel))), by decide +kernel, ⟨by decide +kernel, by decide +kernel, by decide +kernel⟩, by decide⟩
theorem mo_X5_readLine : MOkV M_X5_readLine 2 5 := ⟨⟨(mt_3 (List.mem_of_getElem? (i := 187) (by decide +kernel))), (mt_1 (List.mem_of_getElem? (i := 12) (by decide +kernel))), by decide +kernel, ⟨by decide +kernel, by decide +kernel, by decide +kernel⟩, by decide⟩, (mt_3 (List.mem_of_getElem? (i := 186) (by decide +kernel))), in_p (q := (yX5_readLine, 3)) (List.mem_of_getElem? (i := 18) (by decide +kernel)), _, rfl, rfl⟩
theorem mo_X5_readPut : MOkV M_X5_readPut 2 5 := ⟨⟨(mt_3 (List.mem_of_getElem? (i := 193) (by decide +kernel))), (mt_1 (List.mem_of_getElem? (i := 12) (by decide +kernel))), by decide +kernel, ⟨by decide +kernel, by decide +kernel, by decide +kernel⟩, by decide⟩, (mt_3 (List.mem_of_getElem? (i := 192) (by decide +kernel))), in_p (q := (yX5_readPut, 3)) (List.mem_of_getElem? (i := 19) (by decide +kernel)), _, rfl, rfl⟩
theorem mo_X6_clear : MOkV M_X6_clear 0 6 := ⟨⟨(mt_4 (List.mem_of_getElem? (i := 58) (by decide +kernel))), (mt_1 (List.mem_of_getElem? (i := 15) (by decide +kernel))), by decide +kernel, ⟨by decide +kernel, by decide +kernel, by decide +kernel⟩, by decide⟩, (mt_4 (List.mem_of_getElem? (i := 57) (by decide +kernel))), in_p (q := (yX6_clear, 9)) (List.mem_of_getElem? (i := 24) (by decide +kernel)), _, rfl, rfl⟩
theorem mo_X6_comingOf : MOkV M_X6_comingOf 4 6 := ⟨⟨(mt_4 (List.mem_of_getElem? (i := 79) (by decide +kernel))), (mt_1 (List.mem_of_getElem? (i := 15) (by decide +kernel))), by decide +kernel, ⟨by decide +kernel, by decide +kernel, by decide +kernel⟩, by decide⟩, (mt_4 (List.mem_of_getElem? (i := 78) (by decide +kernel))), in_p (q := (yX6_comingOf, 9)) (List.mem_of_getElem? (i := 28) (by decide +kernel)), _, rfl, rfl⟩
theorem mo_X6_delayAt : MOkV M_X6_delayAt 2 6 := ⟨⟨(mt_4 (List.mem_of_getElem? (i := 71) (by decide +kernel))), (mt_1 (List.mem_of_getElem? (i := 15) (by decide +kernel))), by decide +kernel, ⟨by decide +kernel, by decide +kernel, by decide +kernel⟩, by decide⟩, (mt_4 (List.mem_of_getElem? (i := 70) (by decide +kernel))), in_p (q := (yX6_delayAt, 9)) (List.mem_of_getElem? (i := 27) (by decide +kernel)), _, rfl, rfl⟩
theorem mo_X6_fillArriving : MOkV M_X6_fillArriving 0 6 := ⟨⟨(mt_4 (List.mem_of_getElem? (i := 63) (by decide +kernel))), (mt_1 (List.mem_of_getElem? (i := 15) (by decide +kernel))), by decide +kernel, ⟨by decide +kernel, by decide +kernel, by decide +kernel⟩, by decide⟩, (mt_4 (List.mem_of_getElem? (i := 62) (by decide +kernel))), in_p (q := (yX6_fillArriving, 9)) (List.mem_of_getElem? (i := 25) (by decide +kernel)), _, rfl, rfl⟩
theorem mo_X6_init : MOk M_X6_init 1 := ⟨(mt_2 (List.mem_of_getElem? (i := 155) (by decide +kernel))), (mt_1 (List.mem_of_getElem? (i := 15) (by decide +kernel))), by decide +kernel, ⟨by decide +kernel, by decide +kernel, by decide +kernel⟩, by decide⟩
theorem mo_X6_tellAnew : MOkV M_X6_tellAnew 0 6 := ⟨⟨(mt_4 (List.mem_of_getElem? (i := 67) (by decide +kernel))), (mt_1 (List.mem_of_getElem? (i := 15) (by decide +kernel))), by decide +kernel, ⟨by decide +kernel, by decide +kernel, by decide +kernel⟩, by decide⟩, (mt_4 (List.mem_of_getElem? (i := 66) (by decide +kernel))), in_p (q := (yX6_tellAnew, 9)) (List.mem_of_getElem? (i := 26) (by decide +kernel)), _, rfl, rfl⟩
theorem mo_X6_takeAnew : MOkV M_X6_takeAnew 0 6 := ⟨⟨(mt_4 (List.mem_of_getElem? (i := 97) (by decide +kernel))), (mt_1 (List.mem_of_getElem? (i := 15) (by decide +kernel))), by decide +kernel, ⟨by decide +kernel, by decide +kernel, by decide +kernel⟩, by decide⟩, (mt_4 (List.mem_of_getElem? (i := 96) (by decide +kernel))), in_p (q := (yX6_takeAnew, 9)) (List.mem_of_getElem? (i := 29) (by decide +kernel)), _, rfl, rfl⟩
theorem mo_X7_init : MOk M_X7_init 0 := ⟨(mt_2 (List.mem_of_getElem? (i := 132) (by decide +kernel))), (mt_1 (List.mem_of_getElem? (i := 14) (by decide +kernel))), by decide +kernel, ⟨by decide +kernel, by decide +kernel, by decide +kernel⟩, by decide⟩
theorem mo_X8_init : MOk M_X8_init 0 := ⟨(mt_1 (List.mem_of_getElem? (i := 36) (by decide +kernel))), (mt_1 (List.mem_of_getElem? (i := 2) (by decide +kernel))), by decide +kernel, ⟨by decide +kernel, by decide +kernel, by decide +kernel⟩, by decide⟩
theorem mo_X8_isDigit : MOkS M_X8_isDigit 1 := ⟨⟨(mt_3 (List.mem_of_getElem? (i := 50) (by decide +kernel))), (mt_1 (List.mem_of_getElem? (i := 2) (by decide +kernel))), by decide +kernel, ⟨by decide +kernel, by decide +kernel, by decide +kernel⟩, by decide⟩, (mt_3 (List.mem_of_getElem? (i := 49) (by decide +kernel)))⟩
theorem mo_X8_isLetter : MOkS M_X8_isLetter 1 := ⟨⟨(mt_3 (List.mem_of_getElem? (i := 39) (by decide +kernel))), (mt_1 (List.mem_of_getElem? (i := 2) (by decide +kernel))), by decide +kernel, ⟨by decide +kernel, by decide +kernel, by decide +kernel⟩, by decide⟩, (mt_3 (List.mem_of_getElem? (i := 38) (by decide +kernel)))⟩
theorem mo_X8_kindOfSign : MOkS M_X8_kindOfSign 1 := ⟨⟨(mt_3 (List.mem_of_getElem? (i := 57) (by decide +kernel))), (mt_1 (List.mem_of_getElem? (i := 2) (by decide +kernel))), by decide +kernel, ⟨by decide +kernel, by decide +kernel, by decide +kernel⟩, by decide⟩, (mt_3 (List.mem_of_getElem? (i := 56) (by decide +kernel)))⟩
theorem mo_X8_kindOfWord : MOkV M_X8_kindOfWord 1 8 := ⟨⟨(mt_3 (List.mem_of_getElem? (i := 47) (by decide +kernel))), (mt_1 (List.mem_of_getElem? (i := 2) (by decide +kernel))), by decide +kernel, ⟨by decide +kernel, by decide +kernel, by decide +kernel⟩, by decide⟩, (mt_3 (List.mem_of_getElem? (i := 46) (by decide +kernel))), in_p (q := (yX8_kindOfWord, 9)) (List.mem_of_getElem? (i := 2) (by decide +kernel)), _, rfl, rfl⟩
theorem mo_X8_readNumber : MOkV M_X8_readNumber 0 8 := ⟨⟨(mt_3 (List.mem_of_getElem? (i := 54) (by decide +kernel))), (mt_1 (List.mem_of_getElem? (i := 2) (by decide +kernel))), by decide +kernel, ⟨by decide +kernel, by decide +kernel, by decide +kernel⟩, by decide⟩, (mt_3 (List.mem_of_getElem? (i := 53) (by decide +kernel))), in_p (q := (yX8_readNumber, 9)) (List.mem_of_getElem? (i := 3) (by decide +kernel)), _, rfl, rfl⟩
theorem mo_X8_readWord : MOkV M_X8_readWord 0 8 := ⟨⟨(mt_3 (List.mem_of_getElem? (i := 43) (by decide +kernel))), (mt_1 (List.mem_of_getElem? (i := 2) (by decide +kernel))), by decide +kernel, ⟨by decide +kernel, by decide +kernel, by decide +kernel⟩, by decide⟩, (mt_3 (List.mem_of_getElem? (i := 42) (by decide +kernel))), in_p (q := (yX8_readWord, 9)) (List.mem_of_getElem? (i := 1) (by decide +kernel)), _, rfl, rfl⟩
theorem mo_X8_withLetter : MOkS M_X8_withLetter 2 := ⟨⟨(mt_1 (List.mem_of_getElem? (i := 89) (by decide +kernel))), (mt_1 (List.mem_of_getElem? (i := 2) (by decide +kernel))), by decide +kernel, ⟨by decide +kernel, by decide +kernel, by decide +kernel⟩, by decide⟩, (mt_1 (List.mem_of_getElem? (i := 88) (by decide +kernel)))⟩
theorem mo_X9_bringTo : MOkV M_X9_bringTo 2 9 := ⟨⟨(mt_4 (List.mem_of_getElem? (i := 197) (by decide +kernel))), (mt_1 (List.mem_of_getElem? (i := 13) (by decide +kernel))), by decide +kernel, ⟨by decide +kernel, by decide +kernel, by decide +kernel⟩, by decide⟩, (mt_4 (List.mem_of_getElem? (i := 196) (by decide +kernel))), in_p (q := (yX9_bringTo, 11)) (List.mem_of_getElem? (i := 34) (by decide +kernel)), _, rfl, rfl⟩
theorem mo_X9_draw : MOkV M_X9_draw 1 9 := ⟨⟨(mt_5 (List.mem_of_getElem? (i := 85) (by decide +kernel))), (mt_1 (List.mem_of_getElem? (i := 13) (by decide +kernel))), by decide +kernel, ⟨by decide +kernel, by decide +kernel, by decide +kernel⟩, by decide⟩, (mt_5 (List.mem_of_getElem? (i := 84) (by decide +kernel))), in_p (q := (yX9_draw, 11)) (List.mem_of_getElem? (i := 42) (by decide +kernel)), _, rfl, rfl⟩
theorem mo_X9_firstPlaceAbove : MOkV M_X9_firstPlaceAbove 2 9 := ⟨⟨(mt_4 (List.mem_of_getElem? (i := 223) (by decide +kernel))), (mt_1 (List.mem_of_getElem? (i := 13) (by decide +kernel))), by decide +kernel, ⟨by decide +kernel, by decide +kernel, by decide +kernel⟩, by decide⟩, (mt_4 (List.mem_of_getElem? (i := 222) (by decide +kernel))), in_p (q := (yX9_firstPlaceAbove, 11)) (List.mem_of_getElem? (i := 38) (by decide +kernel)), _, rfl, rfl⟩
theorem mo_X9_init : MOk M_X9_init 0 := ⟨(mt_2 (List.mem_of_getElem? (i := 85) (by decide +kernel))), (mt_1 (List.mem_of_getElem? (i := 13) (by decide +kernel))), by decide +kernel, ⟨by decide +kernel, by decide +kernel, by decide +kernel⟩, by decide⟩
theorem mo_X9_nextPlace : MOkV M_X9_nextPlace 3 9 := ⟨⟨(mt_4 (List.mem_of_getElem? (i := 219) (by decide +kernel))), (mt_1 (List.mem_of_getElem? (i := 13) (by decide +kernel))), by decide +kernel, ⟨by decide +kernel, by decide +kernel, by decide +kernel⟩, by decide⟩, (mt_4 (List.mem_of_getElem? (i := 218) (by decide +kernel))), in_p (q := (yX9_nextPlace, 11)) (List.mem_of_getElem? (i := 37) (by decide +kernel)), _, rfl, rfl⟩
theorem mo_X9_serveAt : MOkV M_X9_serveAt 2 9 := ⟨⟨(mt_4 (List.mem_of_getElem? (i := 209) (by decide +kernel))), (mt_1 (List.mem_of_getElem? (i := 13) (by decide +kernel))), by decide +kernel, ⟨by decide +kernel, by decide +kernel, by decide +kernel⟩, by decide⟩, (mt_4 (List.mem_of_getElem? (i := 208) (by decide +kernel))), in_p (q := (yX9_serveAt, 11)) (List.mem_of_getElem? (i := 35) (by decide +kernel)), _, rfl, rfl⟩
theorem mo_X9_sendOn : MOkV M_X9_sendOn 3 9 := ⟨⟨(mt_4 (List.mem_of_getElem? (i := 232) (by decide +kernel))), (mt_1 (List.mem_of_getElem? (i := 13) (by decide +kernel))), by decide +kernel, ⟨by decide +kernel, by decide +kernel, by decide +kernel⟩, by decide⟩, (mt_4 (List.mem_of_getElem? (i := 231) (by decide +kernel))), in_p (q := (yX9_sendOn, 11)) (List.mem_of_getElem? (i := 40) (by decide +kernel)), _, rfl, rfl⟩
theorem mo_X9_quota : MOkV M_X9_quota 2 9 := ⟨⟨(mt_4 (List.mem_of_getElem? (i := 213) (by decide +kernel))), (mt_1 (List.mem_of_getElem? (i := 13) (by decide +kernel))), by decide +kernel, ⟨by decide +kernel, by decide +kernel, by decide +kernel⟩, by decide⟩, (mt_4 (List.mem_of_getElem? (i := 212) (by decide +kernel))), in_p (q := (yX9_quota, 11)) (List.mem_of_getElem? (i := 36) (by decide +kernel)), _, rfl, rfl⟩
theorem mo_X9_takeOut : MOkV M_X9_takeOut 2 9 := ⟨⟨(mt_4 (List.mem_of_getElem? (i := 228) (by decide +kernel))), (mt_1 (List.mem_of_getElem? (i := 13) (by decide +kernel))), by decide +kernel, ⟨by decide +kernel, by decide +kernel, by decide +kernel⟩, by decide⟩, (mt_4 (List.mem_of_getElem? (i := 227) (by decide +kernel))), in_p (q := (yX9_takeOut, 11)) (List.mem_of_getElem? (i := 39) (by decide +kernel)), _, rfl, rfl⟩
