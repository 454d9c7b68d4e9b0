theorem kI_1 : Int32.ofInt (1) = (nI 1) := by decide +kernel
theorem kI_0 : Int32.ofInt (0) = (nI 0) := by decide +kernel
theorem kI_4 : Int32.ofInt (4) = (nI 4) := by decide +kernel
theorem kI_3 : Int32.ofInt (3) = (nI 3) := by decide +kernel
theorem kB_m9 : (Int8.ofInt (-9)).toInt32 = (-9) := by decide +kernel
theorem kB_100 : (Int8.ofInt (100)).toInt32 = (nI 100) := by decide +kernel
theorem kI_2 : Int32.ofInt (2) = (nI 2) := by decide +kernel
theorem kB_16 : (Int8.ofInt (16)).toInt32 = (nI 16) := by decide +kernel
theorem kB_m4 : (Int8.ofInt (-4)).toInt32 = (-4) := by decide +kernel
theorem kB_12 : (Int8.ofInt (12)).toInt32 = (nI 12) := by decide +kernel
theorem kB_6 : (Int8.ofInt (6)).toInt32 = (nI 6) := by decide +kernel
theorem kB_63 : (Int8.ofInt (63)).toInt32 = (nI 63) := by decide +kernel
theorem kB_m2 : (Int8.ofInt (-2)).toInt32 = (-2) := by decide +kernel
theorem kI_m1 : Int32.ofInt (-1) = (-1) := by decide +kernel
theorem kB_64 : (Int8.ofInt (64)).toInt32 = (nI 64) := by decide +kernel
theorem kB_m3 : (Int8.ofInt (-3)).toInt32 = (-3) := by decide +kernel
theorem kS_1000 : (Int16.ofInt (1000)).toInt32 = (nI 1000) := by decide +kernel
theorem kS_999 : (Int16.ofInt (999)).toInt32 = (nI 999) := by decide +kernel
theorem kS_20000 : (Int16.ofInt (20000)).toInt32 = (nI 20000) := by decide +kernel
theorem kB_m6 : (Int8.ofInt (-6)).toInt32 = (-6) := by decide +kernel
theorem kB_24 : (Int8.ofInt (24)).toInt32 = (nI 24) := by decide +kernel
theorem kI_5 : Int32.ofInt (5) = (nI 5) := by decide +kernel
theorem kB_7 : (Int8.ofInt (7)).toInt32 = (nI 7) := by decide +kernel
theorem kB_m10 : (Int8.ofInt (-10)).toInt32 = (-10) := by decide +kernel
theorem kB_31 : (Int8.ofInt (31)).toInt32 = (nI 31) := by decide +kernel
theorem kI_6 : Int32.ofInt (6) = (nI 6) := by decide +kernel
theorem cod_L_law : mL_law.2.2.1 = cL_law := rfl
theorem cod_X0_init : mX0_init.2.2.1 = cX0_init := rfl
theorem nA_X0_init : nAr mX0_init = 0 := by decide +kernel
theorem cod_X0_allows : mX0_allows.2.2.1 = cX0_allows := rfl
theorem nA_X0_allows : nAr mX0_allows = 1 := by decide +kernel
theorem cod_X0_countSettings : mX0_countSettings.2.2.1 = cX0_countSettings := rfl
theorem nA_X0_countSettings : nAr mX0_countSettings = 0 := by decide +kernel
theorem cod_X0_isOf : mX0_isOf.2.2.1 = cX0_isOf := rfl
theorem nA_X0_isOf : nAr mX0_isOf = 1 := by decide +kernel
theorem cod_X1_init : mX1_init.2.2.1 = cX1_init := rfl
theorem nA_X1_init : nAr mX1_init = 0 := by decide +kernel
theorem cod_X1_isThere : mX1_isThere.2.2.1 = cX1_isThere := rfl
theorem nA_X1_isThere : nAr mX1_isThere = 0 := by decide +kernel
theorem cod_X1_drop : mX1_drop.2.2.1 = cX1_drop := rfl
theorem nA_X1_drop : nAr mX1_drop = 0 := by decide +kernel
theorem cod_X1_take : mX1_take.2.2.1 = cX1_take := rfl
theorem nA_X1_take : nAr mX1_take = 3 := by decide +kernel
theorem cod_X2_init : mX2_init.2.2.1 = cX2_init := rfl
theorem nA_X2_init : nAr mX2_init = 0 := by decide +kernel
theorem cod_X2_workAll : mX2_workAll.2.2.1 = cX2_workAll := rfl
theorem nA_X2_workAll : nAr mX2_workAll = 2 := by decide +kernel
theorem cod_X2_areSound : mX2_areSound.2.2.1 = cX2_areSound := rfl
theorem nA_X2_areSound : nAr mX2_areSound = 2 := by decide +kernel
theorem cod_X2_work : mX2_work.2.2.1 = cX2_work := rfl
theorem nA_X2_work : nAr mX2_work = 3 := by decide +kernel
theorem cod_X2_multiply : mX2_multiply.2.2.1 = cX2_multiply := rfl
theorem nA_X2_multiply : nAr mX2_multiply = 3 := by decide +kernel
theorem cod_X2_divide : mX2_divide.2.2.1 = cX2_divide := rfl
theorem nA_X2_divide : nAr mX2_divide = 3 := by decide +kernel
theorem cod_X2_pass : mX2_pass.2.2.1 = cX2_pass := rfl
theorem nA_X2_pass : nAr mX2_pass = 2 := by decide +kernel
theorem cod_X2_keep : mX2_keep.2.2.1 = cX2_keep := rfl
theorem nA_X2_keep : nAr mX2_keep = 3 := by decide +kernel
theorem cod_X2_isBeyond : mX2_isBeyond.2.2.1 = cX2_isBeyond := rfl
theorem nA_X2_isBeyond : nAr mX2_isBeyond = 1 := by decide +kernel
theorem cod_X2_isWell : mX2_isWell.2.2.1 = cX2_isWell := rfl
theorem nA_X2_isWell : nAr mX2_isWell = 2 := by decide +kernel
theorem cod_X2_cut : mX2_cut.2.2.1 = cX2_cut := rfl
theorem nA_X2_cut : nAr mX2_cut = 1 := by decide +kernel
theorem cod_X2_isMultiple : mX2_isMultiple.2.2.1 = cX2_isMultiple := rfl
theorem nA_X2_isMultiple : nAr mX2_isMultiple = 3 := by decide +kernel
theorem cod_X2_sharedBy : mX2_sharedBy.2.2.1 = cX2_sharedBy := rfl
theorem nA_X2_sharedBy : nAr mX2_sharedBy = 2 := by decide +kernel
theorem cod_X3_init : mX3_init.2.2.1 = cX3_init := rfl
theorem nA_X3_init : nAr mX3_init = 0 := by decide +kernel
theorem cod_X3_findBest : mX3_findBest.2.2.1 = cX3_findBest := rfl
theorem nA_X3_findBest : nAr mX3_findBest = 3 := by decide +kernel
theorem cod_X3_findHopeless : mX3_findHopeless.2.2.1 = cX3_findHopeless := rfl
theorem nA_X3_findHopeless : nAr mX3_findHopeless = 3 := by decide +kernel
theorem cod_X3_begin : mX3_begin.2.2.1 = cX3_begin := rfl
theorem nA_X3_begin : nAr mX3_begin = 3 := by decide +kernel
theorem cod_X3_tryFrom : mX3_tryFrom.2.2.1 = cX3_tryFrom := rfl
theorem nA_X3_tryFrom : nAr mX3_tryFrom = 3 := by decide +kernel
theorem cod_X3_weigh : mX3_weigh.2.2.1 = cX3_weigh := rfl
theorem nA_X3_weigh : nAr mX3_weigh = 2 := by decide +kernel
theorem cod_X3_isOfUse : mX3_isOfUse.2.2.1 = cX3_isOfUse := rfl
theorem nA_X3_isOfUse : nAr mX3_isOfUse = 1 := by decide +kernel
theorem cod_X3_arrive : mX3_arrive.2.2.1 = cX3_arrive := rfl
theorem nA_X3_arrive : nAr mX3_arrive = 1 := by decide +kernel
theorem cod_X3_isBetter : mX3_isBetter.2.2.1 = cX3_isBetter := rfl
theorem nA_X3_isBetter : nAr mX3_isBetter = 1 := by decide +kernel
theorem cod_X4_init : mX4_init.2.2.1 = cX4_init := rfl
theorem nA_X4_init : nAr mX4_init = 0 := by decide +kernel
theorem cod_X4_isNothing : mX4_isNothing.2.2.1 = cX4_isNothing := rfl
theorem nA_X4_isNothing : nAr mX4_isNothing = 0 := by decide +kernel
theorem cod_X4_drop : mX4_drop.2.2.1 = cX4_drop := rfl
theorem nA_X4_drop : nAr mX4_drop = 0 := by decide +kernel
theorem cod_X4_renew : mX4_renew.2.2.1 = cX4_renew := rfl
theorem nA_X4_renew : nAr mX4_renew = 2 := by decide +kernel
theorem cod_X4_hasCells : mX4_hasCells.2.2.1 = cX4_hasCells := rfl
theorem nA_X4_hasCells : nAr mX4_hasCells = 2 := by decide +kernel
theorem cod_X4_cutToLane : mX4_cutToLane.2.2.1 = cX4_cutToLane := rfl
theorem nA_X4_cutToLane : nAr mX4_cutToLane = 1 := by decide +kernel
theorem cod_X4_faultAs : mX4_faultAs.2.2.1 = cX4_faultAs := rfl
theorem nA_X4_faultAs : nAr mX4_faultAs = 3 := by decide +kernel
theorem cod_X5_init : mX5_init.2.2.1 = cX5_init := rfl
theorem nA_X5_init : nAr mX5_init = 0 := by decide +kernel
theorem cod_X5_has : mX5_has.2.2.1 = cX5_has := rfl
theorem nA_X5_has : nAr mX5_has = 1 := by decide +kernel
theorem cod_X5_add : mX5_add.2.2.1 = cX5_add := rfl
theorem nA_X5_add : nAr mX5_add = 6 := by decide +kernel
theorem cod_X5_countRows : mX5_countRows.2.2.1 = cX5_countRows := rfl
theorem nA_X5_countRows : nAr mX5_countRows = 0 := by decide +kernel
theorem cod_X5_allowsAll : mX5_allowsAll.2.2.1 = cX5_allowsAll := rfl
theorem nA_X5_allowsAll : nAr mX5_allowsAll = 2 := by decide +kernel
theorem cod_X5_movesLocked : mX5_movesLocked.2.2.1 = cX5_movesLocked := rfl
theorem nA_X5_movesLocked : nAr mX5_movesLocked = 3 := by decide +kernel
theorem cod_X5_countOthers : mX5_countOthers.2.2.1 = cX5_countOthers := rfl
theorem nA_X5_countOthers : nAr mX5_countOthers = 2 := by decide +kernel
theorem cod_X6_init : mX6_init.2.2.1 = cX6_init := rfl
theorem nA_X6_init : nAr mX6_init = 0 := by decide +kernel
theorem cod_X6_isFound : mX6_isFound.2.2.1 = cX6_isFound := rfl
theorem nA_X6_isFound : nAr mX6_isFound = 0 := by decide +kernel
theorem cod_X6_drop : mX6_drop.2.2.1 = cX6_drop := rfl
theorem nA_X6_drop : nAr mX6_drop = 0 := by decide +kernel
theorem cod_X6_find : mX6_find.2.2.1 = cX6_find := rfl
theorem nA_X6_find : nAr mX6_find = 2 := by decide +kernel
theorem cod_X6_reaches : mX6_reaches.2.2.1 = cX6_reaches := rfl
theorem nA_X6_reaches : nAr mX6_reaches = 4 := by decide +kernel
theorem cod_X6_reachesBy : mX6_reachesBy.2.2.1 = cX6_reachesBy := rfl
theorem nA_X6_reachesBy : nAr mX6_reachesBy = 5 := by decide +kernel
theorem cod_X7_init : mX7_init.2.2.1 = cX7_init := rfl
theorem nA_X7_init : nAr mX7_init = 0 := by decide +kernel
theorem cod_X7_missIn : mX7_missIn.2.2.1 = cX7_missIn := rfl
theorem nA_X7_missIn : nAr mX7_missIn = 1 := by decide +kernel
theorem cod_X7_lastNode : mX7_lastNode.2.2.1 = cX7_lastNode := rfl
theorem nA_X7_lastNode : nAr mX7_lastNode = 0 := by decide +kernel
theorem cod_X8_init : mX8_init.2.2.1 = cX8_init := rfl
theorem nA_X8_init : nAr mX8_init = 0 := by decide +kernel
theorem cod_X8_has : mX8_has.2.2.1 = cX8_has := rfl
theorem nA_X8_has : nAr mX8_has = 1 := by decide +kernel
theorem cod_X8_add : mX8_add.2.2.1 = cX8_add := rfl
theorem nA_X8_add : nAr mX8_add = 6 := by decide +kernel
theorem cod_X9_init : mX9_init.2.2.1 = cX9_init := rfl
theorem nA_X9_init : nAr mX9_init = 0 := by decide +kernel
theorem cod_X9_source : mX9_source.2.2.1 = cX9_source := rfl
theorem nA_X9_source : nAr mX9_source = 1 := by decide +kernel
theorem cod_X9_stage : mX9_stage.2.2.1 = cX9_stage := rfl
theorem nA_X9_stage : nAr mX9_stage = 4 := by decide +kernel
theorem cod_X9_choice : mX9_choice.2.2.1 = cX9_choice := rfl
theorem nA_X9_choice : nAr mX9_choice = 2 := by decide +kernel
theorem cod_X9_gate : mX9_gate.2.2.1 = cX9_gate := rfl
theorem nA_X9_gate : nAr mX9_gate = 1 := by decide +kernel
theorem cod_X9_limits : mX9_limits.2.2.1 = cX9_limits := rfl
theorem nA_X9_limits : nAr mX9_limits = 3 := by decide +kernel
theorem cod_X9_set : mX9_set.2.2.1 = cX9_set := rfl
theorem nA_X9_set : nAr mX9_set = 2 := by decide +kernel
theorem cod_X9_lock : mX9_lock.2.2.1 = cX9_lock := rfl
theorem nA_X9_lock : nAr mX9_lock = 2 := by decide +kernel
theorem cod_X9_rate : mX9_rate.2.2.1 = cX9_rate := rfl
theorem nA_X9_rate : nAr mX9_rate = 2 := by decide +kernel
theorem cod_X9_about : mX9_about.2.2.1 = cX9_about := rfl
theorem nA_X9_about : nAr mX9_about = 2 := by decide +kernel
theorem cod_X9_sound : mX9_sound.2.2.1 = cX9_sound := rfl
theorem nA_X9_sound : nAr mX9_sound = 0 := by decide +kernel
theorem cod_X9_power : mX9_power.2.2.1 = cX9_power := rfl
theorem nA_X9_power : nAr mX9_power = 0 := by decide +kernel
theorem cod_X9_wish : mX9_wish.2.2.1 = cX9_wish := rfl
theorem nA_X9_wish : nAr mX9_wish = 5 := by decide +kernel
theorem cod_X9_multiple : mX9_multiple.2.2.1 = cX9_multiple := rfl
theorem nA_X9_multiple : nAr mX9_multiple = 4 := by decide +kernel
theorem cod_X9_miss : mX9_miss.2.2.1 = cX9_miss := rfl
theorem nA_X9_miss : nAr mX9_miss = 1 := by decide +kernel
theorem cod_X9_wished : mX9_wished.2.2.1 = cX9_wished := rfl
theorem nA_X9_wished : nAr mX9_wished = 2 := by decide +kernel
theorem cod_X9_search : mX9_search.2.2.1 = cX9_search := rfl
theorem nA_X9_search : nAr mX9_search = 1 := by decide +kernel
theorem cod_X9_hopeless : mX9_hopeless.2.2.1 = cX9_hopeless := rfl
theorem nA_X9_hopeless : nAr mX9_hopeless = 1 := by decide +kernel
theorem cod_X9_planned : mX9_planned.2.2.1 = cX9_planned := rfl
theorem nA_X9_planned : nAr mX9_planned = 1 := by decide +kernel
theorem cod_X9_plan : mX9_plan.2.2.1 = cX9_plan := rfl
theorem nA_X9_plan : nAr mX9_plan = 3 := by decide +kernel
theorem cod_X9_tried : mX9_tried.2.2.1 = cX9_tried := rfl
theorem nA_X9_tried : nAr mX9_tried = 0 := by decide +kernel
theorem cod_X9_change : mX9_change.2.2.1 = cX9_change := rfl
theorem nA_X9_change : nAr mX9_change = 0 := by decide +kernel
theorem cod_X9_step : mX9_step.2.2.1 = cX9_step := rfl
theorem nA_X9_step : nAr mX9_step = 1 := by decide +kernel
theorem cod_X9_go : mX9_go.2.2.1 = cX9_go := rfl
theorem nA_X9_go : nAr mX9_go = 0 := by decide +kernel
theorem cod_X9_sheet : mX9_sheet.2.2.1 = cX9_sheet := rfl
theorem nA_X9_sheet : nAr mX9_sheet = 3 := by decide +kernel
theorem cod_X9_lose : mX9_lose.2.2.1 = cX9_lose := rfl
theorem nA_X9_lose : nAr mX9_lose = 1 := by decide +kernel
theorem cod_X9_put : mX9_put.2.2.1 = cX9_put := rfl
theorem nA_X9_put : nAr mX9_put = 3 := by decide +kernel
theorem cod_X9_cell : mX9_cell.2.2.1 = cX9_cell := rfl
theorem nA_X9_cell : nAr mX9_cell = 3 := by decide +kernel
theorem cod_X9_copy : mX9_copy.2.2.1 = cX9_copy := rfl
theorem nA_X9_copy : nAr mX9_copy = 5 := by decide +kernel
theorem cod_X9_tell : mX9_tell.2.2.1 = cX9_tell := rfl
theorem nA_X9_tell : nAr mX9_tell = 1 := by decide +kernel
theorem cod_X9_spread : mX9_spread.2.2.1 = cX9_spread := rfl
theorem nA_X9_spread : nAr mX9_spread = 1 := by decide +kernel
theorem cod_X9_as : mX9_as.2.2.1 = cX9_as := rfl
theorem nA_X9_as : nAr mX9_as = 2 := by decide +kernel
theorem cod_X9_trace : mX9_trace.2.2.1 = cX9_trace := rfl
theorem nA_X9_trace : nAr mX9_trace = 0 := by decide +kernel
theorem cod_X9_fault : mX9_fault.2.2.1 = cX9_fault := rfl
theorem nA_X9_fault : nAr mX9_fault = 0 := by decide +kernel
theorem cod_X9_told : mX9_told.2.2.1 = cX9_told := rfl
theorem nA_X9_told : nAr mX9_told = 1 := by decide +kernel
theorem cod_X9_isWithin : mX9_isWithin.2.2.1 = cX9_isWithin := rfl
theorem nA_X9_isWithin : nAr mX9_isWithin = 3 := by decide +kernel
theorem cod_X9_isMode : mX9_isMode.2.2.1 = cX9_isMode := rfl
theorem nA_X9_isMode : nAr mX9_isMode = 1 := by decide +kernel
theorem cod_X9_isSheet : mX9_isSheet.2.2.1 = cX9_isSheet := rfl
theorem nA_X9_isSheet : nAr mX9_isSheet = 1 := by decide +kernel
theorem cod_X9_isLane : mX9_isLane.2.2.1 = cX9_isLane := rfl
theorem nA_X9_isLane : nAr mX9_isLane = 1 := by decide +kernel
theorem cod_X9_grow : mX9_grow.2.2.1 = cX9_grow := rfl
theorem nA_X9_grow : nAr mX9_grow = 6 := by decide +kernel
theorem cod_X9_isWellNow : mX9_isWellNow.2.2.1 = cX9_isWellNow := rfl
theorem nA_X9_isWellNow : nAr mX9_isWellNow = 1 := by decide +kernel
theorem cod_X9_countMet : mX9_countMet.2.2.1 = cX9_countMet := rfl
theorem nA_X9_countMet : nAr mX9_countMet = 0 := by decide +kernel
theorem cod_X9_fail : mX9_fail.2.2.1 = cX9_fail := rfl
theorem nA_X9_fail : nAr mX9_fail = 1 := by decide +kernel
theorem cod_X9_leave : mX9_leave.2.2.1 = cX9_leave := rfl
theorem nA_X9_leave : nAr mX9_leave = 1 := by decide +kernel
theorem cod_X9_tellChoice : mX9_tellChoice.2.2.1 = cX9_tellChoice := rfl
theorem nA_X9_tellChoice : nAr mX9_tellChoice = 1 := by decide +kernel
theorem cod_X9_spreadLent : mX9_spreadLent.2.2.1 = cX9_spreadLent := rfl
theorem nA_X9_spreadLent : nAr mX9_spreadLent = 1 := by decide +kernel
theorem cod_X10_init : mX10_init.2.2.1 = cX10_init := rfl
theorem nA_X10_init : nAr mX10_init = 0 := by decide +kernel
theorem cod_X10_in : mX10_in.2.2.1 = cX10_in := rfl
theorem nA_X10_in : nAr mX10_in = 3 := by decide +kernel
theorem cod_X10_lost : mX10_lost.2.2.1 = cX10_lost := rfl
theorem nA_X10_lost : nAr mX10_lost = 0 := by decide +kernel
theorem cod_X10_refused : mX10_refused.2.2.1 = cX10_refused := rfl
theorem nA_X10_refused : nAr mX10_refused = 1 := by decide +kernel
theorem cod_X10_failed : mX10_failed.2.2.1 = cX10_failed := rfl
theorem nA_X10_failed : nAr mX10_failed = 1 := by decide +kernel
theorem cod_X10_failedLong : mX10_failedLong.2.2.1 = cX10_failedLong := rfl
theorem nA_X10_failedLong : nAr mX10_failedLong = 1 := by decide +kernel
theorem cod_X10_common : mX10_common.2.2.1 = cX10_common := rfl
theorem nA_X10_common : nAr mX10_common = 2 := by decide +kernel
theorem cod_X10_noNode : mX10_noNode.2.2.1 = cX10_noNode := rfl
theorem nA_X10_noNode : nAr mX10_noNode = 1 := by decide +kernel
theorem cod_X10_addNode : mX10_addNode.2.2.1 = cX10_addNode := rfl
theorem nA_X10_addNode : nAr mX10_addNode = 5 := by decide +kernel
theorem cod_X10_source : mX10_source.2.2.1 = cX10_source := rfl
theorem nA_X10_source : nAr mX10_source = 1 := by decide +kernel
theorem cod_X10_stage : mX10_stage.2.2.1 = cX10_stage := rfl
theorem nA_X10_stage : nAr mX10_stage = 4 := by decide +kernel
theorem cod_X10_choice : mX10_choice.2.2.1 = cX10_choice := rfl
theorem nA_X10_choice : nAr mX10_choice = 2 := by decide +kernel
theorem cod_X10_gate : mX10_gate.2.2.1 = cX10_gate := rfl
theorem nA_X10_gate : nAr mX10_gate = 1 := by decide +kernel
theorem cod_X10_limits : mX10_limits.2.2.1 = cX10_limits := rfl
theorem nA_X10_limits : nAr mX10_limits = 3 := by decide +kernel
theorem cod_X10_set : mX10_set.2.2.1 = cX10_set := rfl
theorem nA_X10_set : nAr mX10_set = 2 := by decide +kernel
theorem cod_X10_lock : mX10_lock.2.2.1 = cX10_lock := rfl
theorem nA_X10_lock : nAr mX10_lock = 2 := by decide +kernel
theorem cod_X10_become : mX10_become.2.2.1 = cX10_become := rfl
theorem nA_X10_become : nAr mX10_become = 3 := by decide +kernel
theorem cod_X10_follow : mX10_follow.2.2.1 = cX10_follow := rfl
theorem nA_X10_follow : nAr mX10_follow = 2 := by decide +kernel
theorem cod_X10_work : mX10_work.2.2.1 = cX10_work := rfl
theorem nA_X10_work : nAr mX10_work = 1 := by decide +kernel
theorem cod_X10_workFrom : mX10_workFrom.2.2.1 = cX10_workFrom := rfl
theorem nA_X10_workFrom : nAr mX10_workFrom = 1 := by decide +kernel
theorem cod_X10_layAll : mX10_layAll.2.2.1 = cX10_layAll := rfl
theorem nA_X10_layAll : nAr mX10_layAll = 0 := by decide +kernel
theorem cod_X10_isWell : mX10_isWell.2.2.1 = cX10_isWell := rfl
theorem nA_X10_isWell : nAr mX10_isWell = 1 := by decide +kernel
theorem cod_X10_isSound : mX10_isSound.2.2.1 = cX10_isSound := rfl
theorem nA_X10_isSound : nAr mX10_isSound = 0 := by decide +kernel
theorem cod_X10_rate : mX10_rate.2.2.1 = cX10_rate := rfl
theorem nA_X10_rate : nAr mX10_rate = 2 := by decide +kernel
theorem cod_X10_about : mX10_about.2.2.1 = cX10_about := rfl
theorem nA_X10_about : nAr mX10_about = 2 := by decide +kernel
theorem cod_X10_sound : mX10_sound.2.2.1 = cX10_sound := rfl
theorem nA_X10_sound : nAr mX10_sound = 0 := by decide +kernel
theorem cod_X10_powerOf : mX10_powerOf.2.2.1 = cX10_powerOf := rfl
theorem nA_X10_powerOf : nAr mX10_powerOf = 0 := by decide +kernel
theorem cod_X10_power : mX10_power.2.2.1 = cX10_power := rfl
theorem nA_X10_power : nAr mX10_power = 0 := by decide +kernel
theorem cod_X10_noMode : mX10_noMode.2.2.1 = cX10_noMode := rfl
theorem nA_X10_noMode : nAr mX10_noMode = 1 := by decide +kernel
theorem cod_X10_noWish : mX10_noWish.2.2.1 = cX10_noWish := rfl
theorem nA_X10_noWish : nAr mX10_noWish = 1 := by decide +kernel
theorem cod_X10_addWish : mX10_addWish.2.2.1 = cX10_addWish := rfl
theorem nA_X10_addWish : nAr mX10_addWish = 6 := by decide +kernel
theorem cod_X10_wish : mX10_wish.2.2.1 = cX10_wish := rfl
theorem nA_X10_wish : nAr mX10_wish = 5 := by decide +kernel
theorem cod_X10_multiple : mX10_multiple.2.2.1 = cX10_multiple := rfl
theorem nA_X10_multiple : nAr mX10_multiple = 4 := by decide +kernel
theorem cod_X10_missOf : mX10_missOf.2.2.1 = cX10_missOf := rfl
theorem nA_X10_missOf : nAr mX10_missOf = 1 := by decide +kernel
theorem cod_X10_miss : mX10_miss.2.2.1 = cX10_miss := rfl
theorem nA_X10_miss : nAr mX10_miss = 1 := by decide +kernel
theorem cod_X10_wished : mX10_wished.2.2.1 = cX10_wished := rfl
theorem nA_X10_wished : nAr mX10_wished = 2 := by decide +kernel
theorem cod_X10_rows : mX10_rows.2.2.1 = cX10_rows := rfl
theorem nA_X10_rows : nAr mX10_rows = 0 := by decide +kernel
theorem cod_X10_layFirst : mX10_layFirst.2.2.1 = cX10_layFirst := rfl
theorem nA_X10_layFirst : nAr mX10_layFirst = 0 := by decide +kernel
theorem cod_X10_goesOn : mX10_goesOn.2.2.1 = cX10_goesOn := rfl
theorem nA_X10_goesOn : nAr mX10_goesOn = 0 := by decide +kernel
theorem cod_X10_judge : mX10_judge.2.2.1 = cX10_judge := rfl
theorem nA_X10_judge : nAr mX10_judge = 1 := by decide +kernel
theorem cod_X10_search : mX10_search.2.2.1 = cX10_search := rfl
theorem nA_X10_search : nAr mX10_search = 1 := by decide +kernel
theorem cod_X10_hopeless : mX10_hopeless.2.2.1 = cX10_hopeless := rfl
theorem nA_X10_hopeless : nAr mX10_hopeless = 1 := by decide +kernel
theorem cod_X10_planned : mX10_planned.2.2.1 = cX10_planned := rfl
theorem nA_X10_planned : nAr mX10_planned = 1 := by decide +kernel
theorem cod_X10_tried : mX10_tried.2.2.1 = cX10_tried := rfl
theorem nA_X10_tried : nAr mX10_tried = 0 := by decide +kernel
theorem cod_X10_noSheet : mX10_noSheet.2.2.1 = cX10_noSheet := rfl
theorem nA_X10_noSheet : nAr mX10_noSheet = 1 := by decide +kernel
theorem cod_X10_sheet : mX10_sheet.2.2.1 = cX10_sheet := rfl
theorem nA_X10_sheet : nAr mX10_sheet = 3 := by decide +kernel
theorem cod_X10_lose : mX10_lose.2.2.1 = cX10_lose := rfl
theorem nA_X10_lose : nAr mX10_lose = 1 := by decide +kernel
theorem cod_X10_noCell : mX10_noCell.2.2.1 = cX10_noCell := rfl
theorem nA_X10_noCell : nAr mX10_noCell = 2 := by decide +kernel
theorem cod_X10_put : mX10_put.2.2.1 = cX10_put := rfl
theorem nA_X10_put : nAr mX10_put = 3 := by decide +kernel
theorem cod_X10_cell : mX10_cell.2.2.1 = cX10_cell := rfl
theorem nA_X10_cell : nAr mX10_cell = 3 := by decide +kernel
theorem cod_X10_isBeyond : mX10_isBeyond.2.2.1 = cX10_isBeyond := rfl
theorem nA_X10_isBeyond : nAr mX10_isBeyond = 3 := by decide +kernel
theorem cod_X10_copy : mX10_copy.2.2.1 = cX10_copy := rfl
theorem nA_X10_copy : nAr mX10_copy = 5 := by decide +kernel
theorem cod_X10_refusalOf : mX10_refusalOf.2.2.1 = cX10_refusalOf := rfl
theorem nA_X10_refusalOf : nAr mX10_refusalOf = 1 := by decide +kernel
theorem cod_X10_plan : mX10_plan.2.2.1 = cX10_plan := rfl
theorem nA_X10_plan : nAr mX10_plan = 3 := by decide +kernel
theorem cod_X10_isSoundWith : mX10_isSoundWith.2.2.1 = cX10_isSoundWith := rfl
theorem nA_X10_isSoundWith : nAr mX10_isSoundWith = 1 := by decide +kernel
theorem cod_X10_countOthers : mX10_countOthers.2.2.1 = cX10_countOthers := rfl
theorem nA_X10_countOthers : nAr mX10_countOthers = 0 := by decide +kernel
theorem cod_X10_isOtherLocked : mX10_isOtherLocked.2.2.1 = cX10_isOtherLocked := rfl
theorem nA_X10_isOtherLocked : nAr mX10_isOtherLocked = 0 := by decide +kernel
theorem cod_X10_findLeads : mX10_findLeads.2.2.1 = cX10_findLeads := rfl
theorem nA_X10_findLeads : nAr mX10_findLeads = 0 := by decide +kernel
theorem cod_X10_change : mX10_change.2.2.1 = cX10_change := rfl
theorem nA_X10_change : nAr mX10_change = 0 := by decide +kernel
theorem cod_X10_step : mX10_step.2.2.1 = cX10_step := rfl
theorem nA_X10_step : nAr mX10_step = 1 := by decide +kernel
theorem cod_X10_go : mX10_go.2.2.1 = cX10_go := rfl
theorem nA_X10_go : nAr mX10_go = 0 := by decide +kernel
theorem cod_X10_traced : mX10_traced.2.2.1 = cX10_traced := rfl
theorem nA_X10_traced : nAr mX10_traced = 1 := by decide +kernel
theorem cod_X10_tell : mX10_tell.2.2.1 = cX10_tell := rfl
theorem nA_X10_tell : nAr mX10_tell = 1 := by decide +kernel
theorem cod_X10_spread : mX10_spread.2.2.1 = cX10_spread := rfl
theorem nA_X10_spread : nAr mX10_spread = 1 := by decide +kernel
theorem cod_X10_as : mX10_as.2.2.1 = cX10_as := rfl
theorem nA_X10_as : nAr mX10_as = 2 := by decide +kernel
theorem cod_X10_trace : mX10_trace.2.2.1 = cX10_trace := rfl
theorem nA_X10_trace : nAr mX10_trace = 0 := by decide +kernel
theorem cod_X10_fault : mX10_fault.2.2.1 = cX10_fault := rfl
theorem nA_X10_fault : nAr mX10_fault = 0 := by decide +kernel
theorem cod_X10_told : mX10_told.2.2.1 = cX10_told := rfl
theorem nA_X10_told : nAr mX10_told = 1 := by decide +kernel
