/-! LINKS: by program out of the claim's tables and decode rows -/
theorem q_in0 : ∀ w ∈ u_ws RX0 TX0 3, w ∈ q_W0 := by decide +kernel
theorem q_in1 : ∀ w ∈ u_ws RX1 TX1 3, w ∈ q_W0 := by decide +kernel
theorem q_in2 : ∀ w ∈ u_ws RX2 TX2 4, w ∈ q_W0 := by decide +kernel
theorem q_in3 : ∀ w ∈ u_ws RX3 TX3 5, w ∈ q_W0 := by decide +kernel
theorem q_in4 : ∀ w ∈ u_ws RX4 TX4 3, w ∈ q_W0 := by decide +kernel
theorem q_in5 : ∀ w ∈ u_ws RX5 TX5 5, w ∈ q_W0 := by decide +kernel
theorem q_in6 : ∀ w ∈ u_ws RX6 TX6 3, w ∈ q_W0 := by decide +kernel
theorem q_in7 : ∀ w ∈ u_ws RX7 TX7 3, w ∈ q_W0 := by decide +kernel
theorem q_in8 : ∀ w ∈ u_ws RX8 TX8 2, w ∈ q_W0 := by decide +kernel
theorem q_in9 : ∀ w ∈ u_ws RX9 TX9 12, w ∈ q_W0 := by decide +kernel
theorem q_in10 : ∀ w ∈ u_ws RX10 TX10 14, w ∈ q_W0 := by decide +kernel
def mX0_init : q_M := (1, none, true, [], { frames := 1, cells := 0, slots := 0, locals := 22 })
def mX0_follow : q_M := (8, none, false, [], { frames := 0, cells := 0, slots := 0, locals := 0 })
def mX1_init : q_M := (2, none, true, [], { frames := 4, cells := 787, slots := 5748, locals := 83 })
def mX1_keep : q_M := (2, none, false, [], { frames := 4, cells := 0, slots := 0, locals := 104 })
def mX1_takeBack : q_M := (2, none, false, [], { frames := 4, cells := 0, slots := 0, locals := 104 })
def mX1_forget : q_M := (1, none, false, [], { frames := 0, cells := 0, slots := 0, locals := 0 })
def mX2_init : q_M := (1, none, true, [], { frames := 1, cells := 1, slots := 28, locals := 22 })
def mX2_copyFrom : q_M := (2, none, false, [], { frames := 1, cells := 0, slots := 0, locals := 40 })
def mX2_start : q_M := (2, none, false, [], { frames := 0, cells := 0, slots := 0, locals := 0 })
def mX2_append : q_M := (2, none, false, [], { frames := 0, cells := 0, slots := 0, locals := 0 })
def mX3_init : q_M := (1, none, true, [], { frames := 1, cells := 2, slots := 16, locals := 22 })
def mX3_copyFrom : q_M := (2, none, false, [], { frames := 1, cells := 0, slots := 0, locals := 40 })
def mX3_comesBefore : q_M := (2, some (.boolean), false, [], { frames := 0, cells := 0, slots := 0, locals := 0 })
def mX3_append : q_M := (3, none, false, [], { frames := 0, cells := 0, slots := 0, locals := 0 })
def mX3_length : q_M := (3, some (.int), false, [], { frames := 0, cells := 0, slots := 0, locals := 0 })
def mX3_fillMinutes : q_M := (6, some (.int), false, [], { frames := 0, cells := 0, slots := 0, locals := 0 })
def mX4_init : q_M := (2, none, true, [], { frames := 2, cells := 121, slots := 880, locals := 42 })
def mX4_copyFrom : q_M := (3, none, false, [], { frames := 2, cells := 0, slots := 0, locals := 61 })
def mX4_positionWithId : q_M := (3, some (.int), false, [], { frames := 0, cells := 0, slots := 0, locals := 0 })
def mX4_anyOn : q_M := (3, some (.boolean), false, [], { frames := 0, cells := 0, slots := 0, locals := 0 })
def mX4_hasLength : q_M := (3, some (.boolean), false, [], { frames := 1, cells := 0, slots := 0, locals := 22 })
def mX4_add : q_M := (3, some (.int), false, [], { frames := 2, cells := 0, slots := 0, locals := 44 })
def mX4_moveAt : q_M := (4, some (.int), false, [], { frames := 2, cells := 0, slots := 0, locals := 44 })
def mX4_removeAt : q_M := (4, some (.int), false, [], { frames := 0, cells := 0, slots := 0, locals := 0 })
def mX4_settle : q_M := (4, none, false, [], { frames := 1, cells := 0, slots := 0, locals := 21 })
def mX5_init : q_M := (1, none, true, [], { frames := 3, cells := 130, slots := 952, locals := 63 })
def mX5_copyFrom : q_M := (2, none, false, [], { frames := 3, cells := 0, slots := 0, locals := 83 })
def mX5_addZoneMinutes : q_M := (5, none, false, [], { frames := 1, cells := 0, slots := 0, locals := 24 })
def mX5_sessionLoad : q_M := (6, some (.int), false, [], { frames := 1, cells := 0, slots := 0, locals := 24 })
def mX5_fillSessionLoads : q_M := (3, none, false, [], { frames := 2, cells := 0, slots := 0, locals := 49 })
def mX5_countChangedLoads : q_M := (4, some (.int), false, [], { frames := 2, cells := 0, slots := 0, locals := 49 })
def mX5_fillDayLoads : q_M := (4, none, false, [], { frames := 2, cells := 0, slots := 0, locals := 49 })
def mX6_init : q_M := (1, none, true, [], { frames := 1, cells := 2, slots := 20, locals := 22 })
def mX6_copyFrom : q_M := (2, none, false, [], { frames := 1, cells := 0, slots := 0, locals := 40 })
def mX6_positionOn : q_M := (3, some (.int), false, [], { frames := 0, cells := 0, slots := 0, locals := 0 })
def mX6_thresholdInForce : q_M := (5, some (.int), false, [], { frames := 0, cells := 0, slots := 0, locals := 0 })
def mX6_append : q_M := (3, none, false, [], { frames := 0, cells := 0, slots := 0, locals := 0 })
def mX6_removeAt : q_M := (2, none, false, [], { frames := 0, cells := 0, slots := 0, locals := 0 })
def mX7_init : q_M := (1, none, true, [], { frames := 1, cells := 2, slots := 400, locals := 22 })
def mX7_forgetFrom : q_M := (2, none, false, [], { frames := 1, cells := 0, slots := 0, locals := 21 })
def mX7_fitnessBefore : q_M := (2, some (.int), false, [], { frames := 0, cells := 0, slots := 0, locals := 0 })
def mX7_fatigueBefore : q_M := (2, some (.int), false, [], { frames := 0, cells := 0, slots := 0, locals := 0 })
def mX8_init : q_M := (1, none, true, [], { frames := 1, cells := 2, slots := 12, locals := 24 })
def mX8_copyFrom : q_M := (2, none, false, [], { frames := 1, cells := 0, slots := 0, locals := 40 })
def mX8_boundsWouldIncrease : q_M := (5, some (.boolean), false, [], { frames := 0, cells := 0, slots := 0, locals := 0 })
def mX8_zoneFor : q_M := (4, some (.int), false, [], { frames := 0, cells := 0, slots := 0, locals := 0 })
def mX9_init : q_M := (1, none, true, [], { frames := 5, cells := 1059, slots := 8571, locals := 104 })
def mX9_pass : q_M := (2, some (.int), false, [], { frames := 7, cells := 2, slots := 12, locals := 125 })
def mX9_today : q_M := (1, some (.int), false, [], { frames := 0, cells := 0, slots := 0, locals := 0 })
def mX9_addTest : q_M := (4, some (.int), false, [], { frames := 8, cells := 3, slots := 18, locals := 135 })
def mX9_removeTest : q_M := (4, some (.int), false, [], { frames := 6, cells := 1, slots := 6, locals := 125 })
def mX9_testCount : q_M := (1, some (.int), false, [], { frames := 0, cells := 0, slots := 0, locals := 0 })
def mX9_thresholdOn : q_M := (2, some (.int), false, [], { frames := 7, cells := 1, slots := 6, locals := 114 })
def mX9_setBound : q_M := (4, some (.int), false, [], { frames := 7, cells := 3, slots := 18, locals := 125 })
def mX9_boundOf : q_M := (2, some (.int), false, [], { frames := 7, cells := 1, slots := 6, locals := 114 })
def mX9_setWeight : q_M := (4, some (.int), false, [], { frames := 8, cells := 2, slots := 12, locals := 134 })
def mX9_weightOf : q_M := (2, some (.int), false, [], { frames := 8, cells := 1, slots := 6, locals := 134 })
def mX9_zoneOf : q_M := (3, some (.int), false, [], { frames := 7, cells := 2, slots := 12, locals := 114 })
def mX9_addSession : q_M := (2, some (.int), false, [], { frames := 8, cells := 2, slots := 12, locals := 135 })
def mX9_addPart : q_M := (5, some (.int), false, [], { frames := 8, cells := 4, slots := 24, locals := 135 })
def mX9_clearParts : q_M := (4, some (.int), false, [], { frames := 8, cells := 1, slots := 6, locals := 135 })
def mX9_moveSession : q_M := (5, some (.int), false, [], { frames := 8, cells := 2, slots := 12, locals := 135 })
def mX9_removeSession : q_M := (4, some (.int), false, [], { frames := 7, cells := 1, slots := 6, locals := 125 })
def mX9_sessionCount : q_M := (1, some (.int), false, [], { frames := 0, cells := 0, slots := 0, locals := 0 })
def mX9_sessionAt : q_M := (2, some (.int), false, [], { frames := 6, cells := 1, slots := 6, locals := 92 })
def mX9_dayOf : q_M := (2, some (.int), false, [], { frames := 8, cells := 1, slots := 6, locals := 135 })
def mX9_minutesOf : q_M := (2, some (.int), false, [], { frames := 8, cells := 1, slots := 6, locals := 135 })
def mX9_minutesInZone : q_M := (4, some (.int), false, [], { frames := 8, cells := 2, slots := 12, locals := 135 })
def mX9_loadOf : q_M := (2, some (.int), false, [], { frames := 8, cells := 1, slots := 6, locals := 135 })
def mX9_loadOn : q_M := (2, some (.int), false, [], { frames := 8, cells := 1, slots := 6, locals := 135 })
def mX9_zoneShare : q_M := (5, some (.float), false, [], { frames := 8, cells := 2, slots := 12, locals := 134 })
def mX9_meanLoad : q_M := (1, some (.double), false, [], { frames := 3, cells := 0, slots := 0, locals := 72 })
def mX9_fitnessOn : q_M := (2, some (.int), false, [], { frames := 8, cells := 1, slots := 6, locals := 135 })
def mX9_fitnessFromStart : q_M := (4, some (.int), false, [], { frames := 8, cells := 1, slots := 6, locals := 135 })
def mX9_fatigueOn : q_M := (2, some (.int), false, [], { frames := 8, cells := 1, slots := 6, locals := 135 })
def mX9_fatigueFromStart : q_M := (4, some (.int), false, [], { frames := 8, cells := 1, slots := 6, locals := 135 })
def mX9_formOn : q_M := (2, some (.int), false, [], { frames := 8, cells := 1, slots := 6, locals := 135 })
def mX9_bestFormDay : q_M := (5, some (.int), false, [], { frames := 4, cells := 0, slots := 0, locals := 94 })
def mX9_daysToForm : q_M := (5, some (.int), false, [], { frames := 7, cells := 2, slots := 12, locals := 114 })
def mX9_bestDays : q_M := (3, some (.int), false, [], { frames := 8, cells := 2, slots := 12, locals := 135 })
def mX9_bestDaysByTrying : q_M := (4, some (.int), false, [], { frames := 8, cells := 2, slots := 12, locals := 135 })
def mX9_bestDaysStart : q_M := (2, some (.int), false, [], { frames := 8, cells := 2, slots := 12, locals := 135 })
def mX9_bestEffort : q_M := (3, some (.int), false, [], { frames := 9, cells := 2, slots := 12, locals := 160 })
def mX9_bestEffortByTrying : q_M := (4, some (.int), false, [], { frames := 8, cells := 2, slots := 12, locals := 135 })
def mX9_bestEffortSession : q_M := (3, some (.int), false, [], { frames := 9, cells := 2, slots := 12, locals := 160 })
def mX9_startPlan : q_M := (2, some (.int), false, [], { frames := 5, cells := 0, slots := 0, locals := 125 })
def mX9_addTarget : q_M := (3, some (.int), false, [], { frames := 7, cells := 2, slots := 12, locals := 125 })
def mX9_targetAt : q_M := (2, some (.int), false, [], { frames := 6, cells := 1, slots := 6, locals := 92 })
def mX9_dueEntry : q_M := (1, some (.int), false, [], { frames := 7, cells := 1, slots := 6, locals := 112 })
def mX9_missedDays : q_M := (1, some (.int), false, [], { frames := 4, cells := 0, slots := 0, locals := 92 })
def mX9_droppedEntries : q_M := (1, some (.int), false, [], { frames := 4, cells := 0, slots := 0, locals := 92 })
def mX9_planEnd : q_M := (2, some (.int), false, [], { frames := 7, cells := 1, slots := 6, locals := 112 })
def mX9_isPlanOver : q_M := (1, some (.boolean), false, [], { frames := 4, cells := 0, slots := 0, locals := 92 })
def mX9_writeWeek : q_M := (3, some (.int), false, [], { frames := 8, cells := 1, slots := 6, locals := 135 })
def mX9_lineAt : q_M := (2, some (.char), false, [], { frames := 6, cells := 1, slots := 6, locals := 92 })
def mX9_undo : q_M := (1, some (.int), false, [], { frames := 6, cells := 1, slots := 6, locals := 125 })
def mX9_save : q_M := (1, some (.int), false, [], { frames := 4, cells := 0, slots := 0, locals := 104 })
def mX9_restore : q_M := (1, some (.int), false, [], { frames := 6, cells := 1, slots := 6, locals := 104 })
def mX9_requireRange : q_M := (3, none, false, [], { frames := 6, cells := 1, slots := 6, locals := 92 })
def mX9_requireZone : q_M := (1, none, false, [], { frames := 7, cells := 1, slots := 6, locals := 114 })
def mX9_requireDayUpToToday : q_M := (2, none, false, [], { frames := 7, cells := 1, slots := 6, locals := 114 })
def mX9_requireRowOfDays : q_M := (2, none, false, [], { frames := 7, cells := 2, slots := 12, locals := 114 })
def mX9_requireRowOfMinutes : q_M := (2, none, false, [], { frames := 7, cells := 2, slots := 12, locals := 114 })
def mX9_existingPosition : q_M := (3, some (.int), false, [], { frames := 6, cells := 1, slots := 6, locals := 92 })
def mX9_existingSession : q_M := (2, some (.object "TrainingDiary$Session"), false, [], { frames := 7, cells := 1, slots := 6, locals := 114 })
def mX9_clear : q_M := (2, none, false, [], { frames := 0, cells := 0, slots := 0, locals := 0 })
def mX9_sumOfLoads : q_M := (5, some (.int), false, [], { frames := 0, cells := 0, slots := 0, locals := 0 })
def mX9_nextFitness : q_M := (2, some (.int), false, [], { frames := 0, cells := 0, slots := 0, locals := 0 })
def mX9_nextFatigue : q_M := (2, some (.int), false, [], { frames := 0, cells := 0, slots := 0, locals := 0 })
def mX9_learnTrend : q_M := (3, none, false, [], { frames := 3, cells := 0, slots := 0, locals := 72 })
def mX9_startOfBestDays : q_M := (6, some (.int), false, [], { frames := 3, cells := 0, slots := 0, locals := 72 })
def mX9_positionOfBestEffort : q_M := (6, some (.int), false, [], { frames := 8, cells := 2, slots := 12, locals := 135 })
def mX9_effortBySums : q_M := (7, some (.int), false, [], { frames := 1, cells := 0, slots := 0, locals := 25 })
def mX9_effortByTrying : q_M := (8, some (.int), false, [], { frames := 1, cells := 0, slots := 0, locals := 25 })
def mX9_followPlan : q_M := (1, none, false, [], { frames := 3, cells := 0, slots := 0, locals := 72 })
def mX9_existingDueEntry : q_M := (1, some (.int), false, [], { frames := 6, cells := 1, slots := 6, locals := 92 })
def mX9_signOfDay : q_M := (4, some (.char), false, [], { frames := 2, cells := 0, slots := 0, locals := 48 })
def mX10_init : q_M := (2, none, true, [], { frames := 1, cells := 12, slots := 6865, locals := 22 })
def mX10_thrown : q_M := (1, some (.int), false, [], { frames := 0, cells := 0, slots := 0, locals := 0 })
def mX10_isIn : q_M := (3, some (.boolean), false, [], { frames := 0, cells := 0, slots := 0, locals := 0 })
def mX10_isThrown : q_M := (3, some (.boolean), false, [], { frames := 0, cells := 0, slots := 0, locals := 0 })
def mX10_keeps : q_M := (2, none, false, [], { frames := 1, cells := 0, slots := 0, locals := 21 })
def mX10_isNoDay : q_M := (2, some (.boolean), false, [], { frames := 1, cells := 0, slots := 0, locals := 22 })
def mX10_pass : q_M := (2, some (.int), false, [], { frames := 2, cells := 0, slots := 0, locals := 42 })
def mX10_today : q_M := (1, some (.int), false, [], { frames := 0, cells := 0, slots := 0, locals := 0 })
def mX10_testOn : q_M := (4, some (.int), false, [], { frames := 0, cells := 0, slots := 0, locals := 0 })
def mX10_addTest : q_M := (7, some (.int), false, [], { frames := 4, cells := 0, slots := 0, locals := 94 })
def mX10_removeTest : q_M := (4, some (.int), false, [], { frames := 2, cells := 0, slots := 0, locals := 42 })
def mX10_testCount : q_M := (1, some (.int), false, [], { frames := 0, cells := 0, slots := 0, locals := 0 })
def mX10_threshold : q_M := (5, some (.int), false, [], { frames := 0, cells := 0, slots := 0, locals := 0 })
def mX10_thresholdOn : q_M := (2, some (.int), false, [], { frames := 1, cells := 0, slots := 0, locals := 24 })
def mX10_setBound : q_M := (4, some (.int), false, [], { frames := 2, cells := 0, slots := 0, locals := 42 })
def mX10_boundOf : q_M := (2, some (.int), false, [], { frames := 1, cells := 0, slots := 0, locals := 22 })
def mX10_setWeight : q_M := (4, some (.int), false, [], { frames := 2, cells := 0, slots := 0, locals := 42 })
def mX10_weightOf : q_M := (2, some (.int), false, [], { frames := 1, cells := 0, slots := 0, locals := 22 })
def mX10_zone : q_M := (6, some (.int), false, [], { frames := 1, cells := 0, slots := 0, locals := 24 })
def mX10_zoneOf : q_M := (3, some (.int), false, [], { frames := 2, cells := 0, slots := 0, locals := 49 })
def mX10_at : q_M := (2, some (.int), false, [], { frames := 0, cells := 0, slots := 0, locals := 0 })
def mX10_place : q_M := (4, some (.int), false, [], { frames := 1, cells := 0, slots := 0, locals := 21 })
def mX10_minutes : q_M := (4, some (.int), false, [], { frames := 1, cells := 0, slots := 0, locals := 21 })
def mX10_zones : q_M := (3, none, false, [], { frames := 2, cells := 0, slots := 0, locals := 49 })
def mX10_noZones : q_M := (2, none, false, [], { frames := 0, cells := 0, slots := 0, locals := 0 })
def mX10_loadAt : q_M := (4, some (.int), false, [], { frames := 3, cells := 0, slots := 0, locals := 71 })
def mX10_addSession : q_M := (3, some (.int), false, [], { frames := 2, cells := 0, slots := 0, locals := 43 })
def mX10_addPart : q_M := (6, some (.int), false, [], { frames := 2, cells := 0, slots := 0, locals := 44 })
def mX10_isNoSession : q_M := (2, some (.boolean), false, [], { frames := 2, cells := 0, slots := 0, locals := 44 })
def mX10_clearParts : q_M := (3, some (.int), false, [], { frames := 3, cells := 0, slots := 0, locals := 65 })
def mX10_moveSession : q_M := (4, some (.int), false, [], { frames := 3, cells := 0, slots := 0, locals := 65 })
def mX10_removeSession : q_M := (3, some (.int), false, [], { frames := 3, cells := 0, slots := 0, locals := 65 })
def mX10_sessionCount : q_M := (1, some (.int), false, [], { frames := 0, cells := 0, slots := 0, locals := 0 })
def mX10_ranked : q_M := (7, some (.int), false, [], { frames := 1, cells := 0, slots := 0, locals := 21 })
def mX10_sessionAt : q_M := (2, some (.int), false, [], { frames := 2, cells := 0, slots := 0, locals := 47 })
def mX10_dayOf : q_M := (2, some (.int), false, [], { frames := 3, cells := 0, slots := 0, locals := 65 })
def mX10_minutesOf : q_M := (2, some (.int), false, [], { frames := 3, cells := 0, slots := 0, locals := 65 })
def mX10_minutesInZone : q_M := (3, some (.int), false, [], { frames := 3, cells := 0, slots := 0, locals := 71 })
def mX10_loadOf : q_M := (2, some (.int), false, [], { frames := 4, cells := 0, slots := 0, locals := 94 })
def mX10_loads : q_M := (2, none, false, [], { frames := 4, cells := 0, slots := 0, locals := 94 })
def mX10_loadOn : q_M := (2, some (.int), false, [], { frames := 5, cells := 0, slots := 0, locals := 115 })
def mX10_zoneShare : q_M := (4, some (.float), false, [], { frames := 3, cells := 0, slots := 0, locals := 71 })
def mX10_meanLoad : q_M := (3, some (.double), false, [], { frames := 5, cells := 0, slots := 0, locals := 115 })
def mX10_decayed : q_M := (5, some (.int), false, [], { frames := 0, cells := 0, slots := 0, locals := 0 })
def mX10_form : q_M := (2, some (.int), false, [], { frames := 1, cells := 0, slots := 0, locals := 24 })
def mX10_fitnessOn : q_M := (2, some (.int), false, [], { frames := 5, cells := 0, slots := 0, locals := 115 })
def mX10_fitnessFromStart : q_M := (2, some (.int), false, [], { frames := 6, cells := 0, slots := 0, locals := 136 })
def mX10_fatigueOn : q_M := (2, some (.int), false, [], { frames := 5, cells := 0, slots := 0, locals := 115 })
def mX10_fatigueFromStart : q_M := (2, some (.int), false, [], { frames := 6, cells := 0, slots := 0, locals := 136 })
def mX10_formOn : q_M := (2, some (.int), false, [], { frames := 5, cells := 0, slots := 0, locals := 115 })
def mX10_bestFormDay : q_M := (3, some (.int), false, [], { frames := 5, cells := 0, slots := 0, locals := 115 })
def mX10_daysToForm : q_M := (4, some (.int), false, [], { frames := 5, cells := 0, slots := 0, locals := 115 })
def mX10_row : q_M := (5, some (.int), false, [], { frames := 0, cells := 0, slots := 0, locals := 0 })
def mX10_isNoRow : q_M := (2, some (.boolean), false, [], { frames := 1, cells := 0, slots := 0, locals := 22 })
def mX10_bestRow : q_M := (4, some (.int), false, [], { frames := 5, cells := 0, slots := 0, locals := 115 })
def mX10_bestDays : q_M := (2, some (.int), false, [], { frames := 6, cells := 0, slots := 0, locals := 138 })
def mX10_bestDaysByTrying : q_M := (2, some (.int), false, [], { frames := 7, cells := 0, slots := 0, locals := 159 })
def mX10_bestDaysStart : q_M := (2, some (.int), false, [], { frames := 6, cells := 0, slots := 0, locals := 138 })
def mX10_intensity : q_M := (5, some (.int), false, [], { frames := 1, cells := 0, slots := 0, locals := 21 })
def mX10_effort : q_M := (7, some (.int), false, [], { frames := 2, cells := 0, slots := 0, locals := 45 })
def mX10_strongest : q_M := (6, some (.int), false, [], { frames := 3, cells := 0, slots := 0, locals := 71 })
def mX10_isNoEffort : q_M := (2, some (.boolean), false, [], { frames := 4, cells := 0, slots := 0, locals := 96 })
def mX10_bestEffort : q_M := (2, some (.int), false, [], { frames := 5, cells := 0, slots := 0, locals := 117 })
def mX10_bestEffortByTrying : q_M := (2, some (.int), false, [], { frames := 6, cells := 0, slots := 0, locals := 138 })
def mX10_bestEffortSession : q_M := (2, some (.int), false, [], { frames := 5, cells := 0, slots := 0, locals := 117 })
def mX10_startPlan : q_M := (2, some (.int), false, [], { frames := 2, cells := 0, slots := 0, locals := 42 })
def mX10_addTarget : q_M := (2, some (.int), false, [], { frames := 2, cells := 0, slots := 0, locals := 42 })
def mX10_targetAt : q_M := (2, some (.int), false, [], { frames := 1, cells := 0, slots := 0, locals := 22 })
def mX10_goes : q_M := (4, some (.boolean), false, [], { frames := 5, cells := 0, slots := 0, locals := 115 })
def mX10_dueEntry : q_M := (1, some (.int), false, [], { frames := 6, cells := 0, slots := 0, locals := 138 })
def mX10_missedDays : q_M := (2, some (.int), false, [], { frames := 6, cells := 0, slots := 0, locals := 138 })
def mX10_droppedEntries : q_M := (2, some (.int), false, [], { frames := 6, cells := 0, slots := 0, locals := 138 })
def mX10_planEnd : q_M := (1, some (.int), false, [], { frames := 6, cells := 0, slots := 0, locals := 138 })
def mX10_isPlanOver : q_M := (1, some (.boolean), false, [], { frames := 6, cells := 0, slots := 0, locals := 138 })
def mX10_told : q_M := (6, some (.char), false, [], { frames := 3, cells := 0, slots := 0, locals := 71 })
def mX10_writeWeek : q_M := (3, some (.int), false, [], { frames := 4, cells := 0, slots := 0, locals := 96 })
def mX10_lineAt : q_M := (2, some (.char), false, [], { frames := 1, cells := 0, slots := 0, locals := 22 })
def mX10_undo : q_M := (2, some (.int), false, [], { frames := 1, cells := 0, slots := 0, locals := 22 })
def mX10_save : q_M := (2, some (.int), false, [], { frames := 0, cells := 0, slots := 0, locals := 0 })
def mX10_restore : q_M := (2, some (.int), false, [], { frames := 1, cells := 0, slots := 0, locals := 22 })
-- L_pass: room 8 2 12 146
-- L_addTest: room 9 3 18 158
-- L_removeTest: room 7 1 6 148
-- L_thresholdOn: room 8 1 6 135
-- L_setBound: room 8 3 18 148
-- L_boundOf: room 8 1 6 135
-- L_setWeight: room 9 2 12 157
-- L_weightOf: room 9 1 6 155
-- L_zoneOf: room 8 2 12 136
-- L_addSession: room 9 2 12 156
-- L_addPart: room 9 4 24 159
-- L_clearParts: room 9 1 6 158
-- L_moveSession: room 9 2 12 159
-- L_removeSession: room 8 1 6 148
-- L_sessionAt: room 7 1 6 113
-- L_dayOf: room 9 1 6 156
-- L_minutesOf: room 9 1 6 156
-- L_minutesInZone: room 9 2 12 158
-- L_loadOf: room 9 1 6 156
-- L_loadOn: room 9 1 6 156
-- L_zoneShare: room 9 2 12 158
-- L_fitnessOn: room 9 1 6 156
-- L_fitnessFromStart: room 9 1 6 158
-- L_fatigueOn: room 9 1 6 156
-- L_fatigueFromStart: room 9 1 6 158
-- L_formOn: room 9 1 6 156
-- L_daysToForm: room 8 2 12 138
-- L_bestDays: room 9 2 12 157
-- L_bestDaysByTrying: room 9 2 12 158
-- L_bestDaysStart: room 9 2 12 156
-- L_bestEffort: room 10 2 12 182
-- L_bestEffortByTrying: room 9 2 12 158
-- L_bestEffortSession: room 10 2 12 182
-- L_addTarget: room 8 2 12 147
-- L_targetAt: room 7 1 6 113
-- L_dueEntry: room 8 1 6 132
-- L_planEnd: room 8 1 6 133
-- L_writeWeek: room 9 1 6 157
-- L_lineAt: room 7 1 6 113
-- L_undo: room 7 1 6 145
-- L_restore: room 7 1 6 124
theorem tw_72_76 : q_tw RX9 72 76 "java/lang/IllegalStateException" ["java/lang/RuntimeException", "java/lang/Exception"] := ⟨by decide +kernel, by decide +kernel, by decide +kernel, by decide +kernel, by decide +kernel, by decide +kernel, by decide +kernel⟩
theorem tw_117_121 : q_tw13 RX9 117 121 "java/util/NoSuchElementException" "java/lang/RuntimeException" ["java/lang/Exception"] := ⟨by decide +kernel, by decide +kernel, by decide +kernel, by decide +kernel, by decide +kernel, by decide +kernel, by decide +kernel, by decide +kernel⟩
theorem tw_200_204 : q_tw RX9 200 204 "java/lang/IndexOutOfBoundsException" ["java/lang/RuntimeException", "java/lang/Exception"] := ⟨by decide +kernel, by decide +kernel, by decide +kernel, by decide +kernel, by decide +kernel, by decide +kernel, by decide +kernel⟩
theorem tw_226_230 : q_tw RX9 226 230 "java/lang/ArithmeticException" ["java/lang/RuntimeException", "java/lang/Exception"] := ⟨by decide +kernel, by decide +kernel, by decide +kernel, by decide +kernel, by decide +kernel, by decide +kernel, by decide +kernel⟩
theorem tw_343_347 : q_tw RX9 343 347 "java/lang/IllegalArgumentException" ["java/lang/RuntimeException", "java/lang/Exception"] := ⟨by decide +kernel, by decide +kernel, by decide +kernel, by decide +kernel, by decide +kernel, by decide +kernel, by decide +kernel⟩
