/-! THE CODE WORDS (written by wip/whole/gen_hints.py) -/
set_option maxRecDepth 100000 in
theorem wcX0_clear : Cond.code yX0_clear cX0_clear 2 none ∈ lw_tbl := List.mem_of_getElem? (i := 349) rfl
set_option maxRecDepth 100000 in
theorem wcX0_isEmpty : Cond.code yX0_isEmpty cX0_isEmpty 1 (some .boolean) ∈ lw_tbl := List.mem_of_getElem? (i := 559) rfl
set_option maxRecDepth 100000 in
theorem wcX0_isFull : Cond.code yX0_isFull cX0_isFull 1 (some .boolean) ∈ lw_tbl := List.mem_of_getElem? (i := 369) rfl
set_option maxRecDepth 100000 in
theorem wcX0_hasStep : Cond.code yX0_hasStep cX0_hasStep 2 (some .boolean) ∈ lw_tbl := List.mem_of_getElem? (i := 542) rfl
set_option maxRecDepth 100000 in
theorem wcX0_latestYear : Cond.code yX0_latestYear cX0_latestYear 1 (some .int) ∈ lw_tbl := List.mem_of_getElem? (i := 398) rfl
set_option maxRecDepth 100000 in
theorem wcX0_draftLine : Cond.code yX0_draftLine cX0_draftLine 6 (some .int) ∈ lw_tbl := List.mem_of_getElem? (i := 373) rfl
set_option maxRecDepth 100000 in
theorem wcX0_add : Cond.code yX0_add cX0_add 6 (some .int) ∈ lw_tbl := List.mem_of_getElem? (i := 402) rfl
set_option maxRecDepth 100000 in
theorem wcX0_leafIn : Cond.code yX0_leafIn cX0_leafIn 4 (some (.object RX4)) ∈ lw_tbl := List.mem_of_getElem? (i := 563) rfl
set_option maxRecDepth 100000 in
theorem wcX0_isSudden : Cond.code yX0_isSudden cX0_isSudden 3 (some .boolean) ∈ lw_tbl := List.mem_of_getElem? (i := 601) rfl
set_option maxRecDepth 100000 in
theorem wcX0_kindBetween : Cond.code yX0_kindBetween cX0_kindBetween 2 (some .int) ∈ lw_tbl := List.mem_of_getElem? (i := 409) rfl
set_option maxRecDepth 100000 in
theorem wcX1_clear : Cond.code yX1_clear cX1_clear 1 none ∈ lw_tbl := List.mem_of_getElem? (i := 353) rfl
set_option maxRecDepth 100000 in
theorem wcX1_isFull : Cond.code yX1_isFull cX1_isFull 1 (some .boolean) ∈ lw_tbl := List.mem_of_getElem? (i := 506) rfl
set_option maxRecDepth 100000 in
theorem wcX1_has : Cond.code yX1_has cX1_has 2 (some .boolean) ∈ lw_tbl := List.mem_of_getElem? (i := 518) rfl
set_option maxRecDepth 100000 in
theorem wcX1_add : Cond.code yX1_add cX1_add 9 (some .int) ∈ lw_tbl := List.mem_of_getElem? (i := 510) rfl
set_option maxRecDepth 100000 in
theorem wcX1_notStruck : Cond.code yX1_notStruck cX1_notStruck 3 (some .int) ∈ lw_tbl := List.mem_of_getElem? (i := 550) rfl
set_option maxRecDepth 100000 in
theorem wcX2_lay : Cond.code yX2_lay cX2_lay 5 none ∈ lw_tbl := List.mem_of_getElem? (i := 345) rfl
set_option maxRecDepth 100000 in
theorem wcX2_hasLine : Cond.code yX2_hasLine cX2_hasLine 2 (some .boolean) ∈ lw_tbl := List.mem_of_getElem? (i := 365) rfl
set_option maxRecDepth 100000 in
theorem wcX2_has : Cond.code yX2_has cX2_has 3 (some .boolean) ∈ lw_tbl := List.mem_of_getElem? (i := 486) rfl
set_option maxRecDepth 100000 in
theorem wcX2_hasBox : Cond.code yX2_hasBox cX2_hasBox 5 (some .boolean) ∈ lw_tbl := List.mem_of_getElem? (i := 482) rfl
set_option maxRecDepth 100000 in
theorem wcX2_cellAt : Cond.code yX2_cellAt cX2_cellAt 3 (some .int) ∈ lw_tbl := List.mem_of_getElem? (i := 377) rfl
set_option maxRecDepth 100000 in
theorem wcX2_beside : Cond.code yX2_beside cX2_beside 3 (some .int) ∈ lw_tbl := List.mem_of_getElem? (i := 454) rfl
set_option maxRecDepth 100000 in
theorem wcX2_apart : Cond.code yX2_apart cX2_apart 3 (some .int) ∈ lw_tbl := List.mem_of_getElem? (i := 425) rfl
set_option maxRecDepth 100000 in
theorem wcX2_walk : Cond.code yX2_walk cX2_walk 3 (some .int) ∈ lw_tbl := List.mem_of_getElem? (i := 470) rfl
set_option maxRecDepth 100000 in
theorem wcX3_isFull : Cond.code yX3_isFull cX3_isFull 1 (some .boolean) ∈ lw_tbl := List.mem_of_getElem? (i := 526) rfl
set_option maxRecDepth 100000 in
theorem wcX3_add : Cond.code yX3_add cX3_add 5 (some .int) ∈ lw_tbl := List.mem_of_getElem? (i := 530) rfl
set_option maxRecDepth 100000 in
theorem wcX3_placeFor : Cond.code yX3_placeFor cX3_placeFor 4 (some .int) ∈ lw_tbl := List.mem_of_getElem? (i := 597) rfl
set_option maxRecDepth 100000 in
theorem wcX4_isDry : Cond.code yX4_isDry cX4_isDry 2 (some .boolean) ∈ lw_tbl := List.mem_of_getElem? (i := 406) rfl
set_option maxRecDepth 100000 in
theorem wcX4_isNew : Cond.code yX4_isNew cX4_isNew 2 (some .boolean) ∈ lw_tbl := List.mem_of_getElem? (i := 417) rfl
set_option maxRecDepth 100000 in
theorem wcX4_wasWater : Cond.code yX4_wasWater cX4_wasWater 2 (some .boolean) ∈ lw_tbl := List.mem_of_getElem? (i := 441) rfl
set_option maxRecDepth 100000 in
theorem wcX5_forgetFirst : Cond.code yX5_forgetFirst cX5_forgetFirst 1 none ∈ lw_tbl := List.mem_of_getElem? (i := 357) rfl
set_option maxRecDepth 100000 in
theorem wcX5_setFirst : Cond.code yX5_setFirst cX5_setFirst 8 none ∈ lw_tbl := List.mem_of_getElem? (i := 497) rfl
set_option maxRecDepth 100000 in
theorem wcX5_runFromFirst : Cond.code yX5_runFromFirst cX5_runFromFirst 3 none ∈ lw_tbl := List.mem_of_getElem? (i := 573) rfl
set_option maxRecDepth 100000 in
theorem wcX5_runTo : Cond.code yX5_runTo cX5_runTo 6 (some .boolean) ∈ lw_tbl := List.mem_of_getElem? (i := 580) rfl
set_option maxRecDepth 100000 in
theorem wcX5_nextStepYear : Cond.code yX5_nextStepYear cX5_nextStepYear 1 (some .int) ∈ lw_tbl := List.mem_of_getElem? (i := 584) rfl
set_option maxRecDepth 100000 in
theorem wcX5_nextDeedYear : Cond.code yX5_nextDeedYear cX5_nextDeedYear 1 (some .int) ∈ lw_tbl := List.mem_of_getElem? (i := 588) rfl
set_option maxRecDepth 100000 in
theorem wcX5_takeStep : Cond.code yX5_takeStep cX5_takeStep 5 none ∈ lw_tbl := List.mem_of_getElem? (i := 593) rfl
set_option maxRecDepth 100000 in
theorem wcX5_shiftOwners : Cond.code yX5_shiftOwners cX5_shiftOwners 6 none ∈ lw_tbl := List.mem_of_getElem? (i := 605) rfl
set_option maxRecDepth 100000 in
theorem wcX5_takeDeed : Cond.code yX5_takeDeed cX5_takeDeed 6 none ∈ lw_tbl := List.mem_of_getElem? (i := 609) rfl
set_option maxRecDepth 100000 in
theorem wcX5_dryOf : Cond.code yX5_dryOf cX5_dryOf 5 (some .int) ∈ lw_tbl := List.mem_of_getElem? (i := 622) rfl
set_option maxRecDepth 100000 in
theorem wcX5_dryByWaterOf : Cond.code yX5_dryByWaterOf cX5_dryByWaterOf 5 (some .int) ∈ lw_tbl := List.mem_of_getElem? (i := 631) rfl
set_option maxRecDepth 100000 in
theorem wcX5_isByWater : Cond.code yX5_isByWater cX5_isByWater 5 (some .boolean) ∈ lw_tbl := List.mem_of_getElem? (i := 635) rfl
set_option maxRecDepth 100000 in
theorem wcX5_keep : Cond.code yX5_keep cX5_keep 1 none ∈ lw_tbl := List.mem_of_getElem? (i := 672) rfl
set_option maxRecDepth 100000 in
theorem wcX5_differing : Cond.code yX5_differing cX5_differing 3 (some .int) ∈ lw_tbl := List.mem_of_getElem? (i := 676) rfl
set_option maxRecDepth 100000 in
theorem wcX5_runAheadOf : Cond.code yX5_runAheadOf cX5_runAheadOf 2 none ∈ lw_tbl := List.mem_of_getElem? (i := 667) rfl
set_option maxRecDepth 100000 in
theorem wcX5_changedBy : Cond.code yX5_changedBy cX5_changedBy 2 (some .int) ∈ lw_tbl := List.mem_of_getElem? (i := 663) rfl
set_option maxRecDepth 100000 in
theorem wcX5_wonBy : Cond.code yX5_wonBy cX5_wonBy 4 (some .int) ∈ lw_tbl := List.mem_of_getElem? (i := 767) rfl
set_option maxRecDepth 100000 in
theorem wcX5_changedByDoubt : Cond.code yX5_changedByDoubt cX5_changedByDoubt 3 (some .int) ∈ lw_tbl := List.mem_of_getElem? (i := 685) rfl
set_option maxRecDepth 100000 in
theorem wcX6_measure : Cond.code yX6_measure cX6_measure 3 none ∈ lw_tbl := List.mem_of_getElem? (i := 413) rfl
set_option maxRecDepth 100000 in
theorem wcX6_dryParts : Cond.code yX6_dryParts cX6_dryParts 4 (some .int) ∈ lw_tbl := List.mem_of_getElem? (i := 653) rfl
set_option maxRecDepth 100000 in
theorem wcX6_apartFromFast : Cond.code yX6_apartFromFast cX6_apartFromFast 5 (some .int) ∈ lw_tbl := List.mem_of_getElem? (i := 421) rfl
set_option maxRecDepth 100000 in
theorem wcX6_apartFromOldWater : Cond.code yX6_apartFromOldWater cX6_apartFromOldWater 5 (some .int) ∈ lw_tbl := List.mem_of_getElem? (i := 437) rfl
set_option maxRecDepth 100000 in
theorem wcX6_sortParts : Cond.code yX6_sortParts cX6_sortParts 3 none ∈ lw_tbl := List.mem_of_getElem? (i := 446) rfl
set_option maxRecDepth 100000 in
theorem wcX6_gather : Cond.code yX6_gather cX6_gather 5 none ∈ lw_tbl := List.mem_of_getElem? (i := 450) rfl
set_option maxRecDepth 100000 in
theorem wcX6_partIsByFast : Cond.code yX6_partIsByFast cX6_partIsByFast 5 (some .boolean) ∈ lw_tbl := List.mem_of_getElem? (i := 458) rfl
set_option maxRecDepth 100000 in
theorem wcX6_settleShore : Cond.code yX6_settleShore cX6_settleShore 3 none ∈ lw_tbl := List.mem_of_getElem? (i := 462) rfl
set_option maxRecDepth 100000 in
theorem wcX6_settleIsle : Cond.code yX6_settleIsle cX6_settleIsle 4 none ∈ lw_tbl := List.mem_of_getElem? (i := 474) rfl
set_option maxRecDepth 100000 in
theorem wcX6_fastNearestTo : Cond.code yX6_fastNearestTo cX6_fastNearestTo 9 (some .int) ∈ lw_tbl := List.mem_of_getElem? (i := 466) rfl
set_option maxRecDepth 100000 in
theorem wcX7_land : Cond.code yX7_land cX7_land 3 (some .boolean) ∈ lw_tbl := List.mem_of_getElem? (i := 341) rfl
set_option maxRecDepth 100000 in
theorem wcX7_water : Cond.code yX7_water cX7_water 3 (some .int) ∈ lw_tbl := List.mem_of_getElem? (i := 361) rfl
set_option maxRecDepth 100000 in
theorem wcX7_sheet : Cond.code yX7_sheet cX7_sheet 10 (some .int) ∈ lw_tbl := List.mem_of_getElem? (i := 381) rfl
set_option maxRecDepth 100000 in
theorem wcX7_map : Cond.code yX7_map cX7_map 2 (some .int) ∈ lw_tbl := List.mem_of_getElem? (i := 388) rfl
set_option maxRecDepth 100000 in
theorem wcX7_own : Cond.code yX7_own cX7_own 6 (some .boolean) ∈ lw_tbl := List.mem_of_getElem? (i := 478) rfl
set_option maxRecDepth 100000 in
theorem wcX7_deed : Cond.code yX7_deed cX7_deed 7 (some .int) ∈ lw_tbl := List.mem_of_getElem? (i := 502) rfl
set_option maxRecDepth 100000 in
theorem wcX7_strike : Cond.code yX7_strike cX7_strike 3 (some .boolean) ∈ lw_tbl := List.mem_of_getElem? (i := 514) rfl
set_option maxRecDepth 100000 in
theorem wcX7_law : Cond.code yX7_law cX7_law 6 (some .int) ∈ lw_tbl := List.mem_of_getElem? (i := 522) rfl
set_option maxRecDepth 100000 in
theorem wcX7_reach : Cond.code yX7_reach cX7_reach 3 (some .int) ∈ lw_tbl := List.mem_of_getElem? (i := 534) rfl
set_option maxRecDepth 100000 in
theorem wcX7_judge : Cond.code yX7_judge cX7_judge 3 (some .boolean) ∈ lw_tbl := List.mem_of_getElem? (i := 538) rfl
set_option maxRecDepth 100000 in
theorem wcX7_count : Cond.code yX7_count cX7_count 2 (some .int) ∈ lw_tbl := List.mem_of_getElem? (i := 546) rfl
set_option maxRecDepth 100000 in
theorem wcX7_wet : Cond.code yX7_wet cX7_wet 4 (some .int) ∈ lw_tbl := List.mem_of_getElem? (i := 554) rfl
set_option maxRecDepth 100000 in
theorem wcX7_owner : Cond.code yX7_owner cX7_owner 4 (some .int) ∈ lw_tbl := List.mem_of_getElem? (i := 569) rfl
set_option maxRecDepth 100000 in
theorem wcX7_area : Cond.code yX7_area cX7_area 3 (some .int) ∈ lw_tbl := List.mem_of_getElem? (i := 614) rfl
set_option maxRecDepth 100000 in
theorem wcX7_front : Cond.code yX7_front cX7_front 3 (some .int) ∈ lw_tbl := List.mem_of_getElem? (i := 627) rfl
set_option maxRecDepth 100000 in
theorem wcX7_tax : Cond.code yX7_tax cX7_tax 7 (some .int) ∈ lw_tbl := List.mem_of_getElem? (i := 618) rfl
set_option maxRecDepth 100000 in
theorem wcX7_chain : Cond.code yX7_chain cX7_chain 7 (some .int) ∈ lw_tbl := List.mem_of_getElem? (i := 641) rfl
set_option maxRecDepth 100000 in
theorem wcX7_banks : Cond.code yX7_banks cX7_banks 2 (some .int) ∈ lw_tbl := List.mem_of_getElem? (i := 649) rfl
set_option maxRecDepth 100000 in
theorem wcX7_step : Cond.code yX7_step cX7_step 4 (some .int) ∈ lw_tbl := List.mem_of_getElem? (i := 658) rfl
set_option maxRecDepth 100000 in
theorem wcX7_moved : Cond.code yX7_moved cX7_moved 3 (some .int) ∈ lw_tbl := List.mem_of_getElem? (i := 697) rfl
set_option maxRecDepth 100000 in
theorem wcX7_doubt : Cond.code yX7_doubt cX7_doubt 3 (some .int) ∈ lw_tbl := List.mem_of_getElem? (i := 680) rfl
set_option maxRecDepth 100000 in
theorem wcX7_weak : Cond.code yX7_weak cX7_weak 6 (some .int) ∈ lw_tbl := List.mem_of_getElem? (i := 689) rfl
set_option maxRecDepth 100000 in
theorem wcX7_row : Cond.code yX7_row cX7_row 2 (some .int) ∈ lw_tbl := List.mem_of_getElem? (i := 775) rfl
set_option maxRecDepth 100000 in
theorem wcX7_tell : Cond.code yX7_tell cX7_tell 3 none ∈ lw_tbl := List.mem_of_getElem? (i := 645) rfl
set_option maxRecDepth 100000 in
theorem wcX7_isBetween : Cond.code yX7_isBetween cX7_isBetween 3 (some .boolean) ∈ lw_tbl := List.mem_of_getElem? (i := 394) rfl
set_option maxRecDepth 100000 in
theorem wcX7_isYear : Cond.code yX7_isYear cX7_isYear 1 (some .boolean) ∈ lw_tbl := List.mem_of_getElem? (i := 391) rfl
set_option maxRecDepth 100000 in
theorem wcX7_isOwner : Cond.code yX7_isOwner cX7_isOwner 1 (some .boolean) ∈ lw_tbl := List.mem_of_getElem? (i := 493) rfl
set_option maxRecDepth 100000 in
theorem wcX7_isOwnerOrNone : Cond.code yX7_isOwnerOrNone cX7_isOwnerOrNone 1 (some .boolean) ∈ lw_tbl := List.mem_of_getElem? (i := 490) rfl
set_option maxRecDepth 100000 in
theorem wcX8_thrown : Cond.code yX8_thrown cX8_thrown 1 (some .int) ∈ lw_tbl := List.mem_of_getElem? (i := 780) rfl
set_option maxRecDepth 100000 in
theorem wcX8_in : Cond.code yX8_in cX8_in 6 (some .boolean) ∈ lw_tbl := List.mem_of_getElem? (i := 889) rfl
set_option maxRecDepth 100000 in
theorem wcX8_refuse : Cond.code yX8_refuse cX8_refuse 1 (some .int) ∈ lw_tbl := List.mem_of_getElem? (i := 1100) rfl
set_option maxRecDepth 100000 in
theorem wcX8_lays : Cond.code yX8_lays cX8_lays 2 none ∈ lw_tbl := List.mem_of_getElem? (i := 790) rfl
set_option maxRecDepth 100000 in
theorem wcX8_isCell : Cond.code yX8_isCell cX8_isCell 3 (some .boolean) ∈ lw_tbl := List.mem_of_getElem? (i := 926) rfl
set_option maxRecDepth 100000 in
theorem wcX8_isYear : Cond.code yX8_isYear cX8_isYear 1 (some .boolean) ∈ lw_tbl := List.mem_of_getElem? (i := 913) rfl
set_option maxRecDepth 100000 in
theorem wcX8_cell : Cond.code yX8_cell cX8_cell 2 (some .int) ∈ lw_tbl := List.mem_of_getElem? (i := 900) rfl
set_option maxRecDepth 100000 in
theorem wcX8_land : Cond.code yX8_land cX8_land 3 (some .boolean) ∈ lw_tbl := List.mem_of_getElem? (i := 885) rfl
set_option maxRecDepth 100000 in
theorem wcX8_rowOf : Cond.code yX8_rowOf cX8_rowOf 6 (some .int) ∈ lw_tbl := List.mem_of_getElem? (i := 897) rfl
set_option maxRecDepth 100000 in
theorem wcX8_water : Cond.code yX8_water cX8_water 3 (some .int) ∈ lw_tbl := List.mem_of_getElem? (i := 893) rfl
set_option maxRecDepth 100000 in
theorem wcX8_sheet : Cond.code yX8_sheet cX8_sheet 10 (some .int) ∈ lw_tbl := List.mem_of_getElem? (i := 904) rfl
set_option maxRecDepth 100000 in
theorem wcX8_map : Cond.code yX8_map cX8_map 3 (some .int) ∈ lw_tbl := List.mem_of_getElem? (i := 910) rfl
set_option maxRecDepth 100000 in
theorem wcX8_isBox : Cond.code yX8_isBox cX8_isBox 5 (some .boolean) ∈ lw_tbl := List.mem_of_getElem? (i := 922) rfl
set_option maxRecDepth 100000 in
theorem wcX8_isInBox : Cond.code yX8_isInBox cX8_isInBox 3 (some .boolean) ∈ lw_tbl := List.mem_of_getElem? (i := 931) rfl
set_option maxRecDepth 100000 in
theorem wcX8_own : Cond.code yX8_own cX8_own 7 (some .boolean) ∈ lw_tbl := List.mem_of_getElem? (i := 918) rfl
set_option maxRecDepth 100000 in
theorem wcX8_deed : Cond.code yX8_deed cX8_deed 7 (some .int) ∈ lw_tbl := List.mem_of_getElem? (i := 935) rfl
set_option maxRecDepth 100000 in
theorem wcX8_strike : Cond.code yX8_strike cX8_strike 3 (some .boolean) ∈ lw_tbl := List.mem_of_getElem? (i := 939) rfl
set_option maxRecDepth 100000 in
theorem wcX8_law : Cond.code yX8_law cX8_law 5 (some .int) ∈ lw_tbl := List.mem_of_getElem? (i := 943) rfl
set_option maxRecDepth 100000 in
theorem wcX8_reach : Cond.code yX8_reach cX8_reach 3 (some .int) ∈ lw_tbl := List.mem_of_getElem? (i := 947) rfl
set_option maxRecDepth 100000 in
theorem wcX8_isStep : Cond.code yX8_isStep cX8_isStep 2 (some .boolean) ∈ lw_tbl := List.mem_of_getElem? (i := 955) rfl
set_option maxRecDepth 100000 in
theorem wcX8_judge : Cond.code yX8_judge cX8_judge 3 (some .boolean) ∈ lw_tbl := List.mem_of_getElem? (i := 951) rfl
set_option maxRecDepth 100000 in
theorem wcX8_count : Cond.code yX8_count cX8_count 4 (some .int) ∈ lw_tbl := List.mem_of_getElem? (i := 959) rfl
set_option maxRecDepth 100000 in
theorem wcX8_mapIn : Cond.code yX8_mapIn cX8_mapIn 4 (some .int) ∈ lw_tbl := List.mem_of_getElem? (i := 967) rfl
set_option maxRecDepth 100000 in
theorem wcX8_isWet : Cond.code yX8_isWet cX8_isWet 3 (some .boolean) ∈ lw_tbl := List.mem_of_getElem? (i := 971) rfl
set_option maxRecDepth 100000 in
theorem wcX8_isOn : Cond.code yX8_isOn cX8_isOn 2 (some .boolean) ∈ lw_tbl := List.mem_of_getElem? (i := 1003) rfl
set_option maxRecDepth 100000 in
theorem wcX8_wet : Cond.code yX8_wet cX8_wet 4 (some .int) ∈ lw_tbl := List.mem_of_getElem? (i := 963) rfl
set_option maxRecDepth 100000 in
theorem wcX8_kinds : Cond.code yX8_kinds cX8_kinds 5 none ∈ lw_tbl := List.mem_of_getElem? (i := 999) rfl
set_option maxRecDepth 100000 in
theorem wcX8_apart : Cond.code yX8_apart cX8_apart 2 (some .int) ∈ lw_tbl := List.mem_of_getElem? (i := 1018) rfl
set_option maxRecDepth 100000 in
theorem wcX8_away : Cond.code yX8_away cX8_away 2 (some .int) ∈ lw_tbl := List.mem_of_getElem? (i := 1027) rfl
set_option maxRecDepth 100000 in
theorem wcX8_kindsOf : Cond.code yX8_kindsOf cX8_kindsOf 4 (some .int) ∈ lw_tbl := List.mem_of_getElem? (i := 1084) rfl
set_option maxRecDepth 100000 in
theorem wcX8_far : Cond.code yX8_far cX8_far 6 (some .int) ∈ lw_tbl := List.mem_of_getElem? (i := 1015) rfl
set_option maxRecDepth 100000 in
theorem wcX8_isSudden : Cond.code yX8_isSudden cX8_isSudden 2 (some .boolean) ∈ lw_tbl := List.mem_of_getElem? (i := 1011) rfl
set_option maxRecDepth 100000 in
theorem wcX8_findsParts : Cond.code yX8_findsParts cX8_findsParts 5 none ∈ lw_tbl := List.mem_of_getElem? (i := 1024) rfl
set_option maxRecDepth 100000 in
theorem wcX8_nearest : Cond.code yX8_nearest cX8_nearest 4 (some .int) ∈ lw_tbl := List.mem_of_getElem? (i := 1031) rfl
set_option maxRecDepth 100000 in
theorem wcX8_awayFromPart : Cond.code yX8_awayFromPart cX8_awayFromPart 5 (some .int) ∈ lw_tbl := List.mem_of_getElem? (i := 1039) rfl
set_option maxRecDepth 100000 in
theorem wcX8_nearestToPart : Cond.code yX8_nearestToPart cX8_nearestToPart 6 (some .int) ∈ lw_tbl := List.mem_of_getElem? (i := 1035) rfl
set_option maxRecDepth 100000 in
theorem wcX8_lawIn : Cond.code yX8_lawIn cX8_lawIn 4 (some .int) ∈ lw_tbl := List.mem_of_getElem? (i := 1007) rfl
set_option maxRecDepth 100000 in
theorem wcX8_steps : Cond.code yX8_steps cX8_steps 10 none ∈ lw_tbl := List.mem_of_getElem? (i := 995) rfl
set_option maxRecDepth 100000 in
theorem wcX8_begins : Cond.code yX8_begins cX8_begins 2 none ∈ lw_tbl := List.mem_of_getElem? (i := 983) rfl
set_option maxRecDepth 100000 in
theorem wcX8_stepIn : Cond.code yX8_stepIn cX8_stepIn 3 (some .int) ∈ lw_tbl := List.mem_of_getElem? (i := 991) rfl
set_option maxRecDepth 100000 in
theorem wcX8_deedsIn : Cond.code yX8_deedsIn cX8_deedsIn 6 none ∈ lw_tbl := List.mem_of_getElem? (i := 1043) rfl
set_option maxRecDepth 100000 in
theorem wcX8_goes : Cond.code yX8_goes cX8_goes 4 none ∈ lw_tbl := List.mem_of_getElem? (i := 987) rfl
set_option maxRecDepth 100000 in
theorem wcX8_upTo : Cond.code yX8_upTo cX8_upTo 4 none ∈ lw_tbl := List.mem_of_getElem? (i := 979) rfl
set_option maxRecDepth 100000 in
theorem wcX8_owner : Cond.code yX8_owner cX8_owner 4 (some .int) ∈ lw_tbl := List.mem_of_getElem? (i := 975) rfl
set_option maxRecDepth 100000 in
theorem wcX8_areaOn : Cond.code yX8_areaOn cX8_areaOn 5 (some .int) ∈ lw_tbl := List.mem_of_getElem? (i := 1055) rfl
set_option maxRecDepth 100000 in
theorem wcX8_isAsked : Cond.code yX8_isAsked cX8_isAsked 3 (some .boolean) ∈ lw_tbl := List.mem_of_getElem? (i := 1051) rfl
set_option maxRecDepth 100000 in
theorem wcX8_area : Cond.code yX8_area cX8_area 3 (some .int) ∈ lw_tbl := List.mem_of_getElem? (i := 1047) rfl
set_option maxRecDepth 100000 in
theorem wcX8_isByWater : Cond.code yX8_isByWater cX8_isByWater 5 (some .boolean) ∈ lw_tbl := List.mem_of_getElem? (i := 1063) rfl
set_option maxRecDepth 100000 in
theorem wcX8_front : Cond.code yX8_front cX8_front 6 (some .int) ∈ lw_tbl := List.mem_of_getElem? (i := 1059) rfl
set_option maxRecDepth 100000 in
theorem wcX8_tax : Cond.code yX8_tax cX8_tax 6 (some .int) ∈ lw_tbl := List.mem_of_getElem? (i := 1067) rfl
set_option maxRecDepth 100000 in
theorem wcX8_chain : Cond.code yX8_chain cX8_chain 5 (some .int) ∈ lw_tbl := List.mem_of_getElem? (i := 1071) rfl
set_option maxRecDepth 100000 in
theorem wcX8_banks : Cond.code yX8_banks cX8_banks 6 (some .int) ∈ lw_tbl := List.mem_of_getElem? (i := 1075) rfl
set_option maxRecDepth 100000 in
theorem wcX8_walks : Cond.code yX8_walks cX8_walks 3 none ∈ lw_tbl := List.mem_of_getElem? (i := 1092) rfl
set_option maxRecDepth 100000 in
theorem wcX8_shores : Cond.code yX8_shores cX8_shores 3 (some .int) ∈ lw_tbl := List.mem_of_getElem? (i := 1088) rfl
set_option maxRecDepth 100000 in
theorem wcX8_step : Cond.code yX8_step cX8_step 5 (some .int) ∈ lw_tbl := List.mem_of_getElem? (i := 1079) rfl
set_option maxRecDepth 100000 in
theorem wcX8_moved : Cond.code yX8_moved cX8_moved 5 (some .int) ∈ lw_tbl := List.mem_of_getElem? (i := 1096) rfl
set_option maxRecDepth 100000 in
theorem wcX8_unlike : Cond.code yX8_unlike cX8_unlike 5 (some .int) ∈ lw_tbl := List.mem_of_getElem? (i := 1108) rfl
set_option maxRecDepth 100000 in
theorem wcX8_doubt : Cond.code yX8_doubt cX8_doubt 3 (some .int) ∈ lw_tbl := List.mem_of_getElem? (i := 1104) rfl
set_option maxRecDepth 100000 in
theorem wcX8_weak : Cond.code yX8_weak cX8_weak 6 (some .int) ∈ lw_tbl := List.mem_of_getElem? (i := 1112) rfl
set_option maxRecDepth 100000 in
theorem wcX8_row : Cond.code yX8_row cX8_row 2 (some .int) ∈ lw_tbl := List.mem_of_getElem? (i := 1116) rfl
set_option maxRecDepth 100000 in
theorem wcJ7_fill_53178 : Cond.code yJ7_fill_53178 cJ7_fill_53178 4 none ∈ lw_tbl := List.mem_of_getElem? (i := 280) rfl
def cdw (j : Nat) : Cond := Cond.code (ycd j) (bcd j) (mml j) (rcd j)
set_option maxRecDepth 100000 in
theorem cdw_0 : ∀ w ∈ (List.range' 0 20).map cdw, w ∈ lw_tbl :=
  List.forall_mem_cons.mpr ⟨wcX0_clear, List.forall_mem_cons.mpr ⟨wcX0_isEmpty, List.forall_mem_cons.mpr ⟨wcX0_isFull, List.forall_mem_cons.mpr ⟨wcX0_hasStep, List.forall_mem_cons.mpr ⟨wcX0_latestYear, List.forall_mem_cons.mpr ⟨wcX0_draftLine, List.forall_mem_cons.mpr ⟨wcX0_add, List.forall_mem_cons.mpr ⟨wcX0_leafIn, List.forall_mem_cons.mpr ⟨wcX0_isSudden, List.forall_mem_cons.mpr ⟨wcX0_kindBetween, List.forall_mem_cons.mpr ⟨wcX1_clear, List.forall_mem_cons.mpr ⟨wcX1_isFull, List.forall_mem_cons.mpr ⟨wcX1_has, List.forall_mem_cons.mpr ⟨wcX1_add, List.forall_mem_cons.mpr ⟨wcX1_notStruck, List.forall_mem_cons.mpr ⟨wcX2_lay, List.forall_mem_cons.mpr ⟨wcX2_hasLine, List.forall_mem_cons.mpr ⟨wcX2_has, List.forall_mem_cons.mpr ⟨wcX2_hasBox, List.forall_mem_cons.mpr ⟨wcX2_cellAt, (fun _ h => absurd h List.not_mem_nil)⟩⟩⟩⟩⟩⟩⟩⟩⟩⟩⟩⟩⟩⟩⟩⟩⟩⟩⟩⟩
set_option maxRecDepth 100000 in
theorem cdw_1 : ∀ w ∈ (List.range' 20 20).map cdw, w ∈ lw_tbl :=
  List.forall_mem_cons.mpr ⟨wcX2_beside, List.forall_mem_cons.mpr ⟨wcX2_apart, List.forall_mem_cons.mpr ⟨wcX2_walk, List.forall_mem_cons.mpr ⟨wcX3_isFull, List.forall_mem_cons.mpr ⟨wcX3_add, List.forall_mem_cons.mpr ⟨wcX3_placeFor, List.forall_mem_cons.mpr ⟨wcX4_isDry, List.forall_mem_cons.mpr ⟨wcX4_isNew, List.forall_mem_cons.mpr ⟨wcX4_wasWater, List.forall_mem_cons.mpr ⟨wcX5_forgetFirst, List.forall_mem_cons.mpr ⟨wcX5_setFirst, List.forall_mem_cons.mpr ⟨wcX5_runFromFirst, List.forall_mem_cons.mpr ⟨wcX5_runTo, List.forall_mem_cons.mpr ⟨wcX5_nextStepYear, List.forall_mem_cons.mpr ⟨wcX5_nextDeedYear, List.forall_mem_cons.mpr ⟨wcX5_takeStep, List.forall_mem_cons.mpr ⟨wcX5_shiftOwners, List.forall_mem_cons.mpr ⟨wcX5_takeDeed, List.forall_mem_cons.mpr ⟨wcX5_dryOf, List.forall_mem_cons.mpr ⟨wcX5_dryByWaterOf, (fun _ h => absurd h List.not_mem_nil)⟩⟩⟩⟩⟩⟩⟩⟩⟩⟩⟩⟩⟩⟩⟩⟩⟩⟩⟩⟩
set_option maxRecDepth 100000 in
theorem cdw_2 : ∀ w ∈ (List.range' 40 20).map cdw, w ∈ lw_tbl :=
  List.forall_mem_cons.mpr ⟨wcX5_isByWater, List.forall_mem_cons.mpr ⟨wcX5_keep, List.forall_mem_cons.mpr ⟨wcX5_differing, List.forall_mem_cons.mpr ⟨wcX5_runAheadOf, List.forall_mem_cons.mpr ⟨wcX5_changedBy, List.forall_mem_cons.mpr ⟨wcX5_wonBy, List.forall_mem_cons.mpr ⟨wcX5_changedByDoubt, List.forall_mem_cons.mpr ⟨wcX6_measure, List.forall_mem_cons.mpr ⟨wcX6_dryParts, List.forall_mem_cons.mpr ⟨wcX6_apartFromFast, List.forall_mem_cons.mpr ⟨wcX6_apartFromOldWater, List.forall_mem_cons.mpr ⟨wcX6_sortParts, List.forall_mem_cons.mpr ⟨wcX6_gather, List.forall_mem_cons.mpr ⟨wcX6_partIsByFast, List.forall_mem_cons.mpr ⟨wcX6_settleShore, List.forall_mem_cons.mpr ⟨wcX6_settleIsle, List.forall_mem_cons.mpr ⟨wcX6_fastNearestTo, List.forall_mem_cons.mpr ⟨wcX7_land, List.forall_mem_cons.mpr ⟨wcX7_water, List.forall_mem_cons.mpr ⟨wcX7_sheet, (fun _ h => absurd h List.not_mem_nil)⟩⟩⟩⟩⟩⟩⟩⟩⟩⟩⟩⟩⟩⟩⟩⟩⟩⟩⟩⟩
set_option maxRecDepth 100000 in
theorem cdw_3 : ∀ w ∈ (List.range' 60 20).map cdw, w ∈ lw_tbl :=
  List.forall_mem_cons.mpr ⟨wcX7_map, List.forall_mem_cons.mpr ⟨wcX7_own, List.forall_mem_cons.mpr ⟨wcX7_deed, List.forall_mem_cons.mpr ⟨wcX7_strike, List.forall_mem_cons.mpr ⟨wcX7_law, List.forall_mem_cons.mpr ⟨wcX7_reach, List.forall_mem_cons.mpr ⟨wcX7_judge, List.forall_mem_cons.mpr ⟨wcX7_count, List.forall_mem_cons.mpr ⟨wcX7_wet, List.forall_mem_cons.mpr ⟨wcX7_owner, List.forall_mem_cons.mpr ⟨wcX7_area, List.forall_mem_cons.mpr ⟨wcX7_front, List.forall_mem_cons.mpr ⟨wcX7_tax, List.forall_mem_cons.mpr ⟨wcX7_chain, List.forall_mem_cons.mpr ⟨wcX7_banks, List.forall_mem_cons.mpr ⟨wcX7_step, List.forall_mem_cons.mpr ⟨wcX7_moved, List.forall_mem_cons.mpr ⟨wcX7_doubt, List.forall_mem_cons.mpr ⟨wcX7_weak, List.forall_mem_cons.mpr ⟨wcX7_row, (fun _ h => absurd h List.not_mem_nil)⟩⟩⟩⟩⟩⟩⟩⟩⟩⟩⟩⟩⟩⟩⟩⟩⟩⟩⟩⟩
set_option maxRecDepth 100000 in
theorem cdw_4 : ∀ w ∈ (List.range' 80 20).map cdw, w ∈ lw_tbl :=
  List.forall_mem_cons.mpr ⟨wcX7_tell, List.forall_mem_cons.mpr ⟨wcX7_isBetween, List.forall_mem_cons.mpr ⟨wcX7_isYear, List.forall_mem_cons.mpr ⟨wcX7_isOwner, List.forall_mem_cons.mpr ⟨wcX7_isOwnerOrNone, List.forall_mem_cons.mpr ⟨wcX8_thrown, List.forall_mem_cons.mpr ⟨wcX8_in, List.forall_mem_cons.mpr ⟨wcX8_refuse, List.forall_mem_cons.mpr ⟨wcX8_lays, List.forall_mem_cons.mpr ⟨wcX8_isCell, List.forall_mem_cons.mpr ⟨wcX8_isYear, List.forall_mem_cons.mpr ⟨wcX8_cell, List.forall_mem_cons.mpr ⟨wcX8_land, List.forall_mem_cons.mpr ⟨wcX8_rowOf, List.forall_mem_cons.mpr ⟨wcX8_water, List.forall_mem_cons.mpr ⟨wcX8_sheet, List.forall_mem_cons.mpr ⟨wcX8_map, List.forall_mem_cons.mpr ⟨wcX8_isBox, List.forall_mem_cons.mpr ⟨wcX8_isInBox, List.forall_mem_cons.mpr ⟨wcX8_own, (fun _ h => absurd h List.not_mem_nil)⟩⟩⟩⟩⟩⟩⟩⟩⟩⟩⟩⟩⟩⟩⟩⟩⟩⟩⟩⟩
set_option maxRecDepth 100000 in
theorem cdw_5 : ∀ w ∈ (List.range' 100 20).map cdw, w ∈ lw_tbl :=
  List.forall_mem_cons.mpr ⟨wcX8_deed, List.forall_mem_cons.mpr ⟨wcX8_strike, List.forall_mem_cons.mpr ⟨wcX8_law, List.forall_mem_cons.mpr ⟨wcX8_reach, List.forall_mem_cons.mpr ⟨wcX8_isStep, List.forall_mem_cons.mpr ⟨wcX8_judge, List.forall_mem_cons.mpr ⟨wcX8_count, List.forall_mem_cons.mpr ⟨wcX8_mapIn, List.forall_mem_cons.mpr ⟨wcX8_isWet, List.forall_mem_cons.mpr ⟨wcX8_isOn, List.forall_mem_cons.mpr ⟨wcX8_wet, List.forall_mem_cons.mpr ⟨wcX8_kinds, List.forall_mem_cons.mpr ⟨wcX8_apart, List.forall_mem_cons.mpr ⟨wcX8_away, List.forall_mem_cons.mpr ⟨wcX8_kindsOf, List.forall_mem_cons.mpr ⟨wcX8_far, List.forall_mem_cons.mpr ⟨wcX8_isSudden, List.forall_mem_cons.mpr ⟨wcX8_findsParts, List.forall_mem_cons.mpr ⟨wcX8_nearest, List.forall_mem_cons.mpr ⟨wcX8_awayFromPart, (fun _ h => absurd h List.not_mem_nil)⟩⟩⟩⟩⟩⟩⟩⟩⟩⟩⟩⟩⟩⟩⟩⟩⟩⟩⟩⟩
set_option maxRecDepth 100000 in
theorem cdw_6 : ∀ w ∈ (List.range' 120 20).map cdw, w ∈ lw_tbl :=
  List.forall_mem_cons.mpr ⟨wcX8_nearestToPart, List.forall_mem_cons.mpr ⟨wcX8_lawIn, List.forall_mem_cons.mpr ⟨wcX8_steps, List.forall_mem_cons.mpr ⟨wcX8_begins, List.forall_mem_cons.mpr ⟨wcX8_stepIn, List.forall_mem_cons.mpr ⟨wcX8_deedsIn, List.forall_mem_cons.mpr ⟨wcX8_goes, List.forall_mem_cons.mpr ⟨wcX8_upTo, List.forall_mem_cons.mpr ⟨wcX8_owner, List.forall_mem_cons.mpr ⟨wcX8_areaOn, List.forall_mem_cons.mpr ⟨wcX8_isAsked, List.forall_mem_cons.mpr ⟨wcX8_area, List.forall_mem_cons.mpr ⟨wcX8_isByWater, List.forall_mem_cons.mpr ⟨wcX8_front, List.forall_mem_cons.mpr ⟨wcX8_tax, List.forall_mem_cons.mpr ⟨wcX8_chain, List.forall_mem_cons.mpr ⟨wcX8_banks, List.forall_mem_cons.mpr ⟨wcX8_walks, List.forall_mem_cons.mpr ⟨wcX8_shores, List.forall_mem_cons.mpr ⟨wcX8_step, (fun _ h => absurd h List.not_mem_nil)⟩⟩⟩⟩⟩⟩⟩⟩⟩⟩⟩⟩⟩⟩⟩⟩⟩⟩⟩⟩
set_option maxRecDepth 100000 in
theorem cdw_7 : ∀ w ∈ (List.range' 140 6).map cdw, w ∈ lw_tbl :=
  List.forall_mem_cons.mpr ⟨wcX8_moved, List.forall_mem_cons.mpr ⟨wcX8_unlike, List.forall_mem_cons.mpr ⟨wcX8_doubt, List.forall_mem_cons.mpr ⟨wcX8_weak, List.forall_mem_cons.mpr ⟨wcX8_row, List.forall_mem_cons.mpr ⟨wcJ7_fill_53178, (fun _ h => absurd h List.not_mem_nil)⟩⟩⟩⟩⟩⟩
theorem cdw_all {j : Nat} (h : j < 146) : cdw j ∈ lw_tbl := by
  rcases (show (0 ≤ j ∧ j < 20) ∨ (20 ≤ j ∧ j < 40) ∨ (40 ≤ j ∧ j < 60) ∨ (60 ≤ j ∧ j < 80) ∨ (80 ≤ j ∧ j < 100) ∨ (100 ≤ j ∧ j < 120) ∨ (120 ≤ j ∧ j < 140) ∨ (140 ≤ j ∧ j < 146) by omega) with q | q | q | q | q | q | q | q
  · exact cdw_0 _ (List.mem_map_of_mem (List.mem_range'_1.mpr (by omega)))
  · exact cdw_1 _ (List.mem_map_of_mem (List.mem_range'_1.mpr (by omega)))
  · exact cdw_2 _ (List.mem_map_of_mem (List.mem_range'_1.mpr (by omega)))
  · exact cdw_3 _ (List.mem_map_of_mem (List.mem_range'_1.mpr (by omega)))
  · exact cdw_4 _ (List.mem_map_of_mem (List.mem_range'_1.mpr (by omega)))
  · exact cdw_5 _ (List.mem_map_of_mem (List.mem_range'_1.mpr (by omega)))
  · exact cdw_6 _ (List.mem_map_of_mem (List.mem_range'_1.mpr (by omega)))
  · exact cdw_7 _ (List.mem_map_of_mem (List.mem_range'_1.mpr (by omega)))
