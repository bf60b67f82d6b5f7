/-! WHAT THE TABLES SAY OF THE METHODS (written by wip/whole/gen_tables.py) -/
def onm (c : Nat) : String :=
  (bif Nat.ble 5 c then
   (bif Nat.ble 7 c then
    (bif Nat.ble 8 c then (bif Nat.ble 9 c then (bif Nat.beq c 9 then RJ7 else "") else (bif Nat.beq c 8 then RX8 else "")) else (bif Nat.beq c 7 then RX7 else ""))
   else
    (bif Nat.ble 6 c then (bif Nat.beq c 6 then RX6 else "") else (bif Nat.beq c 5 then RX5 else "")))
  else
   (bif Nat.ble 2 c then
    (bif Nat.ble 3 c then (bif Nat.ble 4 c then (bif Nat.beq c 4 then RX4 else "") else (bif Nat.beq c 3 then RX3 else "")) else (bif Nat.beq c 2 then RX2 else ""))
   else
    (bif Nat.ble 1 c then (bif Nat.beq c 1 then RX1 else "") else (bif Nat.beq c 0 then RX0 else ""))))
def ycd (k : Nat) : MethodName :=
  (bif Nat.ble 73 k then
   (bif Nat.ble 109 k then
    (bif Nat.ble 127 k then
     (bif Nat.ble 136 k then
      (bif Nat.ble 141 k then
       (bif Nat.ble 143 k then
        (bif Nat.ble 144 k then (bif Nat.ble 145 k then (bif Nat.beq k 145 then yJ7_fill_53178 else ⟨"", "", ""⟩) else (bif Nat.beq k 144 then yX8_row else ⟨"", "", ""⟩)) else (bif Nat.beq k 143 then yX8_weak else ⟨"", "", ""⟩))
       else
        (bif Nat.ble 142 k then (bif Nat.beq k 142 then yX8_doubt else ⟨"", "", ""⟩) else (bif Nat.beq k 141 then yX8_unlike else ⟨"", "", ""⟩)))
      else
       (bif Nat.ble 138 k then
        (bif Nat.ble 139 k then (bif Nat.ble 140 k then (bif Nat.beq k 140 then yX8_moved else ⟨"", "", ""⟩) else (bif Nat.beq k 139 then yX8_step else ⟨"", "", ""⟩)) else (bif Nat.beq k 138 then yX8_shores else ⟨"", "", ""⟩))
       else
        (bif Nat.ble 137 k then (bif Nat.beq k 137 then yX8_walks else ⟨"", "", ""⟩) else (bif Nat.beq k 136 then yX8_banks else ⟨"", "", ""⟩))))
     else
      (bif Nat.ble 131 k then
       (bif Nat.ble 133 k then
        (bif Nat.ble 134 k then (bif Nat.ble 135 k then (bif Nat.beq k 135 then yX8_chain else ⟨"", "", ""⟩) else (bif Nat.beq k 134 then yX8_tax else ⟨"", "", ""⟩)) else (bif Nat.beq k 133 then yX8_front else ⟨"", "", ""⟩))
       else
        (bif Nat.ble 132 k then (bif Nat.beq k 132 then yX8_isByWater else ⟨"", "", ""⟩) else (bif Nat.beq k 131 then yX8_area else ⟨"", "", ""⟩)))
      else
       (bif Nat.ble 129 k then (bif Nat.ble 130 k then (bif Nat.beq k 130 then yX8_isAsked else ⟨"", "", ""⟩) else (bif Nat.beq k 129 then yX8_areaOn else ⟨"", "", ""⟩)) else (bif Nat.ble 128 k then (bif Nat.beq k 128 then yX8_owner else ⟨"", "", ""⟩) else (bif Nat.beq k 127 then yX8_upTo else ⟨"", "", ""⟩)))))
    else
     (bif Nat.ble 118 k then
      (bif Nat.ble 122 k then
       (bif Nat.ble 124 k then
        (bif Nat.ble 125 k then (bif Nat.ble 126 k then (bif Nat.beq k 126 then yX8_goes else ⟨"", "", ""⟩) else (bif Nat.beq k 125 then yX8_deedsIn else ⟨"", "", ""⟩)) else (bif Nat.beq k 124 then yX8_stepIn else ⟨"", "", ""⟩))
       else
        (bif Nat.ble 123 k then (bif Nat.beq k 123 then yX8_begins else ⟨"", "", ""⟩) else (bif Nat.beq k 122 then yX8_steps else ⟨"", "", ""⟩)))
      else
       (bif Nat.ble 120 k then (bif Nat.ble 121 k then (bif Nat.beq k 121 then yX8_lawIn else ⟨"", "", ""⟩) else (bif Nat.beq k 120 then yX8_nearestToPart else ⟨"", "", ""⟩)) else (bif Nat.ble 119 k then (bif Nat.beq k 119 then yX8_awayFromPart else ⟨"", "", ""⟩) else (bif Nat.beq k 118 then yX8_nearest else ⟨"", "", ""⟩))))
     else
      (bif Nat.ble 113 k then
       (bif Nat.ble 115 k then
        (bif Nat.ble 116 k then (bif Nat.ble 117 k then (bif Nat.beq k 117 then yX8_findsParts else ⟨"", "", ""⟩) else (bif Nat.beq k 116 then yX8_isSudden else ⟨"", "", ""⟩)) else (bif Nat.beq k 115 then yX8_far else ⟨"", "", ""⟩))
       else
        (bif Nat.ble 114 k then (bif Nat.beq k 114 then yX8_kindsOf else ⟨"", "", ""⟩) else (bif Nat.beq k 113 then yX8_away else ⟨"", "", ""⟩)))
      else
       (bif Nat.ble 111 k then (bif Nat.ble 112 k then (bif Nat.beq k 112 then yX8_apart else ⟨"", "", ""⟩) else (bif Nat.beq k 111 then yX8_kinds else ⟨"", "", ""⟩)) else (bif Nat.ble 110 k then (bif Nat.beq k 110 then yX8_wet else ⟨"", "", ""⟩) else (bif Nat.beq k 109 then yX8_isOn else ⟨"", "", ""⟩))))))
   else
    (bif Nat.ble 91 k then
     (bif Nat.ble 100 k then
      (bif Nat.ble 104 k then
       (bif Nat.ble 106 k then
        (bif Nat.ble 107 k then (bif Nat.ble 108 k then (bif Nat.beq k 108 then yX8_isWet else ⟨"", "", ""⟩) else (bif Nat.beq k 107 then yX8_mapIn else ⟨"", "", ""⟩)) else (bif Nat.beq k 106 then yX8_count else ⟨"", "", ""⟩))
       else
        (bif Nat.ble 105 k then (bif Nat.beq k 105 then yX8_judge else ⟨"", "", ""⟩) else (bif Nat.beq k 104 then yX8_isStep else ⟨"", "", ""⟩)))
      else
       (bif Nat.ble 102 k then (bif Nat.ble 103 k then (bif Nat.beq k 103 then yX8_reach else ⟨"", "", ""⟩) else (bif Nat.beq k 102 then yX8_law else ⟨"", "", ""⟩)) else (bif Nat.ble 101 k then (bif Nat.beq k 101 then yX8_strike else ⟨"", "", ""⟩) else (bif Nat.beq k 100 then yX8_deed else ⟨"", "", ""⟩))))
     else
      (bif Nat.ble 95 k then
       (bif Nat.ble 97 k then
        (bif Nat.ble 98 k then (bif Nat.ble 99 k then (bif Nat.beq k 99 then yX8_own else ⟨"", "", ""⟩) else (bif Nat.beq k 98 then yX8_isInBox else ⟨"", "", ""⟩)) else (bif Nat.beq k 97 then yX8_isBox else ⟨"", "", ""⟩))
       else
        (bif Nat.ble 96 k then (bif Nat.beq k 96 then yX8_map else ⟨"", "", ""⟩) else (bif Nat.beq k 95 then yX8_sheet else ⟨"", "", ""⟩)))
      else
       (bif Nat.ble 93 k then (bif Nat.ble 94 k then (bif Nat.beq k 94 then yX8_water else ⟨"", "", ""⟩) else (bif Nat.beq k 93 then yX8_rowOf else ⟨"", "", ""⟩)) else (bif Nat.ble 92 k then (bif Nat.beq k 92 then yX8_land else ⟨"", "", ""⟩) else (bif Nat.beq k 91 then yX8_cell else ⟨"", "", ""⟩)))))
    else
     (bif Nat.ble 82 k then
      (bif Nat.ble 86 k then
       (bif Nat.ble 88 k then
        (bif Nat.ble 89 k then (bif Nat.ble 90 k then (bif Nat.beq k 90 then yX8_isYear else ⟨"", "", ""⟩) else (bif Nat.beq k 89 then yX8_isCell else ⟨"", "", ""⟩)) else (bif Nat.beq k 88 then yX8_lays else ⟨"", "", ""⟩))
       else
        (bif Nat.ble 87 k then (bif Nat.beq k 87 then yX8_refuse else ⟨"", "", ""⟩) else (bif Nat.beq k 86 then yX8_in else ⟨"", "", ""⟩)))
      else
       (bif Nat.ble 84 k then (bif Nat.ble 85 k then (bif Nat.beq k 85 then yX8_thrown else ⟨"", "", ""⟩) else (bif Nat.beq k 84 then yX7_isOwnerOrNone else ⟨"", "", ""⟩)) else (bif Nat.ble 83 k then (bif Nat.beq k 83 then yX7_isOwner else ⟨"", "", ""⟩) else (bif Nat.beq k 82 then yX7_isYear else ⟨"", "", ""⟩))))
     else
      (bif Nat.ble 77 k then
       (bif Nat.ble 79 k then
        (bif Nat.ble 80 k then (bif Nat.ble 81 k then (bif Nat.beq k 81 then yX7_isBetween else ⟨"", "", ""⟩) else (bif Nat.beq k 80 then yX7_tell else ⟨"", "", ""⟩)) else (bif Nat.beq k 79 then yX7_row else ⟨"", "", ""⟩))
       else
        (bif Nat.ble 78 k then (bif Nat.beq k 78 then yX7_weak else ⟨"", "", ""⟩) else (bif Nat.beq k 77 then yX7_doubt else ⟨"", "", ""⟩)))
      else
       (bif Nat.ble 75 k then (bif Nat.ble 76 k then (bif Nat.beq k 76 then yX7_moved else ⟨"", "", ""⟩) else (bif Nat.beq k 75 then yX7_step else ⟨"", "", ""⟩)) else (bif Nat.ble 74 k then (bif Nat.beq k 74 then yX7_banks else ⟨"", "", ""⟩) else (bif Nat.beq k 73 then yX7_chain else ⟨"", "", ""⟩)))))))
  else
   (bif Nat.ble 36 k then
    (bif Nat.ble 54 k then
     (bif Nat.ble 63 k then
      (bif Nat.ble 68 k then
       (bif Nat.ble 70 k then
        (bif Nat.ble 71 k then (bif Nat.ble 72 k then (bif Nat.beq k 72 then yX7_tax else ⟨"", "", ""⟩) else (bif Nat.beq k 71 then yX7_front else ⟨"", "", ""⟩)) else (bif Nat.beq k 70 then yX7_area else ⟨"", "", ""⟩))
       else
        (bif Nat.ble 69 k then (bif Nat.beq k 69 then yX7_owner else ⟨"", "", ""⟩) else (bif Nat.beq k 68 then yX7_wet else ⟨"", "", ""⟩)))
      else
       (bif Nat.ble 65 k then
        (bif Nat.ble 66 k then (bif Nat.ble 67 k then (bif Nat.beq k 67 then yX7_count else ⟨"", "", ""⟩) else (bif Nat.beq k 66 then yX7_judge else ⟨"", "", ""⟩)) else (bif Nat.beq k 65 then yX7_reach else ⟨"", "", ""⟩))
       else
        (bif Nat.ble 64 k then (bif Nat.beq k 64 then yX7_law else ⟨"", "", ""⟩) else (bif Nat.beq k 63 then yX7_strike else ⟨"", "", ""⟩))))
     else
      (bif Nat.ble 58 k then
       (bif Nat.ble 60 k then
        (bif Nat.ble 61 k then (bif Nat.ble 62 k then (bif Nat.beq k 62 then yX7_deed else ⟨"", "", ""⟩) else (bif Nat.beq k 61 then yX7_own else ⟨"", "", ""⟩)) else (bif Nat.beq k 60 then yX7_map else ⟨"", "", ""⟩))
       else
        (bif Nat.ble 59 k then (bif Nat.beq k 59 then yX7_sheet else ⟨"", "", ""⟩) else (bif Nat.beq k 58 then yX7_water else ⟨"", "", ""⟩)))
      else
       (bif Nat.ble 56 k then (bif Nat.ble 57 k then (bif Nat.beq k 57 then yX7_land else ⟨"", "", ""⟩) else (bif Nat.beq k 56 then yX6_fastNearestTo else ⟨"", "", ""⟩)) else (bif Nat.ble 55 k then (bif Nat.beq k 55 then yX6_settleIsle else ⟨"", "", ""⟩) else (bif Nat.beq k 54 then yX6_settleShore else ⟨"", "", ""⟩)))))
    else
     (bif Nat.ble 45 k then
      (bif Nat.ble 49 k then
       (bif Nat.ble 51 k then
        (bif Nat.ble 52 k then (bif Nat.ble 53 k then (bif Nat.beq k 53 then yX6_partIsByFast else ⟨"", "", ""⟩) else (bif Nat.beq k 52 then yX6_gather else ⟨"", "", ""⟩)) else (bif Nat.beq k 51 then yX6_sortParts else ⟨"", "", ""⟩))
       else
        (bif Nat.ble 50 k then (bif Nat.beq k 50 then yX6_apartFromOldWater else ⟨"", "", ""⟩) else (bif Nat.beq k 49 then yX6_apartFromFast else ⟨"", "", ""⟩)))
      else
       (bif Nat.ble 47 k then (bif Nat.ble 48 k then (bif Nat.beq k 48 then yX6_dryParts else ⟨"", "", ""⟩) else (bif Nat.beq k 47 then yX6_measure else ⟨"", "", ""⟩)) else (bif Nat.ble 46 k then (bif Nat.beq k 46 then yX5_changedByDoubt else ⟨"", "", ""⟩) else (bif Nat.beq k 45 then yX5_wonBy else ⟨"", "", ""⟩))))
     else
      (bif Nat.ble 40 k then
       (bif Nat.ble 42 k then
        (bif Nat.ble 43 k then (bif Nat.ble 44 k then (bif Nat.beq k 44 then yX5_changedBy else ⟨"", "", ""⟩) else (bif Nat.beq k 43 then yX5_runAheadOf else ⟨"", "", ""⟩)) else (bif Nat.beq k 42 then yX5_differing else ⟨"", "", ""⟩))
       else
        (bif Nat.ble 41 k then (bif Nat.beq k 41 then yX5_keep else ⟨"", "", ""⟩) else (bif Nat.beq k 40 then yX5_isByWater else ⟨"", "", ""⟩)))
      else
       (bif Nat.ble 38 k then (bif Nat.ble 39 k then (bif Nat.beq k 39 then yX5_dryByWaterOf else ⟨"", "", ""⟩) else (bif Nat.beq k 38 then yX5_dryOf else ⟨"", "", ""⟩)) else (bif Nat.ble 37 k then (bif Nat.beq k 37 then yX5_takeDeed else ⟨"", "", ""⟩) else (bif Nat.beq k 36 then yX5_shiftOwners else ⟨"", "", ""⟩))))))
   else
    (bif Nat.ble 18 k then
     (bif Nat.ble 27 k then
      (bif Nat.ble 31 k then
       (bif Nat.ble 33 k then
        (bif Nat.ble 34 k then (bif Nat.ble 35 k then (bif Nat.beq k 35 then yX5_takeStep else ⟨"", "", ""⟩) else (bif Nat.beq k 34 then yX5_nextDeedYear else ⟨"", "", ""⟩)) else (bif Nat.beq k 33 then yX5_nextStepYear else ⟨"", "", ""⟩))
       else
        (bif Nat.ble 32 k then (bif Nat.beq k 32 then yX5_runTo else ⟨"", "", ""⟩) else (bif Nat.beq k 31 then yX5_runFromFirst else ⟨"", "", ""⟩)))
      else
       (bif Nat.ble 29 k then (bif Nat.ble 30 k then (bif Nat.beq k 30 then yX5_setFirst else ⟨"", "", ""⟩) else (bif Nat.beq k 29 then yX5_forgetFirst else ⟨"", "", ""⟩)) else (bif Nat.ble 28 k then (bif Nat.beq k 28 then yX4_wasWater else ⟨"", "", ""⟩) else (bif Nat.beq k 27 then yX4_isNew else ⟨"", "", ""⟩))))
     else
      (bif Nat.ble 22 k then
       (bif Nat.ble 24 k then
        (bif Nat.ble 25 k then (bif Nat.ble 26 k then (bif Nat.beq k 26 then yX4_isDry else ⟨"", "", ""⟩) else (bif Nat.beq k 25 then yX3_placeFor else ⟨"", "", ""⟩)) else (bif Nat.beq k 24 then yX3_add else ⟨"", "", ""⟩))
       else
        (bif Nat.ble 23 k then (bif Nat.beq k 23 then yX3_isFull else ⟨"", "", ""⟩) else (bif Nat.beq k 22 then yX2_walk else ⟨"", "", ""⟩)))
      else
       (bif Nat.ble 20 k then (bif Nat.ble 21 k then (bif Nat.beq k 21 then yX2_apart else ⟨"", "", ""⟩) else (bif Nat.beq k 20 then yX2_beside else ⟨"", "", ""⟩)) else (bif Nat.ble 19 k then (bif Nat.beq k 19 then yX2_cellAt else ⟨"", "", ""⟩) else (bif Nat.beq k 18 then yX2_hasBox else ⟨"", "", ""⟩)))))
    else
     (bif Nat.ble 9 k then
      (bif Nat.ble 13 k then
       (bif Nat.ble 15 k then
        (bif Nat.ble 16 k then (bif Nat.ble 17 k then (bif Nat.beq k 17 then yX2_has else ⟨"", "", ""⟩) else (bif Nat.beq k 16 then yX2_hasLine else ⟨"", "", ""⟩)) else (bif Nat.beq k 15 then yX2_lay else ⟨"", "", ""⟩))
       else
        (bif Nat.ble 14 k then (bif Nat.beq k 14 then yX1_notStruck else ⟨"", "", ""⟩) else (bif Nat.beq k 13 then yX1_add else ⟨"", "", ""⟩)))
      else
       (bif Nat.ble 11 k then (bif Nat.ble 12 k then (bif Nat.beq k 12 then yX1_has else ⟨"", "", ""⟩) else (bif Nat.beq k 11 then yX1_isFull else ⟨"", "", ""⟩)) else (bif Nat.ble 10 k then (bif Nat.beq k 10 then yX1_clear else ⟨"", "", ""⟩) else (bif Nat.beq k 9 then yX0_kindBetween else ⟨"", "", ""⟩))))
     else
      (bif Nat.ble 4 k then
       (bif Nat.ble 6 k then
        (bif Nat.ble 7 k then (bif Nat.ble 8 k then (bif Nat.beq k 8 then yX0_isSudden else ⟨"", "", ""⟩) else (bif Nat.beq k 7 then yX0_leafIn else ⟨"", "", ""⟩)) else (bif Nat.beq k 6 then yX0_add else ⟨"", "", ""⟩))
       else
        (bif Nat.ble 5 k then (bif Nat.beq k 5 then yX0_draftLine else ⟨"", "", ""⟩) else (bif Nat.beq k 4 then yX0_latestYear else ⟨"", "", ""⟩)))
      else
       (bif Nat.ble 2 k then (bif Nat.ble 3 k then (bif Nat.beq k 3 then yX0_hasStep else ⟨"", "", ""⟩) else (bif Nat.beq k 2 then yX0_isFull else ⟨"", "", ""⟩)) else (bif Nat.ble 1 k then (bif Nat.beq k 1 then yX0_isEmpty else ⟨"", "", ""⟩) else (bif Nat.beq k 0 then yX0_clear else ⟨"", "", ""⟩))))))))
def bcd (k : Nat) : ByteArray :=
  (bif Nat.ble 73 k then
   (bif Nat.ble 109 k then
    (bif Nat.ble 127 k then
     (bif Nat.ble 136 k then
      (bif Nat.ble 141 k then
       (bif Nat.ble 143 k then
        (bif Nat.ble 144 k then (bif Nat.ble 145 k then (bif Nat.beq k 145 then cJ7_fill_53178 else ⟨#[]⟩) else (bif Nat.beq k 144 then cX8_row else ⟨#[]⟩)) else (bif Nat.beq k 143 then cX8_weak else ⟨#[]⟩))
       else
        (bif Nat.ble 142 k then (bif Nat.beq k 142 then cX8_doubt else ⟨#[]⟩) else (bif Nat.beq k 141 then cX8_unlike else ⟨#[]⟩)))
      else
       (bif Nat.ble 138 k then
        (bif Nat.ble 139 k then (bif Nat.ble 140 k then (bif Nat.beq k 140 then cX8_moved else ⟨#[]⟩) else (bif Nat.beq k 139 then cX8_step else ⟨#[]⟩)) else (bif Nat.beq k 138 then cX8_shores else ⟨#[]⟩))
       else
        (bif Nat.ble 137 k then (bif Nat.beq k 137 then cX8_walks else ⟨#[]⟩) else (bif Nat.beq k 136 then cX8_banks else ⟨#[]⟩))))
     else
      (bif Nat.ble 131 k then
       (bif Nat.ble 133 k then
        (bif Nat.ble 134 k then (bif Nat.ble 135 k then (bif Nat.beq k 135 then cX8_chain else ⟨#[]⟩) else (bif Nat.beq k 134 then cX8_tax else ⟨#[]⟩)) else (bif Nat.beq k 133 then cX8_front else ⟨#[]⟩))
       else
        (bif Nat.ble 132 k then (bif Nat.beq k 132 then cX8_isByWater else ⟨#[]⟩) else (bif Nat.beq k 131 then cX8_area else ⟨#[]⟩)))
      else
       (bif Nat.ble 129 k then (bif Nat.ble 130 k then (bif Nat.beq k 130 then cX8_isAsked else ⟨#[]⟩) else (bif Nat.beq k 129 then cX8_areaOn else ⟨#[]⟩)) else (bif Nat.ble 128 k then (bif Nat.beq k 128 then cX8_owner else ⟨#[]⟩) else (bif Nat.beq k 127 then cX8_upTo else ⟨#[]⟩)))))
    else
     (bif Nat.ble 118 k then
      (bif Nat.ble 122 k then
       (bif Nat.ble 124 k then
        (bif Nat.ble 125 k then (bif Nat.ble 126 k then (bif Nat.beq k 126 then cX8_goes else ⟨#[]⟩) else (bif Nat.beq k 125 then cX8_deedsIn else ⟨#[]⟩)) else (bif Nat.beq k 124 then cX8_stepIn else ⟨#[]⟩))
       else
        (bif Nat.ble 123 k then (bif Nat.beq k 123 then cX8_begins else ⟨#[]⟩) else (bif Nat.beq k 122 then cX8_steps else ⟨#[]⟩)))
      else
       (bif Nat.ble 120 k then (bif Nat.ble 121 k then (bif Nat.beq k 121 then cX8_lawIn else ⟨#[]⟩) else (bif Nat.beq k 120 then cX8_nearestToPart else ⟨#[]⟩)) else (bif Nat.ble 119 k then (bif Nat.beq k 119 then cX8_awayFromPart else ⟨#[]⟩) else (bif Nat.beq k 118 then cX8_nearest else ⟨#[]⟩))))
     else
      (bif Nat.ble 113 k then
       (bif Nat.ble 115 k then
        (bif Nat.ble 116 k then (bif Nat.ble 117 k then (bif Nat.beq k 117 then cX8_findsParts else ⟨#[]⟩) else (bif Nat.beq k 116 then cX8_isSudden else ⟨#[]⟩)) else (bif Nat.beq k 115 then cX8_far else ⟨#[]⟩))
       else
        (bif Nat.ble 114 k then (bif Nat.beq k 114 then cX8_kindsOf else ⟨#[]⟩) else (bif Nat.beq k 113 then cX8_away else ⟨#[]⟩)))
      else
       (bif Nat.ble 111 k then (bif Nat.ble 112 k then (bif Nat.beq k 112 then cX8_apart else ⟨#[]⟩) else (bif Nat.beq k 111 then cX8_kinds else ⟨#[]⟩)) else (bif Nat.ble 110 k then (bif Nat.beq k 110 then cX8_wet else ⟨#[]⟩) else (bif Nat.beq k 109 then cX8_isOn else ⟨#[]⟩))))))
   else
    (bif Nat.ble 91 k then
     (bif Nat.ble 100 k then
      (bif Nat.ble 104 k then
       (bif Nat.ble 106 k then
        (bif Nat.ble 107 k then (bif Nat.ble 108 k then (bif Nat.beq k 108 then cX8_isWet else ⟨#[]⟩) else (bif Nat.beq k 107 then cX8_mapIn else ⟨#[]⟩)) else (bif Nat.beq k 106 then cX8_count else ⟨#[]⟩))
       else
        (bif Nat.ble 105 k then (bif Nat.beq k 105 then cX8_judge else ⟨#[]⟩) else (bif Nat.beq k 104 then cX8_isStep else ⟨#[]⟩)))
      else
       (bif Nat.ble 102 k then (bif Nat.ble 103 k then (bif Nat.beq k 103 then cX8_reach else ⟨#[]⟩) else (bif Nat.beq k 102 then cX8_law else ⟨#[]⟩)) else (bif Nat.ble 101 k then (bif Nat.beq k 101 then cX8_strike else ⟨#[]⟩) else (bif Nat.beq k 100 then cX8_deed else ⟨#[]⟩))))
     else
      (bif Nat.ble 95 k then
       (bif Nat.ble 97 k then
        (bif Nat.ble 98 k then (bif Nat.ble 99 k then (bif Nat.beq k 99 then cX8_own else ⟨#[]⟩) else (bif Nat.beq k 98 then cX8_isInBox else ⟨#[]⟩)) else (bif Nat.beq k 97 then cX8_isBox else ⟨#[]⟩))
       else
        (bif Nat.ble 96 k then (bif Nat.beq k 96 then cX8_map else ⟨#[]⟩) else (bif Nat.beq k 95 then cX8_sheet else ⟨#[]⟩)))
      else
       (bif Nat.ble 93 k then (bif Nat.ble 94 k then (bif Nat.beq k 94 then cX8_water else ⟨#[]⟩) else (bif Nat.beq k 93 then cX8_rowOf else ⟨#[]⟩)) else (bif Nat.ble 92 k then (bif Nat.beq k 92 then cX8_land else ⟨#[]⟩) else (bif Nat.beq k 91 then cX8_cell else ⟨#[]⟩)))))
    else
     (bif Nat.ble 82 k then
      (bif Nat.ble 86 k then
       (bif Nat.ble 88 k then
        (bif Nat.ble 89 k then (bif Nat.ble 90 k then (bif Nat.beq k 90 then cX8_isYear else ⟨#[]⟩) else (bif Nat.beq k 89 then cX8_isCell else ⟨#[]⟩)) else (bif Nat.beq k 88 then cX8_lays else ⟨#[]⟩))
       else
        (bif Nat.ble 87 k then (bif Nat.beq k 87 then cX8_refuse else ⟨#[]⟩) else (bif Nat.beq k 86 then cX8_in else ⟨#[]⟩)))
      else
       (bif Nat.ble 84 k then (bif Nat.ble 85 k then (bif Nat.beq k 85 then cX8_thrown else ⟨#[]⟩) else (bif Nat.beq k 84 then cX7_isOwnerOrNone else ⟨#[]⟩)) else (bif Nat.ble 83 k then (bif Nat.beq k 83 then cX7_isOwner else ⟨#[]⟩) else (bif Nat.beq k 82 then cX7_isYear else ⟨#[]⟩))))
     else
      (bif Nat.ble 77 k then
       (bif Nat.ble 79 k then
        (bif Nat.ble 80 k then (bif Nat.ble 81 k then (bif Nat.beq k 81 then cX7_isBetween else ⟨#[]⟩) else (bif Nat.beq k 80 then cX7_tell else ⟨#[]⟩)) else (bif Nat.beq k 79 then cX7_row else ⟨#[]⟩))
       else
        (bif Nat.ble 78 k then (bif Nat.beq k 78 then cX7_weak else ⟨#[]⟩) else (bif Nat.beq k 77 then cX7_doubt else ⟨#[]⟩)))
      else
       (bif Nat.ble 75 k then (bif Nat.ble 76 k then (bif Nat.beq k 76 then cX7_moved else ⟨#[]⟩) else (bif Nat.beq k 75 then cX7_step else ⟨#[]⟩)) else (bif Nat.ble 74 k then (bif Nat.beq k 74 then cX7_banks else ⟨#[]⟩) else (bif Nat.beq k 73 then cX7_chain else ⟨#[]⟩)))))))
  else
   (bif Nat.ble 36 k then
    (bif Nat.ble 54 k then
     (bif Nat.ble 63 k then
      (bif Nat.ble 68 k then
       (bif Nat.ble 70 k then
        (bif Nat.ble 71 k then (bif Nat.ble 72 k then (bif Nat.beq k 72 then cX7_tax else ⟨#[]⟩) else (bif Nat.beq k 71 then cX7_front else ⟨#[]⟩)) else (bif Nat.beq k 70 then cX7_area else ⟨#[]⟩))
       else
        (bif Nat.ble 69 k then (bif Nat.beq k 69 then cX7_owner else ⟨#[]⟩) else (bif Nat.beq k 68 then cX7_wet else ⟨#[]⟩)))
      else
       (bif Nat.ble 65 k then
        (bif Nat.ble 66 k then (bif Nat.ble 67 k then (bif Nat.beq k 67 then cX7_count else ⟨#[]⟩) else (bif Nat.beq k 66 then cX7_judge else ⟨#[]⟩)) else (bif Nat.beq k 65 then cX7_reach else ⟨#[]⟩))
       else
        (bif Nat.ble 64 k then (bif Nat.beq k 64 then cX7_law else ⟨#[]⟩) else (bif Nat.beq k 63 then cX7_strike else ⟨#[]⟩))))
     else
      (bif Nat.ble 58 k then
       (bif Nat.ble 60 k then
        (bif Nat.ble 61 k then (bif Nat.ble 62 k then (bif Nat.beq k 62 then cX7_deed else ⟨#[]⟩) else (bif Nat.beq k 61 then cX7_own else ⟨#[]⟩)) else (bif Nat.beq k 60 then cX7_map else ⟨#[]⟩))
       else
        (bif Nat.ble 59 k then (bif Nat.beq k 59 then cX7_sheet else ⟨#[]⟩) else (bif Nat.beq k 58 then cX7_water else ⟨#[]⟩)))
      else
       (bif Nat.ble 56 k then (bif Nat.ble 57 k then (bif Nat.beq k 57 then cX7_land else ⟨#[]⟩) else (bif Nat.beq k 56 then cX6_fastNearestTo else ⟨#[]⟩)) else (bif Nat.ble 55 k then (bif Nat.beq k 55 then cX6_settleIsle else ⟨#[]⟩) else (bif Nat.beq k 54 then cX6_settleShore else ⟨#[]⟩)))))
    else
     (bif Nat.ble 45 k then
      (bif Nat.ble 49 k then
       (bif Nat.ble 51 k then
        (bif Nat.ble 52 k then (bif Nat.ble 53 k then (bif Nat.beq k 53 then cX6_partIsByFast else ⟨#[]⟩) else (bif Nat.beq k 52 then cX6_gather else ⟨#[]⟩)) else (bif Nat.beq k 51 then cX6_sortParts else ⟨#[]⟩))
       else
        (bif Nat.ble 50 k then (bif Nat.beq k 50 then cX6_apartFromOldWater else ⟨#[]⟩) else (bif Nat.beq k 49 then cX6_apartFromFast else ⟨#[]⟩)))
      else
       (bif Nat.ble 47 k then (bif Nat.ble 48 k then (bif Nat.beq k 48 then cX6_dryParts else ⟨#[]⟩) else (bif Nat.beq k 47 then cX6_measure else ⟨#[]⟩)) else (bif Nat.ble 46 k then (bif Nat.beq k 46 then cX5_changedByDoubt else ⟨#[]⟩) else (bif Nat.beq k 45 then cX5_wonBy else ⟨#[]⟩))))
     else
      (bif Nat.ble 40 k then
       (bif Nat.ble 42 k then
        (bif Nat.ble 43 k then (bif Nat.ble 44 k then (bif Nat.beq k 44 then cX5_changedBy else ⟨#[]⟩) else (bif Nat.beq k 43 then cX5_runAheadOf else ⟨#[]⟩)) else (bif Nat.beq k 42 then cX5_differing else ⟨#[]⟩))
       else
        (bif Nat.ble 41 k then (bif Nat.beq k 41 then cX5_keep else ⟨#[]⟩) else (bif Nat.beq k 40 then cX5_isByWater else ⟨#[]⟩)))
      else
       (bif Nat.ble 38 k then (bif Nat.ble 39 k then (bif Nat.beq k 39 then cX5_dryByWaterOf else ⟨#[]⟩) else (bif Nat.beq k 38 then cX5_dryOf else ⟨#[]⟩)) else (bif Nat.ble 37 k then (bif Nat.beq k 37 then cX5_takeDeed else ⟨#[]⟩) else (bif Nat.beq k 36 then cX5_shiftOwners else ⟨#[]⟩))))))
   else
    (bif Nat.ble 18 k then
     (bif Nat.ble 27 k then
      (bif Nat.ble 31 k then
       (bif Nat.ble 33 k then
        (bif Nat.ble 34 k then (bif Nat.ble 35 k then (bif Nat.beq k 35 then cX5_takeStep else ⟨#[]⟩) else (bif Nat.beq k 34 then cX5_nextDeedYear else ⟨#[]⟩)) else (bif Nat.beq k 33 then cX5_nextStepYear else ⟨#[]⟩))
       else
        (bif Nat.ble 32 k then (bif Nat.beq k 32 then cX5_runTo else ⟨#[]⟩) else (bif Nat.beq k 31 then cX5_runFromFirst else ⟨#[]⟩)))
      else
       (bif Nat.ble 29 k then (bif Nat.ble 30 k then (bif Nat.beq k 30 then cX5_setFirst else ⟨#[]⟩) else (bif Nat.beq k 29 then cX5_forgetFirst else ⟨#[]⟩)) else (bif Nat.ble 28 k then (bif Nat.beq k 28 then cX4_wasWater else ⟨#[]⟩) else (bif Nat.beq k 27 then cX4_isNew else ⟨#[]⟩))))
     else
      (bif Nat.ble 22 k then
       (bif Nat.ble 24 k then
        (bif Nat.ble 25 k then (bif Nat.ble 26 k then (bif Nat.beq k 26 then cX4_isDry else ⟨#[]⟩) else (bif Nat.beq k 25 then cX3_placeFor else ⟨#[]⟩)) else (bif Nat.beq k 24 then cX3_add else ⟨#[]⟩))
       else
        (bif Nat.ble 23 k then (bif Nat.beq k 23 then cX3_isFull else ⟨#[]⟩) else (bif Nat.beq k 22 then cX2_walk else ⟨#[]⟩)))
      else
       (bif Nat.ble 20 k then (bif Nat.ble 21 k then (bif Nat.beq k 21 then cX2_apart else ⟨#[]⟩) else (bif Nat.beq k 20 then cX2_beside else ⟨#[]⟩)) else (bif Nat.ble 19 k then (bif Nat.beq k 19 then cX2_cellAt else ⟨#[]⟩) else (bif Nat.beq k 18 then cX2_hasBox else ⟨#[]⟩)))))
    else
     (bif Nat.ble 9 k then
      (bif Nat.ble 13 k then
       (bif Nat.ble 15 k then
        (bif Nat.ble 16 k then (bif Nat.ble 17 k then (bif Nat.beq k 17 then cX2_has else ⟨#[]⟩) else (bif Nat.beq k 16 then cX2_hasLine else ⟨#[]⟩)) else (bif Nat.beq k 15 then cX2_lay else ⟨#[]⟩))
       else
        (bif Nat.ble 14 k then (bif Nat.beq k 14 then cX1_notStruck else ⟨#[]⟩) else (bif Nat.beq k 13 then cX1_add else ⟨#[]⟩)))
      else
       (bif Nat.ble 11 k then (bif Nat.ble 12 k then (bif Nat.beq k 12 then cX1_has else ⟨#[]⟩) else (bif Nat.beq k 11 then cX1_isFull else ⟨#[]⟩)) else (bif Nat.ble 10 k then (bif Nat.beq k 10 then cX1_clear else ⟨#[]⟩) else (bif Nat.beq k 9 then cX0_kindBetween else ⟨#[]⟩))))
     else
      (bif Nat.ble 4 k then
       (bif Nat.ble 6 k then
        (bif Nat.ble 7 k then (bif Nat.ble 8 k then (bif Nat.beq k 8 then cX0_isSudden else ⟨#[]⟩) else (bif Nat.beq k 7 then cX0_leafIn else ⟨#[]⟩)) else (bif Nat.beq k 6 then cX0_add else ⟨#[]⟩))
       else
        (bif Nat.ble 5 k then (bif Nat.beq k 5 then cX0_draftLine else ⟨#[]⟩) else (bif Nat.beq k 4 then cX0_latestYear else ⟨#[]⟩)))
      else
       (bif Nat.ble 2 k then (bif Nat.ble 3 k then (bif Nat.beq k 3 then cX0_hasStep else ⟨#[]⟩) else (bif Nat.beq k 2 then cX0_isFull else ⟨#[]⟩)) else (bif Nat.ble 1 k then (bif Nat.beq k 1 then cX0_isEmpty else ⟨#[]⟩) else (bif Nat.beq k 0 then cX0_clear else ⟨#[]⟩))))))))
def rcd (k : Nat) : Option FieldType :=
  bif Nat.beq (mrt k) 0 then none else bif Nat.beq (mrt k) 1 then some .int else bif Nat.beq (mrt k) 2 then some .boolean else some (.object RX4)
def rmf (k : Nat) : Nat :=
  (bif Nat.ble 73 k then
   (bif Nat.ble 109 k then
    (bif Nat.ble 127 k then
     (bif Nat.ble 136 k then
      (bif Nat.ble 141 k then
       (bif Nat.ble 143 k then
        (bif Nat.ble 144 k then (bif Nat.ble 145 k then (bif Nat.beq k 145 then 0 else 0) else (bif Nat.beq k 144 then 1 else 0)) else (bif Nat.beq k 143 then 8 else 0))
       else
        (bif Nat.ble 142 k then (bif Nat.beq k 142 then 8 else 0) else (bif Nat.beq k 141 then 7 else 0)))
      else
       (bif Nat.ble 138 k then
        (bif Nat.ble 139 k then (bif Nat.ble 140 k then (bif Nat.beq k 140 then 8 else 0) else (bif Nat.beq k 139 then 8 else 0)) else (bif Nat.beq k 138 then 0 else 0))
       else
        (bif Nat.ble 137 k then (bif Nat.beq k 137 then 7 else 0) else (bif Nat.beq k 136 then 2 else 0))))
     else
      (bif Nat.ble 131 k then
       (bif Nat.ble 133 k then
        (bif Nat.ble 134 k then (bif Nat.ble 135 k then (bif Nat.beq k 135 then 6 else 0) else (bif Nat.beq k 134 then 6 else 0)) else (bif Nat.beq k 133 then 7 else 0))
       else
        (bif Nat.ble 132 k then (bif Nat.beq k 132 then 2 else 0) else (bif Nat.beq k 131 then 7 else 0)))
      else
       (bif Nat.ble 129 k then (bif Nat.ble 130 k then (bif Nat.beq k 130 then 2 else 0) else (bif Nat.beq k 129 then 1 else 0)) else (bif Nat.ble 128 k then (bif Nat.beq k 128 then 7 else 0) else (bif Nat.beq k 127 then 6 else 0)))))
    else
     (bif Nat.ble 118 k then
      (bif Nat.ble 122 k then
       (bif Nat.ble 124 k then
        (bif Nat.ble 125 k then (bif Nat.ble 126 k then (bif Nat.beq k 126 then 5 else 0) else (bif Nat.beq k 125 then 2 else 0)) else (bif Nat.beq k 124 then 0 else 0))
       else
        (bif Nat.ble 123 k then (bif Nat.beq k 123 then 0 else 0) else (bif Nat.beq k 122 then 4 else 0)))
      else
       (bif Nat.ble 120 k then (bif Nat.ble 121 k then (bif Nat.beq k 121 then 0 else 0) else (bif Nat.beq k 120 then 3 else 0)) else (bif Nat.ble 119 k then (bif Nat.beq k 119 then 2 else 0) else (bif Nat.beq k 118 then 2 else 0))))
     else
      (bif Nat.ble 113 k then
       (bif Nat.ble 115 k then
        (bif Nat.ble 116 k then (bif Nat.ble 117 k then (bif Nat.beq k 117 then 2 else 0) else (bif Nat.beq k 116 then 3 else 0)) else (bif Nat.beq k 115 then 2 else 0))
       else
        (bif Nat.ble 114 k then (bif Nat.beq k 114 then 0 else 0) else (bif Nat.beq k 113 then 1 else 0)))
      else
       (bif Nat.ble 111 k then (bif Nat.ble 112 k then (bif Nat.beq k 112 then 1 else 0) else (bif Nat.beq k 111 then 1 else 0)) else (bif Nat.ble 110 k then (bif Nat.beq k 110 then 2 else 0) else (bif Nat.beq k 109 then 0 else 0))))))
   else
    (bif Nat.ble 91 k then
     (bif Nat.ble 100 k then
      (bif Nat.ble 104 k then
       (bif Nat.ble 106 k then
        (bif Nat.ble 107 k then (bif Nat.ble 108 k then (bif Nat.beq k 108 then 0 else 0) else (bif Nat.beq k 107 then 0 else 0)) else (bif Nat.beq k 106 then 0 else 0))
       else
        (bif Nat.ble 105 k then (bif Nat.beq k 105 then 2 else 0) else (bif Nat.beq k 104 then 1 else 0)))
      else
       (bif Nat.ble 102 k then (bif Nat.ble 103 k then (bif Nat.beq k 103 then 1 else 0) else (bif Nat.beq k 102 then 2 else 0)) else (bif Nat.ble 101 k then (bif Nat.beq k 101 then 1 else 0) else (bif Nat.beq k 100 then 3 else 0))))
     else
      (bif Nat.ble 95 k then
       (bif Nat.ble 97 k then
        (bif Nat.ble 98 k then (bif Nat.ble 99 k then (bif Nat.beq k 99 then 3 else 0) else (bif Nat.beq k 98 then 1 else 0)) else (bif Nat.beq k 97 then 2 else 0))
       else
        (bif Nat.ble 96 k then (bif Nat.beq k 96 then 2 else 0) else (bif Nat.beq k 95 then 2 else 0)))
      else
       (bif Nat.ble 93 k then (bif Nat.ble 94 k then (bif Nat.beq k 94 then 2 else 0) else (bif Nat.beq k 93 then 1 else 0)) else (bif Nat.ble 92 k then (bif Nat.beq k 92 then 1 else 0) else (bif Nat.beq k 91 then 0 else 0)))))
    else
     (bif Nat.ble 82 k then
      (bif Nat.ble 86 k then
       (bif Nat.ble 88 k then
        (bif Nat.ble 89 k then (bif Nat.ble 90 k then (bif Nat.beq k 90 then 1 else 0) else (bif Nat.beq k 89 then 1 else 0)) else (bif Nat.beq k 88 then 0 else 0))
       else
        (bif Nat.ble 87 k then (bif Nat.beq k 87 then 0 else 0) else (bif Nat.beq k 86 then 0 else 0)))
      else
       (bif Nat.ble 84 k then (bif Nat.ble 85 k then (bif Nat.beq k 85 then 0 else 0) else (bif Nat.beq k 84 then 2 else 0)) else (bif Nat.ble 83 k then (bif Nat.beq k 83 then 1 else 0) else (bif Nat.beq k 82 then 1 else 0))))
     else
      (bif Nat.ble 77 k then
       (bif Nat.ble 79 k then
        (bif Nat.ble 80 k then (bif Nat.ble 81 k then (bif Nat.beq k 81 then 0 else 0) else (bif Nat.beq k 80 then 0 else 0)) else (bif Nat.beq k 79 then 0 else 0))
       else
        (bif Nat.ble 78 k then (bif Nat.beq k 78 then 5 else 0) else (bif Nat.beq k 77 then 5 else 0)))
      else
       (bif Nat.ble 75 k then (bif Nat.ble 76 k then (bif Nat.beq k 76 then 6 else 0) else (bif Nat.beq k 75 then 6 else 0)) else (bif Nat.ble 74 k then (bif Nat.beq k 74 then 3 else 0) else (bif Nat.beq k 73 then 4 else 0)))))))
  else
   (bif Nat.ble 36 k then
    (bif Nat.ble 54 k then
     (bif Nat.ble 63 k then
      (bif Nat.ble 68 k then
       (bif Nat.ble 70 k then
        (bif Nat.ble 71 k then (bif Nat.ble 72 k then (bif Nat.beq k 72 then 4 else 0) else (bif Nat.beq k 71 then 4 else 0)) else (bif Nat.beq k 70 then 5 else 0))
       else
        (bif Nat.ble 69 k then (bif Nat.beq k 69 then 4 else 0) else (bif Nat.beq k 68 then 2 else 0)))
      else
       (bif Nat.ble 65 k then
        (bif Nat.ble 66 k then (bif Nat.ble 67 k then (bif Nat.beq k 67 then 1 else 0) else (bif Nat.beq k 66 then 1 else 0)) else (bif Nat.beq k 65 then 1 else 0))
       else
        (bif Nat.ble 64 k then (bif Nat.beq k 64 then 2 else 0) else (bif Nat.beq k 63 then 1 else 0))))
     else
      (bif Nat.ble 58 k then
       (bif Nat.ble 60 k then
        (bif Nat.ble 61 k then (bif Nat.ble 62 k then (bif Nat.beq k 62 then 3 else 0) else (bif Nat.beq k 61 then 3 else 0)) else (bif Nat.beq k 60 then 6 else 0))
       else
        (bif Nat.ble 59 k then (bif Nat.beq k 59 then 2 else 0) else (bif Nat.beq k 58 then 2 else 0)))
      else
       (bif Nat.ble 56 k then (bif Nat.ble 57 k then (bif Nat.beq k 57 then 2 else 0) else (bif Nat.beq k 56 then 2 else 0)) else (bif Nat.ble 55 k then (bif Nat.beq k 55 then 3 else 0) else (bif Nat.beq k 54 then 3 else 0)))))
    else
     (bif Nat.ble 45 k then
      (bif Nat.ble 49 k then
       (bif Nat.ble 51 k then
        (bif Nat.ble 52 k then (bif Nat.ble 53 k then (bif Nat.beq k 53 then 1 else 0) else (bif Nat.beq k 52 then 1 else 0)) else (bif Nat.beq k 51 then 4 else 0))
       else
        (bif Nat.ble 50 k then (bif Nat.beq k 50 then 2 else 0) else (bif Nat.beq k 49 then 2 else 0)))
      else
       (bif Nat.ble 47 k then (bif Nat.ble 48 k then (bif Nat.beq k 48 then 2 else 0) else (bif Nat.beq k 47 then 3 else 0)) else (bif Nat.ble 46 k then (bif Nat.beq k 46 then 4 else 0) else (bif Nat.beq k 45 then 5 else 0))))
     else
      (bif Nat.ble 40 k then
       (bif Nat.ble 42 k then
        (bif Nat.ble 43 k then (bif Nat.ble 44 k then (bif Nat.beq k 44 then 5 else 0) else (bif Nat.beq k 43 then 4 else 0)) else (bif Nat.beq k 42 then 0 else 0))
       else
        (bif Nat.ble 41 k then (bif Nat.beq k 41 then 1 else 0) else (bif Nat.beq k 40 then 1 else 0)))
      else
       (bif Nat.ble 38 k then (bif Nat.ble 39 k then (bif Nat.beq k 39 then 2 else 0) else (bif Nat.beq k 38 then 1 else 0)) else (bif Nat.ble 37 k then (bif Nat.beq k 37 then 1 else 0) else (bif Nat.beq k 36 then 0 else 0))))))
   else
    (bif Nat.ble 18 k then
     (bif Nat.ble 27 k then
      (bif Nat.ble 31 k then
       (bif Nat.ble 33 k then
        (bif Nat.ble 34 k then (bif Nat.ble 35 k then (bif Nat.beq k 35 then 1 else 0) else (bif Nat.beq k 34 then 0 else 0)) else (bif Nat.beq k 33 then 0 else 0))
       else
        (bif Nat.ble 32 k then (bif Nat.beq k 32 then 2 else 0) else (bif Nat.beq k 31 then 3 else 0)))
      else
       (bif Nat.ble 29 k then (bif Nat.ble 30 k then (bif Nat.beq k 30 then 1 else 0) else (bif Nat.beq k 29 then 1 else 0)) else (bif Nat.ble 28 k then (bif Nat.beq k 28 then 1 else 0) else (bif Nat.beq k 27 then 0 else 0))))
     else
      (bif Nat.ble 22 k then
       (bif Nat.ble 24 k then
        (bif Nat.ble 25 k then (bif Nat.ble 26 k then (bif Nat.beq k 26 then 0 else 0) else (bif Nat.beq k 25 then 0 else 0)) else (bif Nat.beq k 24 then 0 else 0))
       else
        (bif Nat.ble 23 k then (bif Nat.beq k 23 then 0 else 0) else (bif Nat.beq k 22 then 1 else 0)))
      else
       (bif Nat.ble 20 k then (bif Nat.ble 21 k then (bif Nat.beq k 21 then 1 else 0) else (bif Nat.beq k 20 then 0 else 0)) else (bif Nat.ble 19 k then (bif Nat.beq k 19 then 0 else 0) else (bif Nat.beq k 18 then 2 else 0)))))
    else
     (bif Nat.ble 9 k then
      (bif Nat.ble 13 k then
       (bif Nat.ble 15 k then
        (bif Nat.ble 16 k then (bif Nat.ble 17 k then (bif Nat.beq k 17 then 1 else 0) else (bif Nat.beq k 16 then 0 else 0)) else (bif Nat.beq k 15 then 0 else 0))
       else
        (bif Nat.ble 14 k then (bif Nat.beq k 14 then 0 else 0) else (bif Nat.beq k 13 then 0 else 0)))
      else
       (bif Nat.ble 11 k then (bif Nat.ble 12 k then (bif Nat.beq k 12 then 0 else 0) else (bif Nat.beq k 11 then 0 else 0)) else (bif Nat.ble 10 k then (bif Nat.beq k 10 then 0 else 0) else (bif Nat.beq k 9 then 0 else 0))))
     else
      (bif Nat.ble 4 k then
       (bif Nat.ble 6 k then
        (bif Nat.ble 7 k then (bif Nat.ble 8 k then (bif Nat.beq k 8 then 0 else 0) else (bif Nat.beq k 7 then 0 else 0)) else (bif Nat.beq k 6 then 5 else 0))
       else
        (bif Nat.ble 5 k then (bif Nat.beq k 5 then 1 else 0) else (bif Nat.beq k 4 then 0 else 0)))
      else
       (bif Nat.ble 2 k then (bif Nat.ble 3 k then (bif Nat.beq k 3 then 0 else 0) else (bif Nat.beq k 2 then 0 else 0)) else (bif Nat.ble 1 k then (bif Nat.beq k 1 then 0 else 0) else (bif Nat.beq k 0 then 0 else 0))))))))
def rml (k : Nat) : Nat :=
  (bif Nat.ble 73 k then
   (bif Nat.ble 109 k then
    (bif Nat.ble 127 k then
     (bif Nat.ble 136 k then
      (bif Nat.ble 141 k then
       (bif Nat.ble 143 k then
        (bif Nat.ble 144 k then (bif Nat.ble 145 k then (bif Nat.beq k 145 then 0 else 0) else (bif Nat.beq k 144 then 25 else 0)) else (bif Nat.beq k 143 then 190 else 0))
       else
        (bif Nat.ble 142 k then (bif Nat.beq k 142 then 190 else 0) else (bif Nat.beq k 141 then 166 else 0)))
      else
       (bif Nat.ble 138 k then
        (bif Nat.ble 139 k then (bif Nat.ble 140 k then (bif Nat.beq k 140 then 188 else 0) else (bif Nat.beq k 139 then 188 else 0)) else (bif Nat.beq k 138 then 0 else 0))
       else
        (bif Nat.ble 137 k then (bif Nat.beq k 137 then 166 else 0) else (bif Nat.beq k 136 then 45 else 0))))
     else
      (bif Nat.ble 131 k then
       (bif Nat.ble 133 k then
        (bif Nat.ble 134 k then (bif Nat.ble 135 k then (bif Nat.beq k 135 then 143 else 0) else (bif Nat.beq k 134 then 143 else 0)) else (bif Nat.beq k 133 then 166 else 0))
       else
        (bif Nat.ble 132 k then (bif Nat.beq k 132 then 42 else 0) else (bif Nat.beq k 131 then 166 else 0)))
      else
       (bif Nat.ble 129 k then (bif Nat.ble 130 k then (bif Nat.beq k 130 then 45 else 0) else (bif Nat.beq k 129 then 22 else 0)) else (bif Nat.ble 128 k then (bif Nat.beq k 128 then 166 else 0) else (bif Nat.beq k 127 then 143 else 0)))))
    else
     (bif Nat.ble 118 k then
      (bif Nat.ble 122 k then
       (bif Nat.ble 124 k then
        (bif Nat.ble 125 k then (bif Nat.ble 126 k then (bif Nat.beq k 126 then 120 else 0) else (bif Nat.beq k 125 then 47 else 0)) else (bif Nat.beq k 124 then 0 else 0))
       else
        (bif Nat.ble 123 k then (bif Nat.beq k 123 then 0 else 0) else (bif Nat.beq k 122 then 91 else 0)))
      else
       (bif Nat.ble 120 k then (bif Nat.ble 121 k then (bif Nat.beq k 121 then 0 else 0) else (bif Nat.beq k 120 then 66 else 0)) else (bif Nat.ble 119 k then (bif Nat.beq k 119 then 42 else 0) else (bif Nat.beq k 118 then 42 else 0))))
     else
      (bif Nat.ble 113 k then
       (bif Nat.ble 115 k then
        (bif Nat.ble 116 k then (bif Nat.ble 117 k then (bif Nat.beq k 117 then 42 else 0) else (bif Nat.beq k 116 then 67 else 0)) else (bif Nat.beq k 115 then 42 else 0))
       else
        (bif Nat.ble 114 k then (bif Nat.beq k 114 then 0 else 0) else (bif Nat.beq k 113 then 21 else 0)))
      else
       (bif Nat.ble 111 k then (bif Nat.ble 112 k then (bif Nat.beq k 112 then 21 else 0) else (bif Nat.beq k 111 then 22 else 0)) else (bif Nat.ble 110 k then (bif Nat.beq k 110 then 47 else 0) else (bif Nat.beq k 109 then 0 else 0))))))
   else
    (bif Nat.ble 91 k then
     (bif Nat.ble 100 k then
      (bif Nat.ble 104 k then
       (bif Nat.ble 106 k then
        (bif Nat.ble 107 k then (bif Nat.ble 108 k then (bif Nat.beq k 108 then 0 else 0) else (bif Nat.beq k 107 then 0 else 0)) else (bif Nat.beq k 106 then 0 else 0))
       else
        (bif Nat.ble 105 k then (bif Nat.beq k 105 then 46 else 0) else (bif Nat.beq k 104 then 25 else 0)))
      else
       (bif Nat.ble 102 k then (bif Nat.ble 103 k then (bif Nat.beq k 103 then 25 else 0) else (bif Nat.beq k 102 then 45 else 0)) else (bif Nat.ble 101 k then (bif Nat.beq k 101 then 25 else 0) else (bif Nat.beq k 100 then 71 else 0))))
     else
      (bif Nat.ble 95 k then
       (bif Nat.ble 97 k then
        (bif Nat.ble 98 k then (bif Nat.ble 99 k then (bif Nat.beq k 99 then 71 else 0) else (bif Nat.beq k 98 then 25 else 0)) else (bif Nat.beq k 97 then 47 else 0))
       else
        (bif Nat.ble 96 k then (bif Nat.beq k 96 then 45 else 0) else (bif Nat.beq k 95 then 46 else 0)))
      else
       (bif Nat.ble 93 k then (bif Nat.ble 94 k then (bif Nat.beq k 94 then 46 else 0) else (bif Nat.beq k 93 then 21 else 0)) else (bif Nat.ble 92 k then (bif Nat.beq k 92 then 25 else 0) else (bif Nat.beq k 91 then 0 else 0)))))
    else
     (bif Nat.ble 82 k then
      (bif Nat.ble 86 k then
       (bif Nat.ble 88 k then
        (bif Nat.ble 89 k then (bif Nat.ble 90 k then (bif Nat.beq k 90 then 25 else 0) else (bif Nat.beq k 89 then 25 else 0)) else (bif Nat.beq k 88 then 0 else 0))
       else
        (bif Nat.ble 87 k then (bif Nat.beq k 87 then 0 else 0) else (bif Nat.beq k 86 then 0 else 0)))
      else
       (bif Nat.ble 84 k then (bif Nat.ble 85 k then (bif Nat.beq k 85 then 0 else 0) else (bif Nat.beq k 84 then 42 else 0)) else (bif Nat.ble 83 k then (bif Nat.beq k 83 then 22 else 0) else (bif Nat.beq k 82 then 22 else 0))))
     else
      (bif Nat.ble 77 k then
       (bif Nat.ble 79 k then
        (bif Nat.ble 80 k then (bif Nat.ble 81 k then (bif Nat.beq k 81 then 0 else 0) else (bif Nat.beq k 80 then 0 else 0)) else (bif Nat.beq k 79 then 0 else 0))
       else
        (bif Nat.ble 78 k then (bif Nat.beq k 78 then 118 else 0) else (bif Nat.beq k 77 then 118 else 0)))
      else
       (bif Nat.ble 75 k then (bif Nat.ble 76 k then (bif Nat.beq k 76 then 140 else 0) else (bif Nat.beq k 75 then 138 else 0)) else (bif Nat.ble 74 k then (bif Nat.beq k 74 then 69 else 0) else (bif Nat.beq k 73 then 96 else 0)))))))
  else
   (bif Nat.ble 36 k then
    (bif Nat.ble 54 k then
     (bif Nat.ble 63 k then
      (bif Nat.ble 68 k then
       (bif Nat.ble 70 k then
        (bif Nat.ble 71 k then (bif Nat.ble 72 k then (bif Nat.beq k 72 then 96 else 0) else (bif Nat.beq k 71 then 96 else 0)) else (bif Nat.beq k 70 then 122 else 0))
       else
        (bif Nat.ble 69 k then (bif Nat.beq k 69 then 96 else 0) else (bif Nat.beq k 68 then 43 else 0)))
      else
       (bif Nat.ble 65 k then
        (bif Nat.ble 66 k then (bif Nat.ble 67 k then (bif Nat.beq k 67 then 22 else 0) else (bif Nat.beq k 66 then 22 else 0)) else (bif Nat.beq k 65 then 22 else 0))
       else
        (bif Nat.ble 64 k then (bif Nat.beq k 64 then 42 else 0) else (bif Nat.beq k 63 then 21 else 0))))
     else
      (bif Nat.ble 58 k then
       (bif Nat.ble 60 k then
        (bif Nat.ble 61 k then (bif Nat.ble 62 k then (bif Nat.beq k 62 then 67 else 0) else (bif Nat.beq k 61 then 67 else 0)) else (bif Nat.beq k 60 then 141 else 0))
       else
        (bif Nat.ble 59 k then (bif Nat.beq k 59 then 47 else 0) else (bif Nat.beq k 58 then 47 else 0)))
      else
       (bif Nat.ble 56 k then (bif Nat.ble 57 k then (bif Nat.beq k 57 then 43 else 0) else (bif Nat.beq k 56 then 43 else 0)) else (bif Nat.ble 55 k then (bif Nat.beq k 55 then 71 else 0) else (bif Nat.beq k 54 then 71 else 0)))))
    else
     (bif Nat.ble 45 k then
      (bif Nat.ble 49 k then
       (bif Nat.ble 51 k then
        (bif Nat.ble 52 k then (bif Nat.ble 53 k then (bif Nat.beq k 53 then 22 else 0) else (bif Nat.beq k 52 then 22 else 0)) else (bif Nat.beq k 51 then 94 else 0))
       else
        (bif Nat.ble 50 k then (bif Nat.beq k 50 then 43 else 0) else (bif Nat.beq k 49 then 43 else 0)))
      else
       (bif Nat.ble 47 k then (bif Nat.ble 48 k then (bif Nat.beq k 48 then 46 else 0) else (bif Nat.beq k 47 then 67 else 0)) else (bif Nat.ble 46 k then (bif Nat.beq k 46 then 96 else 0) else (bif Nat.beq k 45 then 117 else 0))))
     else
      (bif Nat.ble 40 k then
       (bif Nat.ble 42 k then
        (bif Nat.ble 43 k then (bif Nat.ble 44 k then (bif Nat.beq k 44 then 117 else 0) else (bif Nat.beq k 43 then 96 else 0)) else (bif Nat.beq k 42 then 0 else 0))
       else
        (bif Nat.ble 41 k then (bif Nat.beq k 41 then 18 else 0) else (bif Nat.beq k 40 then 22 else 0)))
      else
       (bif Nat.ble 38 k then (bif Nat.ble 39 k then (bif Nat.beq k 39 then 46 else 0) else (bif Nat.beq k 38 then 21 else 0)) else (bif Nat.ble 37 k then (bif Nat.beq k 37 then 22 else 0) else (bif Nat.beq k 36 then 0 else 0))))))
   else
    (bif Nat.ble 18 k then
     (bif Nat.ble 27 k then
      (bif Nat.ble 31 k then
       (bif Nat.ble 33 k then
        (bif Nat.ble 34 k then (bif Nat.ble 35 k then (bif Nat.beq k 35 then 25 else 0) else (bif Nat.beq k 34 then 0 else 0)) else (bif Nat.beq k 33 then 0 else 0))
       else
        (bif Nat.ble 32 k then (bif Nat.beq k 32 then 49 else 0) else (bif Nat.beq k 31 then 74 else 0)))
      else
       (bif Nat.ble 29 k then (bif Nat.ble 30 k then (bif Nat.beq k 30 then 22 else 0) else (bif Nat.beq k 29 then 23 else 0)) else (bif Nat.ble 28 k then (bif Nat.beq k 28 then 21 else 0) else (bif Nat.beq k 27 then 0 else 0))))
     else
      (bif Nat.ble 22 k then
       (bif Nat.ble 24 k then
        (bif Nat.ble 25 k then (bif Nat.ble 26 k then (bif Nat.beq k 26 then 0 else 0) else (bif Nat.beq k 25 then 0 else 0)) else (bif Nat.beq k 24 then 0 else 0))
       else
        (bif Nat.ble 23 k then (bif Nat.beq k 23 then 0 else 0) else (bif Nat.beq k 22 then 21 else 0)))
      else
       (bif Nat.ble 20 k then (bif Nat.ble 21 k then (bif Nat.beq k 21 then 21 else 0) else (bif Nat.beq k 20 then 0 else 0)) else (bif Nat.ble 19 k then (bif Nat.beq k 19 then 0 else 0) else (bif Nat.beq k 18 then 43 else 0)))))
    else
     (bif Nat.ble 9 k then
      (bif Nat.ble 13 k then
       (bif Nat.ble 15 k then
        (bif Nat.ble 16 k then (bif Nat.ble 17 k then (bif Nat.beq k 17 then 21 else 0) else (bif Nat.beq k 16 then 0 else 0)) else (bif Nat.beq k 15 then 0 else 0))
       else
        (bif Nat.ble 14 k then (bif Nat.beq k 14 then 0 else 0) else (bif Nat.beq k 13 then 0 else 0)))
      else
       (bif Nat.ble 11 k then (bif Nat.ble 12 k then (bif Nat.beq k 12 then 0 else 0) else (bif Nat.beq k 11 then 0 else 0)) else (bif Nat.ble 10 k then (bif Nat.beq k 10 then 0 else 0) else (bif Nat.beq k 9 then 0 else 0))))
     else
      (bif Nat.ble 4 k then
       (bif Nat.ble 6 k then
        (bif Nat.ble 7 k then (bif Nat.ble 8 k then (bif Nat.beq k 8 then 0 else 0) else (bif Nat.beq k 7 then 0 else 0)) else (bif Nat.beq k 6 then 116 else 0))
       else
        (bif Nat.ble 5 k then (bif Nat.beq k 5 then 22 else 0) else (bif Nat.beq k 4 then 0 else 0)))
      else
       (bif Nat.ble 2 k then (bif Nat.ble 3 k then (bif Nat.beq k 3 then 0 else 0) else (bif Nat.beq k 2 then 0 else 0)) else (bif Nat.ble 1 k then (bif Nat.beq k 1 then 0 else 0) else (bif Nat.beq k 0 then 0 else 0))))))))
def rmk (k : Nat) : Room := { frames := rmf k, cells := 0, slots := 0, locals := rml k }
abbrev cls : List vw_C := [(RX0, TX0, 6), (RX1, TX1, 9), (RX2, TX2, 5), (RX3, TX3, 5), (RX4, TX4, 9), (RX5, TX5, 10), (RX6, TX6, 4), (RX7, TX7, 8), (RX8, TX8, 30)]
