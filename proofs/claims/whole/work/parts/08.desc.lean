def rm_X11_isDay : Room := { frames := 0, cells := 0, slots := 0, locals := 0 }
def rm_X7_latest_3 : Room := { frames := 0, cells := 0, slots := 0, locals := 0 }
def rm_X7_usual : Room := { frames := 0, cells := 0, slots := 0, locals := 0 }
def rm_X7_value_3 : Room := { frames := 1, cells := 0, slots := 0, locals := 25 }
def rm_X5_refresh : Room := { frames := 2, cells := 0, slots := 0, locals := 49 }
def rm_X11_day : Room := { frames := 3, cells := 0, slots := 0, locals := 70 }
def rm_X9_add : Room := { frames := 0, cells := 0, slots := 0, locals := 0 }
def rm_X11_feed : Room := { frames := 1, cells := 0, slots := 0, locals := 23 }
def rm_X11_end : Room := { frames := 0, cells := 0, slots := 0, locals := 0 }
def rm_X9_signAt : Room := { frames := 0, cells := 0, slots := 0, locals := 0 }
def rm_X6_isLow : Room := { frames := 0, cells := 0, slots := 0, locals := 0 }
def rm_X6_isFigure : Room := { frames := 0, cells := 0, slots := 0, locals := 0 }
def rm_X6_fail : Room := { frames := 0, cells := 0, slots := 0, locals := 0 }
def rm_X6_stepNumber : Room := { frames := 1, cells := 0, slots := 0, locals := 21 }
def rm_X6_stepName : Room := { frames := 1, cells := 0, slots := 0, locals := 21 }
def rm_X6_step : Room := { frames := 2, cells := 0, slots := 0, locals := 41 }
def rm_X6_isName : Room := { frames := 4, cells := 0, slots := 0, locals := 85 }
def rm_X7_isThere_9 : Room := { frames := 0, cells := 0, slots := 0, locals := 0 }
def rm_X6_needNew : Room := { frames := 1, cells := 0, slots := 0, locals := 23 }
def rm_X6_needNumber : Room := { frames := 1, cells := 0, slots := 0, locals := 21 }
def rm_X6_takeNumber : Room := { frames := 3, cells := 0, slots := 0, locals := 62 }
def rm_X7_add_9 : Room := { frames := 0, cells := 0, slots := 0, locals := 0 }
def rm_X6_takeStop : Room := { frames := 3, cells := 0, slots := 0, locals := 62 }
def rm_X11_isMeasure : Room := { frames := 0, cells := 0, slots := 0, locals := 0 }
def rm_X6_takeLetter : Room := { frames := 3, cells := 0, slots := 0, locals := 62 }
def rm_X6_readLine : Room := { frames := 5, cells := 0, slots := 0, locals := 107 }
def rm_X6_isRule : Room := { frames := 5, cells := 0, slots := 0, locals := 107 }
def rm_X6_readText : Room := { frames := 6, cells := 0, slots := 0, locals := 131 }
def rm_X7_add_3 : Room := { frames := 0, cells := 0, slots := 0, locals := 0 }
def rm_X7_become_3 : Room := { frames := 1, cells := 0, slots := 0, locals := 24 }
def rm_X11_text : Room := { frames := 7, cells := 0, slots := 0, locals := 152 }
def rm_X11_fault : Room := { frames := 0, cells := 0, slots := 0, locals := 0 }
def rm_X11_rule : Room := { frames := 2, cells := 0, slots := 0, locals := 49 }
def rm_X11_isTold : Room := { frames := 0, cells := 0, slots := 0, locals := 0 }
def rm_X11_isHand : Room := { frames := 0, cells := 0, slots := 0, locals := 0 }
def rm_X5_third : Room := { frames := 0, cells := 0, slots := 0, locals := 0 }
def rm_X5_drawerBy_c : Room := { frames := 1, cells := 0, slots := 0, locals := 22 }
def rm_X0_add : Room := { frames := 2, cells := 0, slots := 0, locals := 43 }
def rm_X11_card : Room := { frames := 3, cells := 0, slots := 0, locals := 70 }
def rm_X0_has : Room := { frames := 0, cells := 0, slots := 0, locals := 0 }
def rm_X1_isOut : Room := { frames := 0, cells := 0, slots := 0, locals := 0 }
def rm_X11_bit : Room := { frames := 0, cells := 0, slots := 0, locals := 0 }
def rm_X1_isDue : Room := { frames := 0, cells := 0, slots := 0, locals := 0 }
def rm_X5_spreadOf : Room := { frames := 0, cells := 0, slots := 0, locals := 0 }
def rm_X1_spread : Room := { frames := 1, cells := 0, slots := 0, locals := 21 }
def rm_X11_of : Room := { frames := 2, cells := 0, slots := 0, locals := 43 }
def rm_X0_tellAnew : Room := { frames := 0, cells := 0, slots := 0, locals := 0 }
def rm_X11_anew : Room := { frames := 1, cells := 0, slots := 0, locals := 25 }
def rm_X0_knownOn : Room := { frames := 0, cells := 0, slots := 0, locals := 0 }
def rm_X11_known : Room := { frames := 1, cells := 0, slots := 0, locals := 25 }
def rm_X11_file : Room := { frames := 2, cells := 0, slots := 0, locals := 43 }
def rm_X11_out : Room := { frames := 1, cells := 0, slots := 0, locals := 21 }
def rm_X0_filedIn : Room := { frames := 1, cells := 0, slots := 0, locals := 20 }
def rm_J6_bitCount_0f7a4 : Room := { frames := 0, cells := 0, slots := 0, locals := 0 }
def rm_X0_elsewhere : Room := { frames := 2, cells := 0, slots := 0, locals := 43 }
def rm_X11_drawer : Room := { frames := 3, cells := 0, slots := 0, locals := 67 }
def rm_X5_drawerBy_t : Room := { frames := 1, cells := 0, slots := 0, locals := 22 }
def rm_X11_tell : Room := { frames := 2, cells := 0, slots := 0, locals := 43 }
def rm_X3_share : Room := { frames := 1, cells := 0, slots := 0, locals := 22 }
def rm_X3_weigh : Room := { frames := 2, cells := 0, slots := 0, locals := 48 }
def rm_X11_lowest : Room := { frames := 0, cells := 0, slots := 0, locals := 0 }
def rm_X11_chance : Room := { frames := 3, cells := 0, slots := 0, locals := 71 }
def rm_X11_isShare : Room := { frames := 0, cells := 0, slots := 0, locals := 0 }
def rm_X3_heaviest : Room := { frames := 1, cells := 0, slots := 0, locals := 13 }
def rm_X3_take : Room := { frames := 2, cells := 0, slots := 0, locals := 36 }
def rm_X11_look : Room := { frames := 3, cells := 0, slots := 0, locals := 71 }
def rm_X1_canMeasure : Room := { frames := 0, cells := 0, slots := 0, locals := 0 }
def rm_X1_miss_t : Room := { frames := 1, cells := 0, slots := 0, locals := 23 }
def rm_X10_insert : Room := { frames := 0, cells := 0, slots := 0, locals := 0 }
def rm_X10_findMatches : Room := { frames := 2, cells := 0, slots := 0, locals := 50 }
def rm_X11_match : Room := { frames := 3, cells := 0, slots := 0, locals := 74 }
def rm_X0_kept : Room := { frames := 1, cells := 0, slots := 0, locals := 20 }
def rm_X10_near : Room := { frames := 1, cells := 0, slots := 0, locals := 21 }
def rm_X11_byChance : Room := { frames := 2, cells := 0, slots := 0, locals := 48 }
def rm_X11_grown : Room := { frames := 2, cells := 0, slots := 0, locals := 49 }
def rm_X0_printed : Room := { frames := 1, cells := 0, slots := 0, locals := 20 }
def rm_X11_beside : Room := { frames := 3, cells := 0, slots := 0, locals := 74 }
def rm_X0_isBarred : Room := { frames := 1, cells := 0, slots := 0, locals := 15 }
def rm_X0_setBar : Room := { frames := 2, cells := 0, slots := 0, locals := 37 }
def rm_X11_bar : Room := { frames := 3, cells := 0, slots := 0, locals := 60 }
def rm_X1_miss_c : Room := { frames := 1, cells := 0, slots := 0, locals := 23 }
def rm_X0_joined : Room := { frames := 2, cells := 0, slots := 0, locals := 50 }
def rm_X11_join : Room := { frames := 3, cells := 0, slots := 0, locals := 75 }
def rm_X4_hang : Room := { frames := 0, cells := 0, slots := 0, locals := 0 }
def rm_X4_gather : Room := { frames := 3, cells := 0, slots := 0, locals := 75 }
def rm_X4_number : Room := { frames := 1, cells := 0, slots := 0, locals := 20 }
def rm_X4_isOne : Room := { frames := 0, cells := 0, slots := 0, locals := 0 }
def rm_X4_greatest : Room := { frames := 1, cells := 0, slots := 0, locals := 22 }
def rm_X4_quarrels : Room := { frames := 2, cells := 0, slots := 0, locals := 37 }
def rm_X11_men : Room := { frames := 4, cells := 0, slots := 0, locals := 97 }
def rm_X4_findDoubles : Room := { frames := 1, cells := 0, slots := 0, locals := 22 }
def rm_X11_guess : Room := { frames := 4, cells := 0, slots := 0, locals := 97 }
def rm_X2_isCounted : Room := { frames := 1, cells := 0, slots := 0, locals := 20 }
def rm_X2_below : Room := { frames := 2, cells := 0, slots := 0, locals := 42 }
def rm_X2_difference : Room := { frames := 1, cells := 0, slots := 0, locals := 15 }
def rm_X2_near : Room := { frames := 2, cells := 0, slots := 0, locals := 43 }
def rm_X2_search : Room := { frames := 3, cells := 0, slots := 0, locals := 69 }
def rm_X11_even : Room := { frames := 4, cells := 0, slots := 0, locals := 99 }
def rm_X11_judge : Room := { frames := 3, cells := 0, slots := 0, locals := 69 }
def rm_X11_hold : Room := { frames := 3, cells := 0, slots := 0, locals := 74 }
def rm_X11_isHold : Room := { frames := 0, cells := 0, slots := 0, locals := 0 }
def rm_X11_leaned : Room := { frames := 3, cells := 0, slots := 0, locals := 75 }
def rm_X11_held : Room := { frames := 4, cells := 0, slots := 0, locals := 100 }
def rm_X11_wrong : Room := { frames := 4, cells := 0, slots := 0, locals := 100 }
def rm_X11_isSheet : Room := { frames := 0, cells := 0, slots := 0, locals := 0 }
def rm_X11_isLane : Room := { frames := 0, cells := 0, slots := 0, locals := 0 }
def rm_X8_renew : Room := { frames := 0, cells := 0, slots := 0, locals := 0 }
def rm_X11_sheet : Room := { frames := 1, cells := 0, slots := 0, locals := 23 }
def rm_X8_has : Room := { frames := 0, cells := 0, slots := 0, locals := 0 }
def rm_X8_put : Room := { frames := 0, cells := 0, slots := 0, locals := 0 }
def rm_X11_lay : Room := { frames := 1, cells := 0, slots := 0, locals := 22 }
def rm_X8_refusal : Room := { frames := 0, cells := 0, slots := 0, locals := 0 }
def rm_X11_read : Room := { frames := 3, cells := 0, slots := 0, locals := 70 }
def rm_X11_torn : Room := { frames := 0, cells := 0, slots := 0, locals := 0 }
def rm_X0_due : Room := { frames := 1, cells := 0, slots := 0, locals := 21 }
def rm_X11_wrongHolds : Room := { frames := 1, cells := 0, slots := 0, locals := 20 }
def rm_X11_count : Room := { frames := 3, cells := 0, slots := 0, locals := 67 }
def rm_X12_in : Room := { frames := 0, cells := 0, slots := 0, locals := 0 }
def rm_X12_day : Room := { frames := 1, cells := 0, slots := 0, locals := 25 }
def rm_X12_feed : Room := { frames := 0, cells := 0, slots := 0, locals := 0 }
def rm_X12_end : Room := { frames := 1, cells := 0, slots := 0, locals := 25 }
def rm_X12_byteAt : Room := { frames := 0, cells := 0, slots := 0, locals := 0 }
def rm_X12_fails : Room := { frames := 0, cells := 0, slots := 0, locals := 0 }
def rm_X12_next : Room := { frames := 1, cells := 0, slots := 0, locals := 25 }
def rm_X12_nameHere : Room := { frames := 1, cells := 0, slots := 0, locals := 21 }
def rm_X12_number : Room := { frames := 2, cells := 0, slots := 0, locals := 46 }
def rm_X12_once : Room := { frames := 1, cells := 0, slots := 0, locals := 21 }
def rm_X12_readOf : Room := { frames := 2, cells := 0, slots := 0, locals := 46 }
def rm_X12_readLine : Room := { frames := 3, cells := 0, slots := 0, locals := 69 }
def rm_X12_text : Room := { frames := 4, cells := 0, slots := 0, locals := 94 }
def rm_X12_fault : Room := { frames := 0, cells := 0, slots := 0, locals := 0 }
def rm_X12_lineAt : Room := { frames := 0, cells := 0, slots := 0, locals := 0 }
def rm_X12_holdsThen : Room := { frames := 1, cells := 0, slots := 0, locals := 25 }
def rm_X12_firstEdge : Room := { frames := 2, cells := 0, slots := 0, locals := 50 }
def rm_X12_secondEdge : Room := { frames := 1, cells := 0, slots := 0, locals := 25 }
def rm_X12_spreadOf : Room := { frames := 2, cells := 0, slots := 0, locals := 50 }
def rm_X12_growOf : Room := { frames := 2, cells := 0, slots := 0, locals := 50 }
def rm_X12_rule : Room := { frames := 3, cells := 0, slots := 0, locals := 72 }
def rm_X12_isCard : Room := { frames := 1, cells := 0, slots := 0, locals := 25 }
def rm_X12_isMeasure : Room := { frames := 1, cells := 0, slots := 0, locals := 25 }
def rm_X12_isOut : Room := { frames := 0, cells := 0, slots := 0, locals := 0 }
def rm_X12_thirdOf : Room := { frames := 3, cells := 0, slots := 0, locals := 72 }
def rm_X12_drawerOf : Room := { frames := 4, cells := 0, slots := 0, locals := 95 }
def rm_X12_addCard : Room := { frames := 5, cells := 0, slots := 0, locals := 116 }
def rm_X12_card : Room := { frames := 6, cells := 0, slots := 0, locals := 145 }
def rm_X12_isDue : Room := { frames := 2, cells := 0, slots := 0, locals := 50 }
def rm_X12_spreadAt : Room := { frames := 3, cells := 0, slots := 0, locals := 72 }
def rm_X12_of : Room := { frames := 5, cells := 0, slots := 0, locals := 116 }
def rm_X12_anew : Room := { frames := 2, cells := 0, slots := 0, locals := 46 }
def rm_X12_known : Room := { frames := 2, cells := 0, slots := 0, locals := 46 }
def rm_X12_file : Room := { frames := 5, cells := 0, slots := 0, locals := 116 }
def rm_X12_out : Room := { frames := 3, cells := 0, slots := 0, locals := 71 }
def rm_X12_drawer : Room := { frames := 5, cells := 0, slots := 0, locals := 116 }
def rm_X12_tell : Room := { frames := 4, cells := 0, slots := 0, locals := 95 }
def rm_X12_layThirds : Room := { frames := 4, cells := 0, slots := 0, locals := 95 }
def rm_X12_chanceOf : Room := { frames := 0, cells := 0, slots := 0, locals := 0 }
def rm_X12_lowest : Room := { frames := 0, cells := 0, slots := 0, locals := 0 }
def rm_X12_chance : Room := { frames := 5, cells := 0, slots := 0, locals := 118 }
def rm_X12_layLook : Room := { frames := 5, cells := 0, slots := 0, locals := 118 }
def rm_X12_isLooked : Room := { frames := 1, cells := 0, slots := 0, locals := 21 }
def rm_X12_look : Room := { frames := 6, cells := 0, slots := 0, locals := 145 }
def rm_X12_grownOf : Room := { frames := 3, cells := 0, slots := 0, locals := 72 }
def rm_X12_grown : Room := { frames := 4, cells := 0, slots := 0, locals := 96 }
def rm_X12_tryTelling : Room := { frames := 3, cells := 0, slots := 0, locals := 72 }
def rm_X12_tryCard : Room := { frames := 4, cells := 0, slots := 0, locals := 93 }
def rm_X12_missOf : Room := { frames := 4, cells := 0, slots := 0, locals := 96 }
def rm_X12_matches : Room := { frames := 5, cells := 0, slots := 0, locals := 124 }
def rm_X12_sizeOf : Room := { frames := 0, cells := 0, slots := 0, locals := 0 }
def rm_X12_matchAt : Room := { frames := 5, cells := 0, slots := 0, locals := 124 }
def rm_X12_match : Room := { frames := 6, cells := 0, slots := 0, locals := 150 }
def rm_X12_byChance : Room := { frames := 3, cells := 0, slots := 0, locals := 72 }
def rm_X12_onesOf : Room := { frames := 1, cells := 0, slots := 0, locals := 22 }
def rm_X12_beside : Room := { frames := 6, cells := 0, slots := 0, locals := 146 }
def rm_X12_bar : Room := { frames := 2, cells := 0, slots := 0, locals := 46 }
def rm_X12_doJoin : Room := { frames := 5, cells := 0, slots := 0, locals := 124 }
def rm_X12_join : Room := { frames := 6, cells := 0, slots := 0, locals := 147 }
def rm_X12_layMen : Room := { frames := 6, cells := 0, slots := 0, locals := 147 }
def rm_X12_men : Room := { frames := 7, cells := 0, slots := 0, locals := 170 }
def rm_X12_guess : Room := { frames := 7, cells := 0, slots := 0, locals := 170 }
def rm_X12_judgeEdges : Room := { frames := 4, cells := 0, slots := 0, locals := 93 }
def rm_X12_even : Room := { frames := 5, cells := 0, slots := 0, locals := 122 }
def rm_X12_judge : Room := { frames := 5, cells := 0, slots := 0, locals := 122 }
def rm_X12_hold : Room := { frames := 6, cells := 0, slots := 0, locals := 146 }
def rm_X12_leaned : Room := { frames := 6, cells := 0, slots := 0, locals := 147 }
def rm_X12_held : Room := { frames := 7, cells := 0, slots := 0, locals := 171 }
def rm_X12_wrong : Room := { frames := 7, cells := 0, slots := 0, locals := 171 }
def rm_X12_sheet : Room := { frames := 1, cells := 0, slots := 0, locals := 25 }
def rm_X12_lay : Room := { frames := 1, cells := 0, slots := 0, locals := 25 }
def rm_X12_read : Room := { frames := 6, cells := 0, slots := 0, locals := 145 }
def rm_X12_torn : Room := { frames := 0, cells := 0, slots := 0, locals := 0 }
def rm_X12_count : Room := { frames := 5, cells := 0, slots := 0, locals := 116 }
theorem des_X11_isDay : xdes yX11_isDay 1 := ⟨by decide +kernel, by decide +kernel, by decide +kernel⟩
theorem des_X7_latest : xdes yX7_latest 2 := ⟨by decide +kernel, by decide +kernel, by decide +kernel⟩
theorem des_X7_usual : xdes yX7_usual 1 := ⟨by decide +kernel, by decide +kernel, by decide +kernel⟩
theorem des_X7_value : xdes yX7_value 2 := ⟨by decide +kernel, by decide +kernel, by decide +kernel⟩
theorem des_X5_refresh : xdes yX5_refresh 0 := ⟨by decide +kernel, by decide +kernel, by decide +kernel⟩
theorem des_X11_day : xdes yX11_day 1 := ⟨by decide +kernel, by decide +kernel, by decide +kernel⟩
theorem des_X9_add : xdes yX9_add 1 := ⟨by decide +kernel, by decide +kernel, by decide +kernel⟩
theorem des_X11_feed : xdes yX11_feed 1 := ⟨by decide +kernel, by decide +kernel, by decide +kernel⟩
theorem des_X11_end : xdes yX11_end 1 := ⟨by decide +kernel, by decide +kernel, by decide +kernel⟩
theorem des_X9_signAt : xdes yX9_signAt 1 := ⟨by decide +kernel, by decide +kernel, by decide +kernel⟩
theorem des_X6_isLow : xdes yX6_isLow 1 := ⟨by decide +kernel, by decide +kernel, by decide +kernel⟩
theorem des_X6_isFigure : xdes yX6_isFigure 1 := ⟨by decide +kernel, by decide +kernel, by decide +kernel⟩
theorem des_X6_fail : xdes yX6_fail 1 := ⟨by decide +kernel, by decide +kernel, by decide +kernel⟩
theorem des_X6_stepNumber : xdes yX6_stepNumber 0 := ⟨by decide +kernel, by decide +kernel, by decide +kernel⟩
theorem des_X6_stepName : xdes yX6_stepName 0 := ⟨by decide +kernel, by decide +kernel, by decide +kernel⟩
theorem des_X6_step : xdes yX6_step 0 := ⟨by decide +kernel, by decide +kernel, by decide +kernel⟩
theorem des_X6_isName : xdes yX6_isName 1 := ⟨by decide +kernel, by decide +kernel, by decide +kernel⟩
theorem des_X7_isThere : xdes yX7_isThere 2 := ⟨by decide +kernel, by decide +kernel, by decide +kernel⟩
theorem des_X6_needNew : xdes yX6_needNew 2 := ⟨by decide +kernel, by decide +kernel, by decide +kernel⟩
theorem des_X6_needNumber : xdes yX6_needNumber 2 := ⟨by decide +kernel, by decide +kernel, by decide +kernel⟩
theorem des_X6_takeNumber : xdes yX6_takeNumber 2 := ⟨by decide +kernel, by decide +kernel, by decide +kernel⟩
theorem des_X7_add : xdes yX7_add 4 := ⟨by decide +kernel, by decide +kernel, by decide +kernel⟩
theorem des_X6_takeStop : xdes yX6_takeStop 4 := ⟨by decide +kernel, by decide +kernel, by decide +kernel⟩
theorem des_X11_isMeasure : xdes yX11_isMeasure 1 := ⟨by decide +kernel, by decide +kernel, by decide +kernel⟩
theorem des_X6_takeLetter : xdes yX6_takeLetter 2 := ⟨by decide +kernel, by decide +kernel, by decide +kernel⟩
theorem des_X6_readLine : xdes yX6_readLine 0 := ⟨by decide +kernel, by decide +kernel, by decide +kernel⟩
theorem des_X6_isRule : xdes yX6_isRule 0 := ⟨by decide +kernel, by decide +kernel, by decide +kernel⟩
theorem des_X6_readText : xdes yX6_readText 0 := ⟨by decide +kernel, by decide +kernel, by decide +kernel⟩
theorem des_X7_become : xdes yX7_become 1 := ⟨by decide +kernel, by decide +kernel, by decide +kernel⟩
theorem des_X11_text : xdes yX11_text 0 := ⟨by decide +kernel, by decide +kernel, by decide +kernel⟩
theorem des_X11_fault : xdes yX11_fault 0 := ⟨by decide +kernel, by decide +kernel, by decide +kernel⟩
theorem des_X11_rule : xdes yX11_rule 2 := ⟨by decide +kernel, by decide +kernel, by decide +kernel⟩
theorem des_X11_isTold : xdes yX11_isTold 1 := ⟨by decide +kernel, by decide +kernel, by decide +kernel⟩
theorem des_X11_isHand : xdes yX11_isHand 1 := ⟨by decide +kernel, by decide +kernel, by decide +kernel⟩
theorem des_X5_third : xdes yX5_third 2 := ⟨by decide +kernel, by decide +kernel, by decide +kernel⟩
theorem des_X5_drawerBy : xdes yX5_drawerBy 1 := ⟨by decide +kernel, by decide +kernel, by decide +kernel⟩
theorem des_X0_add : xdes yX0_add 5 := ⟨by decide +kernel, by decide +kernel, by decide +kernel⟩
theorem des_X11_card : xdes yX11_card 7 := ⟨by decide +kernel, by decide +kernel, by decide +kernel⟩
theorem des_X0_has : xdes yX0_has 1 := ⟨by decide +kernel, by decide +kernel, by decide +kernel⟩
theorem des_X1_isOut : xdes yX1_isOut 0 := ⟨by decide +kernel, by decide +kernel, by decide +kernel⟩
theorem des_X11_bit : xdes yX11_bit 1 := ⟨by decide +kernel, by decide +kernel, by decide +kernel⟩
theorem des_X1_isDue : xdes yX1_isDue 1 := ⟨by decide +kernel, by decide +kernel, by decide +kernel⟩
theorem des_X5_spreadOf : xdes yX5_spreadOf 1 := ⟨by decide +kernel, by decide +kernel, by decide +kernel⟩
theorem des_X1_spread : xdes yX1_spread 1 := ⟨by decide +kernel, by decide +kernel, by decide +kernel⟩
theorem des_X11_of : xdes yX11_of 2 := ⟨by decide +kernel, by decide +kernel, by decide +kernel⟩
theorem des_X0_tellAnew : xdes yX0_tellAnew 3 := ⟨by decide +kernel, by decide +kernel, by decide +kernel⟩
theorem des_X11_anew : xdes yX11_anew 3 := ⟨by decide +kernel, by decide +kernel, by decide +kernel⟩
theorem des_X0_knownOn : xdes yX0_knownOn 3 := ⟨by decide +kernel, by decide +kernel, by decide +kernel⟩
theorem des_X11_known : xdes yX11_known 3 := ⟨by decide +kernel, by decide +kernel, by decide +kernel⟩
theorem des_X11_file : xdes yX11_file 1 := ⟨by decide +kernel, by decide +kernel, by decide +kernel⟩
theorem des_X11_out : xdes yX11_out 1 := ⟨by decide +kernel, by decide +kernel, by decide +kernel⟩
theorem des_X0_filedIn : xdes yX0_filedIn 1 := ⟨by decide +kernel, by decide +kernel, by decide +kernel⟩
theorem des_J6_bitCount_0f7a4 : xdes yJ6_bitCount_0f7a4 1 := ⟨by decide +kernel, by decide +kernel, by decide +kernel⟩
theorem des_X0_elsewhere : xdes yX0_elsewhere 1 := ⟨by decide +kernel, by decide +kernel, by decide +kernel⟩
theorem des_X11_drawer : xdes yX11_drawer 2 := ⟨by decide +kernel, by decide +kernel, by decide +kernel⟩
theorem des_X11_tell : xdes yX11_tell 5 := ⟨by decide +kernel, by decide +kernel, by decide +kernel⟩
theorem des_X3_share : xdes yX3_share 4 := ⟨by decide +kernel, by decide +kernel, by decide +kernel⟩
theorem des_X3_weigh : xdes yX3_weigh 2 := ⟨by decide +kernel, by decide +kernel, by decide +kernel⟩
theorem des_X11_lowest : xdes yX11_lowest 3 := ⟨by decide +kernel, by decide +kernel, by decide +kernel⟩
theorem des_X11_chance : xdes yX11_chance 2 := ⟨by decide +kernel, by decide +kernel, by decide +kernel⟩
theorem des_X11_isShare : xdes yX11_isShare 1 := ⟨by decide +kernel, by decide +kernel, by decide +kernel⟩
theorem des_X3_heaviest : xdes yX3_heaviest 0 := ⟨by decide +kernel, by decide +kernel, by decide +kernel⟩
theorem des_X3_take : xdes yX3_take 1 := ⟨by decide +kernel, by decide +kernel, by decide +kernel⟩
theorem des_X11_look : xdes yX11_look 2 := ⟨by decide +kernel, by decide +kernel, by decide +kernel⟩
theorem des_X1_canMeasure : xdes yX1_canMeasure 3 := ⟨by decide +kernel, by decide +kernel, by decide +kernel⟩
theorem des_X1_miss : xdes yX1_miss 3 := ⟨by decide +kernel, by decide +kernel, by decide +kernel⟩
theorem des_X10_insert : xdes yX10_insert 1 := ⟨by decide +kernel, by decide +kernel, by decide +kernel⟩
theorem des_X10_findMatches : xdes yX10_findMatches 1 := ⟨by decide +kernel, by decide +kernel, by decide +kernel⟩
theorem des_X11_match : xdes yX11_match 1 := ⟨by decide +kernel, by decide +kernel, by decide +kernel⟩
theorem des_X0_kept : xdes yX0_kept 0 := ⟨by decide +kernel, by decide +kernel, by decide +kernel⟩
theorem des_X10_near : xdes yX10_near 2 := ⟨by decide +kernel, by decide +kernel, by decide +kernel⟩
theorem des_X11_byChance : xdes yX11_byChance 1 := ⟨by decide +kernel, by decide +kernel, by decide +kernel⟩
theorem des_X11_grown : xdes yX11_grown 3 := ⟨by decide +kernel, by decide +kernel, by decide +kernel⟩
theorem des_X0_printed : xdes yX0_printed 1 := ⟨by decide +kernel, by decide +kernel, by decide +kernel⟩
theorem des_X11_beside : xdes yX11_beside 3 := ⟨by decide +kernel, by decide +kernel, by decide +kernel⟩
theorem des_X0_isBarred : xdes yX0_isBarred 2 := ⟨by decide +kernel, by decide +kernel, by decide +kernel⟩
theorem des_X0_setBar : xdes yX0_setBar 3 := ⟨by decide +kernel, by decide +kernel, by decide +kernel⟩
theorem des_X11_bar : xdes yX11_bar 3 := ⟨by decide +kernel, by decide +kernel, by decide +kernel⟩
theorem des_X0_joined : xdes yX0_joined 2 := ⟨by decide +kernel, by decide +kernel, by decide +kernel⟩
theorem des_X11_join : xdes yX11_join 2 := ⟨by decide +kernel, by decide +kernel, by decide +kernel⟩
theorem des_X4_hang : xdes yX4_hang 2 := ⟨by decide +kernel, by decide +kernel, by decide +kernel⟩
theorem des_X4_gather : xdes yX4_gather 0 := ⟨by decide +kernel, by decide +kernel, by decide +kernel⟩
theorem des_X4_number : xdes yX4_number 0 := ⟨by decide +kernel, by decide +kernel, by decide +kernel⟩
theorem des_X4_isOne : xdes yX4_isOne 2 := ⟨by decide +kernel, by decide +kernel, by decide +kernel⟩
theorem des_X4_greatest : xdes yX4_greatest 0 := ⟨by decide +kernel, by decide +kernel, by decide +kernel⟩
theorem des_X4_quarrels : xdes yX4_quarrels 0 := ⟨by decide +kernel, by decide +kernel, by decide +kernel⟩
theorem des_X11_men : xdes yX11_men 1 := ⟨by decide +kernel, by decide +kernel, by decide +kernel⟩
theorem des_X4_findDoubles : xdes yX4_findDoubles 2 := ⟨by decide +kernel, by decide +kernel, by decide +kernel⟩
theorem des_X11_guess : xdes yX11_guess 3 := ⟨by decide +kernel, by decide +kernel, by decide +kernel⟩
theorem des_X2_isCounted : xdes yX2_isCounted 2 := ⟨by decide +kernel, by decide +kernel, by decide +kernel⟩
theorem des_X2_below : xdes yX2_below 2 := ⟨by decide +kernel, by decide +kernel, by decide +kernel⟩
theorem des_X2_difference : xdes yX2_difference 3 := ⟨by decide +kernel, by decide +kernel, by decide +kernel⟩
theorem des_X2_near : xdes yX2_near 2 := ⟨by decide +kernel, by decide +kernel, by decide +kernel⟩
theorem des_X2_search : xdes yX2_search 2 := ⟨by decide +kernel, by decide +kernel, by decide +kernel⟩
theorem des_X11_even : xdes yX11_even 3 := ⟨by decide +kernel, by decide +kernel, by decide +kernel⟩
theorem des_X11_judge : xdes yX11_judge 4 := ⟨by decide +kernel, by decide +kernel, by decide +kernel⟩
theorem des_X11_hold : xdes yX11_hold 1 := ⟨by decide +kernel, by decide +kernel, by decide +kernel⟩
theorem des_X11_isHold : xdes yX11_isHold 1 := ⟨by decide +kernel, by decide +kernel, by decide +kernel⟩
theorem des_X11_leaned : xdes yX11_leaned 1 := ⟨by decide +kernel, by decide +kernel, by decide +kernel⟩
theorem des_X11_held : xdes yX11_held 2 := ⟨by decide +kernel, by decide +kernel, by decide +kernel⟩
theorem des_X11_wrong : xdes yX11_wrong 1 := ⟨by decide +kernel, by decide +kernel, by decide +kernel⟩
theorem des_X11_isSheet : xdes yX11_isSheet 1 := ⟨by decide +kernel, by decide +kernel, by decide +kernel⟩
theorem des_X11_isLane : xdes yX11_isLane 1 := ⟨by decide +kernel, by decide +kernel, by decide +kernel⟩
theorem des_X8_renew : xdes yX8_renew 2 := ⟨by decide +kernel, by decide +kernel, by decide +kernel⟩
theorem des_X11_sheet : xdes yX11_sheet 3 := ⟨by decide +kernel, by decide +kernel, by decide +kernel⟩
theorem des_X8_has : xdes yX8_has 1 := ⟨by decide +kernel, by decide +kernel, by decide +kernel⟩
theorem des_X8_put : xdes yX8_put 2 := ⟨by decide +kernel, by decide +kernel, by decide +kernel⟩
theorem des_X11_lay : xdes yX11_lay 3 := ⟨by decide +kernel, by decide +kernel, by decide +kernel⟩
theorem des_X8_refusal : xdes yX8_refusal 1 := ⟨by decide +kernel, by decide +kernel, by decide +kernel⟩
theorem des_X11_read : xdes yX11_read 5 := ⟨by decide +kernel, by decide +kernel, by decide +kernel⟩
theorem des_X11_torn : xdes yX11_torn 0 := ⟨by decide +kernel, by decide +kernel, by decide +kernel⟩
theorem des_X0_due : xdes yX0_due 0 := ⟨by decide +kernel, by decide +kernel, by decide +kernel⟩
theorem des_X11_wrongHolds : xdes yX11_wrongHolds 0 := ⟨by decide +kernel, by decide +kernel, by decide +kernel⟩
theorem des_X11_count : xdes yX11_count 1 := ⟨by decide +kernel, by decide +kernel, by decide +kernel⟩
theorem des_X12_in : xdes yX12_in 3 := ⟨by decide +kernel, by decide +kernel, by decide +kernel⟩
theorem des_X12_day : xdes yX12_day 1 := ⟨by decide +kernel, by decide +kernel, by decide +kernel⟩
theorem des_X12_feed : xdes yX12_feed 1 := ⟨by decide +kernel, by decide +kernel, by decide +kernel⟩
theorem des_X12_end : xdes yX12_end 1 := ⟨by decide +kernel, by decide +kernel, by decide +kernel⟩
theorem des_X12_byteAt : xdes yX12_byteAt 1 := ⟨by decide +kernel, by decide +kernel, by decide +kernel⟩
theorem des_X12_fails : xdes yX12_fails 1 := ⟨by decide +kernel, by decide +kernel, by decide +kernel⟩
theorem des_X12_next : xdes yX12_next 0 := ⟨by decide +kernel, by decide +kernel, by decide +kernel⟩
theorem des_X12_nameHere : xdes yX12_nameHere 0 := ⟨by decide +kernel, by decide +kernel, by decide +kernel⟩
theorem des_X12_number : xdes yX12_number 2 := ⟨by decide +kernel, by decide +kernel, by decide +kernel⟩
theorem des_X12_once : xdes yX12_once 3 := ⟨by decide +kernel, by decide +kernel, by decide +kernel⟩
theorem des_X12_readOf : xdes yX12_readOf 2 := ⟨by decide +kernel, by decide +kernel, by decide +kernel⟩
theorem des_X12_readLine : xdes yX12_readLine 0 := ⟨by decide +kernel, by decide +kernel, by decide +kernel⟩
theorem des_X12_text : xdes yX12_text 0 := ⟨by decide +kernel, by decide +kernel, by decide +kernel⟩
theorem des_X12_fault : xdes yX12_fault 0 := ⟨by decide +kernel, by decide +kernel, by decide +kernel⟩
theorem des_X12_lineAt : xdes yX12_lineAt 3 := ⟨by decide +kernel, by decide +kernel, by decide +kernel⟩
theorem des_X12_holdsThen : xdes yX12_holdsThen 4 := ⟨by decide +kernel, by decide +kernel, by decide +kernel⟩
theorem des_X12_firstEdge : xdes yX12_firstEdge 2 := ⟨by decide +kernel, by decide +kernel, by decide +kernel⟩
theorem des_X12_secondEdge : xdes yX12_secondEdge 2 := ⟨by decide +kernel, by decide +kernel, by decide +kernel⟩
theorem des_X12_spreadOf : xdes yX12_spreadOf 2 := ⟨by decide +kernel, by decide +kernel, by decide +kernel⟩
theorem des_X12_growOf : xdes yX12_growOf 2 := ⟨by decide +kernel, by decide +kernel, by decide +kernel⟩
theorem des_X12_rule : xdes yX12_rule 2 := ⟨by decide +kernel, by decide +kernel, by decide +kernel⟩
theorem des_X12_isCard : xdes yX12_isCard 1 := ⟨by decide +kernel, by decide +kernel, by decide +kernel⟩
theorem des_X12_isMeasure : xdes yX12_isMeasure 1 := ⟨by decide +kernel, by decide +kernel, by decide +kernel⟩
theorem des_X12_isOut : xdes yX12_isOut 1 := ⟨by decide +kernel, by decide +kernel, by decide +kernel⟩
theorem des_X12_thirdOf : xdes yX12_thirdOf 3 := ⟨by decide +kernel, by decide +kernel, by decide +kernel⟩
theorem des_X12_drawerOf : xdes yX12_drawerOf 1 := ⟨by decide +kernel, by decide +kernel, by decide +kernel⟩
theorem des_X12_addCard : xdes yX12_addCard 7 := ⟨by decide +kernel, by decide +kernel, by decide +kernel⟩
theorem des_X12_card : xdes yX12_card 7 := ⟨by decide +kernel, by decide +kernel, by decide +kernel⟩
theorem des_X12_isDue : xdes yX12_isDue 1 := ⟨by decide +kernel, by decide +kernel, by decide +kernel⟩
theorem des_X12_spreadAt : xdes yX12_spreadAt 1 := ⟨by decide +kernel, by decide +kernel, by decide +kernel⟩
theorem des_X12_of : xdes yX12_of 2 := ⟨by decide +kernel, by decide +kernel, by decide +kernel⟩
theorem des_X12_anew : xdes yX12_anew 3 := ⟨by decide +kernel, by decide +kernel, by decide +kernel⟩
theorem des_X12_known : xdes yX12_known 3 := ⟨by decide +kernel, by decide +kernel, by decide +kernel⟩
theorem des_X12_file : xdes yX12_file 1 := ⟨by decide +kernel, by decide +kernel, by decide +kernel⟩
theorem des_X12_out : xdes yX12_out 1 := ⟨by decide +kernel, by decide +kernel, by decide +kernel⟩
theorem des_X12_drawer : xdes yX12_drawer 2 := ⟨by decide +kernel, by decide +kernel, by decide +kernel⟩
theorem des_X12_tell : xdes yX12_tell 5 := ⟨by decide +kernel, by decide +kernel, by decide +kernel⟩
theorem des_X12_layThirds : xdes yX12_layThirds 0 := ⟨by decide +kernel, by decide +kernel, by decide +kernel⟩
theorem des_X12_chanceOf : xdes yX12_chanceOf 1 := ⟨by decide +kernel, by decide +kernel, by decide +kernel⟩
theorem des_X12_lowest : xdes yX12_lowest 3 := ⟨by decide +kernel, by decide +kernel, by decide +kernel⟩
theorem des_X12_chance : xdes yX12_chance 2 := ⟨by decide +kernel, by decide +kernel, by decide +kernel⟩
theorem des_X12_layLook : xdes yX12_layLook 1 := ⟨by decide +kernel, by decide +kernel, by decide +kernel⟩
theorem des_X12_isLooked : xdes yX12_isLooked 1 := ⟨by decide +kernel, by decide +kernel, by decide +kernel⟩
theorem des_X12_look : xdes yX12_look 2 := ⟨by decide +kernel, by decide +kernel, by decide +kernel⟩
theorem des_X12_grownOf : xdes yX12_grownOf 3 := ⟨by decide +kernel, by decide +kernel, by decide +kernel⟩
theorem des_X12_grown : xdes yX12_grown 3 := ⟨by decide +kernel, by decide +kernel, by decide +kernel⟩
theorem des_X12_tryTelling : xdes yX12_tryTelling 0 := ⟨by decide +kernel, by decide +kernel, by decide +kernel⟩
theorem des_X12_tryCard : xdes yX12_tryCard 1 := ⟨by decide +kernel, by decide +kernel, by decide +kernel⟩
theorem des_X12_missOf : xdes yX12_missOf 1 := ⟨by decide +kernel, by decide +kernel, by decide +kernel⟩
theorem des_X12_matches : xdes yX12_matches 0 := ⟨by decide +kernel, by decide +kernel, by decide +kernel⟩
theorem des_X12_sizeOf : xdes yX12_sizeOf 1 := ⟨by decide +kernel, by decide +kernel, by decide +kernel⟩
theorem des_X12_matchAt : xdes yX12_matchAt 2 := ⟨by decide +kernel, by decide +kernel, by decide +kernel⟩
theorem des_X12_match : xdes yX12_match 1 := ⟨by decide +kernel, by decide +kernel, by decide +kernel⟩
theorem des_X12_byChance : xdes yX12_byChance 1 := ⟨by decide +kernel, by decide +kernel, by decide +kernel⟩
theorem des_X12_onesOf : xdes yX12_onesOf 1 := ⟨by decide +kernel, by decide +kernel, by decide +kernel⟩
theorem des_X12_beside : xdes yX12_beside 3 := ⟨by decide +kernel, by decide +kernel, by decide +kernel⟩
theorem des_X12_bar : xdes yX12_bar 3 := ⟨by decide +kernel, by decide +kernel, by decide +kernel⟩
theorem des_X12_doJoin : xdes yX12_doJoin 2 := ⟨by decide +kernel, by decide +kernel, by decide +kernel⟩
theorem des_X12_join : xdes yX12_join 2 := ⟨by decide +kernel, by decide +kernel, by decide +kernel⟩
theorem des_X12_layMen : xdes yX12_layMen 0 := ⟨by decide +kernel, by decide +kernel, by decide +kernel⟩
theorem des_X12_men : xdes yX12_men 1 := ⟨by decide +kernel, by decide +kernel, by decide +kernel⟩
theorem des_X12_guess : xdes yX12_guess 3 := ⟨by decide +kernel, by decide +kernel, by decide +kernel⟩
theorem des_X12_judgeEdges : xdes yX12_judgeEdges 3 := ⟨by decide +kernel, by decide +kernel, by decide +kernel⟩
theorem des_X12_even : xdes yX12_even 3 := ⟨by decide +kernel, by decide +kernel, by decide +kernel⟩
theorem des_X12_judge : xdes yX12_judge 4 := ⟨by decide +kernel, by decide +kernel, by decide +kernel⟩
theorem des_X12_hold : xdes yX12_hold 1 := ⟨by decide +kernel, by decide +kernel, by decide +kernel⟩
theorem des_X12_leaned : xdes yX12_leaned 1 := ⟨by decide +kernel, by decide +kernel, by decide +kernel⟩
theorem des_X12_held : xdes yX12_held 2 := ⟨by decide +kernel, by decide +kernel, by decide +kernel⟩
theorem des_X12_wrong : xdes yX12_wrong 1 := ⟨by decide +kernel, by decide +kernel, by decide +kernel⟩
theorem des_X12_sheet : xdes yX12_sheet 3 := ⟨by decide +kernel, by decide +kernel, by decide +kernel⟩
theorem des_X12_lay : xdes yX12_lay 3 := ⟨by decide +kernel, by decide +kernel, by decide +kernel⟩
theorem des_X12_read : xdes yX12_read 5 := ⟨by decide +kernel, by decide +kernel, by decide +kernel⟩
theorem des_X12_torn : xdes yX12_torn 0 := ⟨by decide +kernel, by decide +kernel, by decide +kernel⟩
theorem des_X12_count : xdes yX12_count 1 := ⟨by decide +kernel, by decide +kernel, by decide +kernel⟩
