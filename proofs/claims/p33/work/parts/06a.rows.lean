theorem ok_Land_init : mj_okA m_Land_init = true := by decide +kernel
theorem in_Land_init : lw_tbl[mM_p2 m_Land_init]? = some (Cond.instanceMethod (mM_y m_Land_init)) ∧ mM_ret m_Land_init = none ∧ mj_ini m_Land_init = true := by decide +kernel
theorem ok_Hollows_init : mj_okA m_Hollows_init = true := by decide +kernel
theorem in_Hollows_init : lw_tbl[mM_p2 m_Hollows_init]? = some (Cond.instanceMethod (mM_y m_Hollows_init)) ∧ mM_ret m_Hollows_init = none ∧ mj_ini m_Hollows_init = true := by decide +kernel
theorem ok_Frontier_init : mj_okA m_Frontier_init = true := by decide +kernel
theorem in_Frontier_init : lw_tbl[mM_p2 m_Frontier_init]? = some (Cond.instanceMethod (mM_y m_Frontier_init)) ∧ mM_ret m_Frontier_init = none ∧ mj_ini m_Frontier_init = true := by decide +kernel
theorem ok_Groups_init : mj_okA m_Groups_init = true := by decide +kernel
theorem in_Groups_init : lw_tbl[mM_p2 m_Groups_init]? = some (Cond.instanceMethod (mM_y m_Groups_init)) ∧ mM_ret m_Groups_init = none ∧ mj_ini m_Groups_init = true := by decide +kernel
theorem ok_Sight_init : mj_okA m_Sight_init = true := by decide +kernel
theorem in_Sight_init : lw_tbl[mM_p2 m_Sight_init]? = some (Cond.instanceMethod (mM_y m_Sight_init)) ∧ mM_ret m_Sight_init = none ∧ mj_ini m_Sight_init = true := by decide +kernel
theorem ok_Land_layOut : mj_okA m_Land_layOut = true := by decide +kernel
theorem se_Land_layOut : lw_tbl[mM_p3 m_Land_layOut]? = some (Cond.selects (mM_y m_Land_layOut).cls (mM_y m_Land_layOut) (mM_y m_Land_layOut)) ∧ lw_tbl[mM_p2 m_Land_layOut]? = some (Cond.instanceMethod (mM_y m_Land_layOut)) := by decide +kernel
theorem ok_Arr_fill : mj_okA m_Arr_fill = true := by decide +kernel
theorem st_Arr_fill : lw_tbl[mM_p2 m_Arr_fill]? = some (Cond.static (mM_y m_Arr_fill)) := by decide +kernel
theorem ok_Land_findNeighbours : mj_okA m_Land_findNeighbours = true := by decide +kernel
theorem se_Land_findNeighbours : lw_tbl[mM_p3 m_Land_findNeighbours]? = some (Cond.selects (mM_y m_Land_findNeighbours).cls (mM_y m_Land_findNeighbours) (mM_y m_Land_findNeighbours)) ∧ lw_tbl[mM_p2 m_Land_findNeighbours]? = some (Cond.instanceMethod (mM_y m_Land_findNeighbours)) := by decide +kernel
theorem ok_Land_numberOf : mj_okA m_Land_numberOf = true := by decide +kernel
theorem se_Land_numberOf : lw_tbl[mM_p3 m_Land_numberOf]? = some (Cond.selects (mM_y m_Land_numberOf).cls (mM_y m_Land_numberOf) (mM_y m_Land_numberOf)) ∧ lw_tbl[mM_p2 m_Land_numberOf]? = some (Cond.instanceMethod (mM_y m_Land_numberOf)) := by decide +kernel
theorem ok_Land_has : mj_okA m_Land_has = true := by decide +kernel
theorem se_Land_has : lw_tbl[mM_p3 m_Land_has]? = some (Cond.selects (mM_y m_Land_has).cls (mM_y m_Land_has) (mM_y m_Land_has)) ∧ lw_tbl[mM_p2 m_Land_has]? = some (Cond.instanceMethod (mM_y m_Land_has)) := by decide +kernel
theorem ok_Land_soften : mj_okA m_Land_soften = true := by decide +kernel
theorem se_Land_soften : lw_tbl[mM_p3 m_Land_soften]? = some (Cond.selects (mM_y m_Land_soften).cls (mM_y m_Land_soften) (mM_y m_Land_soften)) ∧ lw_tbl[mM_p2 m_Land_soften]? = some (Cond.instanceMethod (mM_y m_Land_soften)) := by decide +kernel
theorem ok_Land_neighbour : mj_okA m_Land_neighbour = true := by decide +kernel
theorem se_Land_neighbour : lw_tbl[mM_p3 m_Land_neighbour]? = some (Cond.selects (mM_y m_Land_neighbour).cls (mM_y m_Land_neighbour) (mM_y m_Land_neighbour)) ∧ lw_tbl[mM_p2 m_Land_neighbour]? = some (Cond.instanceMethod (mM_y m_Land_neighbour)) := by decide +kernel
theorem ok_Land_exchange : mj_okA m_Land_exchange = true := by decide +kernel
theorem se_Land_exchange : lw_tbl[mM_p3 m_Land_exchange]? = some (Cond.selects (mM_y m_Land_exchange).cls (mM_y m_Land_exchange) (mM_y m_Land_exchange)) ∧ lw_tbl[mM_p2 m_Land_exchange]? = some (Cond.instanceMethod (mM_y m_Land_exchange)) := by decide +kernel
theorem ok_Hollows_find : mj_okA m_Hollows_find = true := by decide +kernel
theorem se_Hollows_find : lw_tbl[mM_p3 m_Hollows_find]? = some (Cond.selects (mM_y m_Hollows_find).cls (mM_y m_Hollows_find) (mM_y m_Hollows_find)) ∧ lw_tbl[mM_p2 m_Hollows_find]? = some (Cond.instanceMethod (mM_y m_Hollows_find)) := by decide +kernel
theorem ok_Hollows_findLevels : mj_okA m_Hollows_findLevels = true := by decide +kernel
theorem se_Hollows_findLevels : lw_tbl[mM_p3 m_Hollows_findLevels]? = some (Cond.selects (mM_y m_Hollows_findLevels).cls (mM_y m_Hollows_findLevels) (mM_y m_Hollows_findLevels)) ∧ lw_tbl[mM_p2 m_Hollows_findLevels]? = some (Cond.instanceMethod (mM_y m_Hollows_findLevels)) := by decide +kernel
theorem ok_Frontier_clear : mj_okA m_Frontier_clear = true := by decide +kernel
theorem se_Frontier_clear : lw_tbl[mM_p3 m_Frontier_clear]? = some (Cond.selects (mM_y m_Frontier_clear).cls (mM_y m_Frontier_clear) (mM_y m_Frontier_clear)) ∧ lw_tbl[mM_p2 m_Frontier_clear]? = some (Cond.instanceMethod (mM_y m_Frontier_clear)) := by decide +kernel
theorem ok_Land_atEdge : mj_okA m_Land_atEdge = true := by decide +kernel
theorem se_Land_atEdge : lw_tbl[mM_p3 m_Land_atEdge]? = some (Cond.selects (mM_y m_Land_atEdge).cls (mM_y m_Land_atEdge) (mM_y m_Land_atEdge)) ∧ lw_tbl[mM_p2 m_Land_atEdge]? = some (Cond.instanceMethod (mM_y m_Land_atEdge)) := by decide +kernel
theorem ok_Frontier_add : mj_okA m_Frontier_add = true := by decide +kernel
theorem se_Frontier_add : lw_tbl[mM_p3 m_Frontier_add]? = some (Cond.selects (mM_y m_Frontier_add).cls (mM_y m_Frontier_add) (mM_y m_Frontier_add)) ∧ lw_tbl[mM_p2 m_Frontier_add]? = some (Cond.instanceMethod (mM_y m_Frontier_add)) := by decide +kernel
theorem ok_Frontier_takeLeast : mj_okA m_Frontier_takeLeast = true := by decide +kernel
theorem se_Frontier_takeLeast : lw_tbl[mM_p3 m_Frontier_takeLeast]? = some (Cond.selects (mM_y m_Frontier_takeLeast).cls (mM_y m_Frontier_takeLeast) (mM_y m_Frontier_takeLeast)) ∧ lw_tbl[mM_p2 m_Frontier_takeLeast]? = some (Cond.instanceMethod (mM_y m_Frontier_takeLeast)) := by decide +kernel
theorem ok_Hollows_spread : mj_okA m_Hollows_spread = true := by decide +kernel
theorem se_Hollows_spread : lw_tbl[mM_p3 m_Hollows_spread]? = some (Cond.selects (mM_y m_Hollows_spread).cls (mM_y m_Hollows_spread) (mM_y m_Hollows_spread)) ∧ lw_tbl[mM_p2 m_Hollows_spread]? = some (Cond.instanceMethod (mM_y m_Hollows_spread)) := by decide +kernel
theorem ok_Math_max : mj_okA m_Math_max = true := by decide +kernel
theorem st_Math_max : lw_tbl[mM_p2 m_Math_max]? = some (Cond.static (mM_y m_Math_max)) := by decide +kernel
theorem ok_Groups_part : mj_okA m_Groups_part = true := by decide +kernel
theorem se_Groups_part : lw_tbl[mM_p3 m_Groups_part]? = some (Cond.selects (mM_y m_Groups_part).cls (mM_y m_Groups_part) (mM_y m_Groups_part)) ∧ lw_tbl[mM_p2 m_Groups_part]? = some (Cond.instanceMethod (mM_y m_Groups_part)) := by decide +kernel
theorem ok_Hollows_inLake : mj_okA m_Hollows_inLake = true := by decide +kernel
theorem se_Hollows_inLake : lw_tbl[mM_p3 m_Hollows_inLake]? = some (Cond.selects (mM_y m_Hollows_inLake).cls (mM_y m_Hollows_inLake) (mM_y m_Hollows_inLake)) ∧ lw_tbl[mM_p2 m_Hollows_inLake]? = some (Cond.instanceMethod (mM_y m_Hollows_inLake)) := by decide +kernel
theorem ok_Hollows_depth : mj_okA m_Hollows_depth = true := by decide +kernel
theorem se_Hollows_depth : lw_tbl[mM_p3 m_Hollows_depth]? = some (Cond.selects (mM_y m_Hollows_depth).cls (mM_y m_Hollows_depth) (mM_y m_Hollows_depth)) ∧ lw_tbl[mM_p2 m_Hollows_depth]? = some (Cond.instanceMethod (mM_y m_Hollows_depth)) := by decide +kernel
theorem ok_Hollows_joinLakes : mj_okA m_Hollows_joinLakes = true := by decide +kernel
theorem se_Hollows_joinLakes : lw_tbl[mM_p3 m_Hollows_joinLakes]? = some (Cond.selects (mM_y m_Hollows_joinLakes).cls (mM_y m_Hollows_joinLakes) (mM_y m_Hollows_joinLakes)) ∧ lw_tbl[mM_p2 m_Hollows_joinLakes]? = some (Cond.instanceMethod (mM_y m_Hollows_joinLakes)) := by decide +kernel
theorem ok_Groups_join : mj_okA m_Groups_join = true := by decide +kernel
theorem se_Groups_join : lw_tbl[mM_p3 m_Groups_join]? = some (Cond.selects (mM_y m_Groups_join).cls (mM_y m_Groups_join) (mM_y m_Groups_join)) ∧ lw_tbl[mM_p2 m_Groups_join]? = some (Cond.instanceMethod (mM_y m_Groups_join)) := by decide +kernel
theorem ok_Groups_leaderOf : mj_okA m_Groups_leaderOf = true := by decide +kernel
theorem se_Groups_leaderOf : lw_tbl[mM_p3 m_Groups_leaderOf]? = some (Cond.selects (mM_y m_Groups_leaderOf).cls (mM_y m_Groups_leaderOf) (mM_y m_Groups_leaderOf)) ∧ lw_tbl[mM_p2 m_Groups_leaderOf]? = some (Cond.instanceMethod (mM_y m_Groups_leaderOf)) := by decide +kernel
theorem ok_Land_raiseTo : mj_okA m_Land_raiseTo = true := by decide +kernel
theorem se_Land_raiseTo : lw_tbl[mM_p3 m_Land_raiseTo]? = some (Cond.selects (mM_y m_Land_raiseTo).cls (mM_y m_Land_raiseTo) (mM_y m_Land_raiseTo)) ∧ lw_tbl[mM_p2 m_Land_raiseTo]? = some (Cond.instanceMethod (mM_y m_Land_raiseTo)) := by decide +kernel
theorem ok_Land_slanted : mj_okA m_Land_slanted = true := by decide +kernel
theorem st_Land_slanted : lw_tbl[mM_p2 m_Land_slanted]? = some (Cond.static (mM_y m_Land_slanted)) := by decide +kernel
theorem ok_Hollows_content : mj_okA m_Hollows_content = true := by decide +kernel
theorem se_Hollows_content : lw_tbl[mM_p3 m_Hollows_content]? = some (Cond.selects (mM_y m_Hollows_content).cls (mM_y m_Hollows_content) (mM_y m_Hollows_content)) ∧ lw_tbl[mM_p2 m_Hollows_content]? = some (Cond.instanceMethod (mM_y m_Hollows_content)) := by decide +kernel
theorem ok_Land_difference : mj_okA m_Land_difference = true := by decide +kernel
theorem se_Land_difference : lw_tbl[mM_p3 m_Land_difference]? = some (Cond.selects (mM_y m_Land_difference).cls (mM_y m_Land_difference) (mM_y m_Land_difference)) ∧ lw_tbl[mM_p2 m_Land_difference]? = some (Cond.instanceMethod (mM_y m_Land_difference)) := by decide +kernel
theorem ok_Math_abs : mj_okA m_Math_abs = true := by decide +kernel
theorem st_Math_abs : lw_tbl[mM_p2 m_Math_abs]? = some (Cond.static (mM_y m_Math_abs)) := by decide +kernel
theorem ok_Land_told : mj_okA m_Land_told = true := by decide +kernel
theorem se_Land_told : lw_tbl[mM_p3 m_Land_told]? = some (Cond.selects (mM_y m_Land_told).cls (mM_y m_Land_told) (mM_y m_Land_told)) ∧ lw_tbl[mM_p2 m_Land_told]? = some (Cond.instanceMethod (mM_y m_Land_told)) := by decide +kernel
theorem ok_Land_lowest : mj_okA m_Land_lowest = true := by decide +kernel
theorem se_Land_lowest : lw_tbl[mM_p3 m_Land_lowest]? = some (Cond.selects (mM_y m_Land_lowest).cls (mM_y m_Land_lowest) (mM_y m_Land_lowest)) ∧ lw_tbl[mM_p2 m_Land_lowest]? = some (Cond.instanceMethod (mM_y m_Land_lowest)) := by decide +kernel
theorem ok_Math_min : mj_okA m_Math_min = true := by decide +kernel
theorem st_Math_min : lw_tbl[mM_p2 m_Math_min]? = some (Cond.static (mM_y m_Math_min)) := by decide +kernel
theorem ok_Land_greatest : mj_okA m_Land_greatest = true := by decide +kernel
theorem se_Land_greatest : lw_tbl[mM_p3 m_Land_greatest]? = some (Cond.selects (mM_y m_Land_greatest).cls (mM_y m_Land_greatest) (mM_y m_Land_greatest)) ∧ lw_tbl[mM_p2 m_Land_greatest]? = some (Cond.instanceMethod (mM_y m_Land_greatest)) := by decide +kernel
theorem ok_Land_sum : mj_okA m_Land_sum = true := by decide +kernel
theorem se_Land_sum : lw_tbl[mM_p3 m_Land_sum]? = some (Cond.selects (mM_y m_Land_sum).cls (mM_y m_Land_sum) (mM_y m_Land_sum)) ∧ lw_tbl[mM_p2 m_Land_sum]? = some (Cond.instanceMethod (mM_y m_Land_sum)) := by decide +kernel
theorem ok_Land_slope : mj_okA m_Land_slope = true := by decide +kernel
theorem se_Land_slope : lw_tbl[mM_p3 m_Land_slope]? = some (Cond.selects (mM_y m_Land_slope).cls (mM_y m_Land_slope) (mM_y m_Land_slope)) ∧ lw_tbl[mM_p2 m_Land_slope]? = some (Cond.instanceMethod (mM_y m_Land_slope)) := by decide +kernel
theorem ok_Land_raise : mj_okA m_Land_raise = true := by decide +kernel
theorem se_Land_raise : lw_tbl[mM_p3 m_Land_raise]? = some (Cond.selects (mM_y m_Land_raise).cls (mM_y m_Land_raise) (mM_y m_Land_raise)) ∧ lw_tbl[mM_p2 m_Land_raise]? = some (Cond.instanceMethod (mM_y m_Land_raise)) := by decide +kernel
theorem ok_Land_stepsBetween : mj_okA m_Land_stepsBetween = true := by decide +kernel
theorem st_Land_stepsBetween : lw_tbl[mM_p2 m_Land_stepsBetween]? = some (Cond.static (mM_y m_Land_stepsBetween)) := by decide +kernel
theorem ok_Land_between : mj_okA m_Land_between = true := by decide +kernel
theorem st_Land_between : lw_tbl[mM_p2 m_Land_between]? = some (Cond.static (mM_y m_Land_between)) := by decide +kernel
theorem ok_Math_floorDiv : mj_okA m_Math_floorDiv = true := by decide +kernel
theorem st_Math_floorDiv : lw_tbl[mM_p2 m_Math_floorDiv]? = some (Cond.static (mM_y m_Math_floorDiv)) := by decide +kernel
theorem ok_Land_washAway : mj_okA m_Land_washAway = true := by decide +kernel
theorem se_Land_washAway : lw_tbl[mM_p3 m_Land_washAway]? = some (Cond.selects (mM_y m_Land_washAway).cls (mM_y m_Land_washAway) (mM_y m_Land_washAway)) ∧ lw_tbl[mM_p2 m_Land_washAway]? = some (Cond.instanceMethod (mM_y m_Land_washAway)) := by decide +kernel
theorem ok_Hollows_sizeOfLake : mj_okA m_Hollows_sizeOfLake = true := by decide +kernel
theorem se_Hollows_sizeOfLake : lw_tbl[mM_p3 m_Hollows_sizeOfLake]? = some (Cond.selects (mM_y m_Hollows_sizeOfLake).cls (mM_y m_Hollows_sizeOfLake) (mM_y m_Hollows_sizeOfLake)) ∧ lw_tbl[mM_p2 m_Hollows_sizeOfLake]? = some (Cond.instanceMethod (mM_y m_Hollows_sizeOfLake)) := by decide +kernel
theorem ok_Hollows_inOneLake : mj_okA m_Hollows_inOneLake = true := by decide +kernel
theorem se_Hollows_inOneLake : lw_tbl[mM_p3 m_Hollows_inOneLake]? = some (Cond.selects (mM_y m_Hollows_inOneLake).cls (mM_y m_Hollows_inOneLake) (mM_y m_Hollows_inOneLake)) ∧ lw_tbl[mM_p2 m_Hollows_inOneLake]? = some (Cond.instanceMethod (mM_y m_Hollows_inOneLake)) := by decide +kernel
theorem ok_Hollows_contentOfLake : mj_okA m_Hollows_contentOfLake = true := by decide +kernel
theorem se_Hollows_contentOfLake : lw_tbl[mM_p3 m_Hollows_contentOfLake]? = some (Cond.selects (mM_y m_Hollows_contentOfLake).cls (mM_y m_Hollows_contentOfLake) (mM_y m_Hollows_contentOfLake)) ∧ lw_tbl[mM_p2 m_Hollows_contentOfLake]? = some (Cond.instanceMethod (mM_y m_Hollows_contentOfLake)) := by decide +kernel
theorem ok_Sight_reaches : mj_okA m_Sight_reaches = true := by decide +kernel
theorem se_Sight_reaches : lw_tbl[mM_p3 m_Sight_reaches]? = some (Cond.selects (mM_y m_Sight_reaches).cls (mM_y m_Sight_reaches) (mM_y m_Sight_reaches)) ∧ lw_tbl[mM_p2 m_Sight_reaches]? = some (Cond.instanceMethod (mM_y m_Sight_reaches)) := by decide +kernel
theorem ok_Sight_countFrom : mj_okA m_Sight_countFrom = true := by decide +kernel
theorem se_Sight_countFrom : lw_tbl[mM_p3 m_Sight_countFrom]? = some (Cond.selects (mM_y m_Sight_countFrom).cls (mM_y m_Sight_countFrom) (mM_y m_Sight_countFrom)) ∧ lw_tbl[mM_p2 m_Sight_countFrom]? = some (Cond.instanceMethod (mM_y m_Sight_countFrom)) := by decide +kernel
