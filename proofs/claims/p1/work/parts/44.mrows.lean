theorem ok_M_init : mj_okA m_M_init = true := by decide +kernel
theorem in_M_init : lw_tbl[mM_p2 m_M_init]? = some (Cond.instanceMethod (mM_y m_M_init)) ∧ mM_ret m_M_init = none ∧ mj_ini m_M_init = true := by decide +kernel
theorem ok_ML_init : mj_okA m_ML_init = true := by decide +kernel
theorem in_ML_init : lw_tbl[mM_p2 m_ML_init]? = some (Cond.instanceMethod (mM_y m_ML_init)) ∧ mM_ret m_ML_init = none ∧ mj_ini m_ML_init = true := by decide +kernel
theorem ok_M_thrown : mj_okA m_M_thrown = true := by decide +kernel
theorem se_M_thrown : lw_tbl[mM_p3 m_M_thrown]? = some (Cond.selects (mM_y m_M_thrown).cls (mM_y m_M_thrown) (mM_y m_M_thrown)) ∧ lw_tbl[mM_p2 m_M_thrown]? = some (Cond.instanceMethod (mM_y m_M_thrown)) := by decide +kernel
theorem ok_M_reset : mj_okA m_M_reset = true := by decide +kernel
theorem se_M_reset : lw_tbl[mM_p3 m_M_reset]? = some (Cond.selects (mM_y m_M_reset).cls (mM_y m_M_reset) (mM_y m_M_reset)) ∧ lw_tbl[mM_p2 m_M_reset]? = some (Cond.instanceMethod (mM_y m_M_reset)) := by decide +kernel
theorem ok_M_isIn : mj_okA m_M_isIn = true := by decide +kernel
theorem st_M_isIn : lw_tbl[mM_p2 m_M_isIn]? = some (Cond.static (mM_y m_M_isIn)) := by decide +kernel
theorem ok_M_start : mj_okA m_M_start = true := by decide +kernel
theorem se_M_start : lw_tbl[mM_p3 m_M_start]? = some (Cond.selects (mM_y m_M_start).cls (mM_y m_M_start) (mM_y m_M_start)) ∧ lw_tbl[mM_p2 m_M_start]? = some (Cond.instanceMethod (mM_y m_M_start)) := by decide +kernel
theorem ok_M_refuse : mj_okA m_M_refuse = true := by decide +kernel
theorem se_M_refuse : lw_tbl[mM_p3 m_M_refuse]? = some (Cond.selects (mM_y m_M_refuse).cls (mM_y m_M_refuse) (mM_y m_M_refuse)) ∧ lw_tbl[mM_p2 m_M_refuse]? = some (Cond.instanceMethod (mM_y m_M_refuse)) := by decide +kernel
theorem ok_M_set : mj_okA m_M_set = true := by decide +kernel
theorem se_M_set : lw_tbl[mM_p3 m_M_set]? = some (Cond.selects (mM_y m_M_set).cls (mM_y m_M_set) (mM_y m_M_set)) ∧ lw_tbl[mM_p2 m_M_set]? = some (Cond.instanceMethod (mM_y m_M_set)) := by decide +kernel
theorem ok_M_isNoField : mj_okA m_M_isNoField = true := by decide +kernel
theorem se_M_isNoField : lw_tbl[mM_p3 m_M_isNoField]? = some (Cond.selects (mM_y m_M_isNoField).cls (mM_y m_M_isNoField) (mM_y m_M_isNoField)) ∧ lw_tbl[mM_p2 m_M_isNoField]? = some (Cond.instanceMethod (mM_y m_M_isNoField)) := by decide +kernel
theorem ok_M_isNo : mj_okA m_M_isNo = true := by decide +kernel
theorem se_M_isNo : lw_tbl[mM_p3 m_M_isNo]? = some (Cond.selects (mM_y m_M_isNo).cls (mM_y m_M_isNo) (mM_y m_M_isNo)) ∧ lw_tbl[mM_p2 m_M_isNo]? = some (Cond.instanceMethod (mM_y m_M_isNo)) := by decide +kernel
theorem ok_M_number : mj_okA m_M_number = true := by decide +kernel
theorem se_M_number : lw_tbl[mM_p3 m_M_number]? = some (Cond.selects (mM_y m_M_number).cls (mM_y m_M_number) (mM_y m_M_number)) ∧ lw_tbl[mM_p2 m_M_number]? = some (Cond.instanceMethod (mM_y m_M_number)) := by decide +kernel
theorem ok_ML_with : mj_okA m_ML_with = true := by decide +kernel
theorem se_ML_with : lw_tbl[mM_p3 m_ML_with]? = some (Cond.selects (mM_y m_ML_with).cls (mM_y m_ML_with) (mM_y m_ML_with)) ∧ lw_tbl[mM_p2 m_ML_with]? = some (Cond.instanceMethod (mM_y m_ML_with)) := by decide +kernel
theorem ok_M_tilt : mj_okA m_M_tilt = true := by decide +kernel
theorem se_M_tilt : lw_tbl[mM_p3 m_M_tilt]? = some (Cond.selects (mM_y m_M_tilt).cls (mM_y m_M_tilt) (mM_y m_M_tilt)) ∧ lw_tbl[mM_p2 m_M_tilt]? = some (Cond.instanceMethod (mM_y m_M_tilt)) := by decide +kernel
theorem ok_M_bound : mj_okA m_M_bound = true := by decide +kernel
theorem st_M_bound : lw_tbl[mM_p2 m_M_bound]? = some (Cond.static (mM_y m_M_bound)) := by decide +kernel
theorem ok_M_take : mj_okA m_M_take = true := by decide +kernel
theorem se_M_take : lw_tbl[mM_p3 m_M_take]? = some (Cond.selects (mM_y m_M_take).cls (mM_y m_M_take) (mM_y m_M_take)) ∧ lw_tbl[mM_p2 m_M_take]? = some (Cond.instanceMethod (mM_y m_M_take)) := by decide +kernel
theorem ok_ML_others : mj_okA m_ML_others = true := by decide +kernel
theorem se_ML_others : lw_tbl[mM_p3 m_ML_others]? = some (Cond.selects (mM_y m_ML_others).cls (mM_y m_ML_others) (mM_y m_ML_others)) ∧ lw_tbl[mM_p2 m_ML_others]? = some (Cond.instanceMethod (mM_y m_ML_others)) := by decide +kernel
theorem ok_ML_size : mj_okA m_ML_size = true := by decide +kernel
theorem se_ML_size : lw_tbl[mM_p3 m_ML_size]? = some (Cond.selects (mM_y m_ML_size).cls (mM_y m_ML_size) (mM_y m_ML_size)) ∧ lw_tbl[mM_p2 m_ML_size]? = some (Cond.instanceMethod (mM_y m_ML_size)) := by decide +kernel
theorem ok_ML_greatest : mj_okA m_ML_greatest = true := by decide +kernel
theorem se_ML_greatest : lw_tbl[mM_p3 m_ML_greatest]? = some (Cond.selects (mM_y m_ML_greatest).cls (mM_y m_ML_greatest) (mM_y m_ML_greatest)) ∧ lw_tbl[mM_p2 m_ML_greatest]? = some (Cond.instanceMethod (mM_y m_ML_greatest)) := by decide +kernel
theorem ok_M_hill : mj_okA m_M_hill = true := by decide +kernel
theorem se_M_hill : lw_tbl[mM_p3 m_M_hill]? = some (Cond.selects (mM_y m_M_hill).cls (mM_y m_M_hill) (mM_y m_M_hill)) ∧ lw_tbl[mM_p2 m_M_hill]? = some (Cond.instanceMethod (mM_y m_M_hill)) := by decide +kernel
theorem ok_M_dig : mj_okA m_M_dig = true := by decide +kernel
theorem se_M_dig : lw_tbl[mM_p3 m_M_dig]? = some (Cond.selects (mM_y m_M_dig).cls (mM_y m_M_dig) (mM_y m_M_dig)) ∧ lw_tbl[mM_p2 m_M_dig]? = some (Cond.instanceMethod (mM_y m_M_dig)) := by decide +kernel
theorem ok_ML_far : mj_okA m_ML_far = true := by decide +kernel
theorem se_ML_far : lw_tbl[mM_p3 m_ML_far]? = some (Cond.selects (mM_y m_ML_far).cls (mM_y m_ML_far) (mM_y m_ML_far)) ∧ lw_tbl[mM_p2 m_ML_far]? = some (Cond.instanceMethod (mM_y m_ML_far)) := by decide +kernel
theorem ok_ML_between : mj_okA m_ML_between = true := by decide +kernel
theorem se_ML_between : lw_tbl[mM_p3 m_ML_between]? = some (Cond.selects (mM_y m_ML_between).cls (mM_y m_ML_between) (mM_y m_ML_between)) ∧ lw_tbl[mM_p2 m_ML_between]? = some (Cond.instanceMethod (mM_y m_ML_between)) := by decide +kernel
theorem ok_M_smooth : mj_okA m_M_smooth = true := by decide +kernel
theorem se_M_smooth : lw_tbl[mM_p3 m_M_smooth]? = some (Cond.selects (mM_y m_M_smooth).cls (mM_y m_M_smooth) (mM_y m_M_smooth)) ∧ lw_tbl[mM_p2 m_M_smooth]? = some (Cond.instanceMethod (mM_y m_M_smooth)) := by decide +kernel
theorem ok_ML_next : mj_okA m_ML_next = true := by decide +kernel
theorem se_ML_next : lw_tbl[mM_p3 m_ML_next]? = some (Cond.selects (mM_y m_ML_next).cls (mM_y m_ML_next) (mM_y m_ML_next)) ∧ lw_tbl[mM_p2 m_ML_next]? = some (Cond.instanceMethod (mM_y m_ML_next)) := by decide +kernel
theorem ok_M_wear : mj_okA m_M_wear = true := by decide +kernel
theorem se_M_wear : lw_tbl[mM_p3 m_M_wear]? = some (Cond.selects (mM_y m_M_wear).cls (mM_y m_M_wear) (mM_y m_M_wear)) ∧ lw_tbl[mM_p2 m_M_wear]? = some (Cond.instanceMethod (mM_y m_M_wear)) := by decide +kernel
theorem ok_ML_to : mj_okA m_ML_to = true := by decide +kernel
theorem se_ML_to : lw_tbl[mM_p3 m_ML_to]? = some (Cond.selects (mM_y m_ML_to).cls (mM_y m_ML_to) (mM_y m_ML_to)) ∧ lw_tbl[mM_p2 m_ML_to]? = some (Cond.instanceMethod (mM_y m_ML_to)) := by decide +kernel
theorem ok_ML_goes : mj_okA m_ML_goes = true := by decide +kernel
theorem se_ML_goes : lw_tbl[mM_p3 m_ML_goes]? = some (Cond.selects (mM_y m_ML_goes).cls (mM_y m_ML_goes) (mM_y m_ML_goes)) ∧ lw_tbl[mM_p2 m_ML_goes]? = some (Cond.instanceMethod (mM_y m_ML_goes)) := by decide +kernel
theorem ok_ML_isEdge : mj_okA m_ML_isEdge = true := by decide +kernel
theorem se_ML_isEdge : lw_tbl[mM_p3 m_ML_isEdge]? = some (Cond.selects (mM_y m_ML_isEdge).cls (mM_y m_ML_isEdge) (mM_y m_ML_isEdge)) ∧ lw_tbl[mM_p2 m_ML_isEdge]? = some (Cond.instanceMethod (mM_y m_ML_isEdge)) := by decide +kernel
theorem ok_ML_flows : mj_okA m_ML_flows = true := by decide +kernel
theorem se_ML_flows : lw_tbl[mM_p3 m_ML_flows]? = some (Cond.selects (mM_y m_ML_flows).cls (mM_y m_ML_flows) (mM_y m_ML_flows)) ∧ lw_tbl[mM_p2 m_ML_flows]? = some (Cond.instanceMethod (mM_y m_ML_flows)) := by decide +kernel
theorem ok_M_fill : mj_okA m_M_fill = true := by decide +kernel
theorem se_M_fill : lw_tbl[mM_p3 m_M_fill]? = some (Cond.selects (mM_y m_M_fill).cls (mM_y m_M_fill) (mM_y m_M_fill)) ∧ lw_tbl[mM_p2 m_M_fill]? = some (Cond.instanceMethod (mM_y m_M_fill)) := by decide +kernel
theorem ok_ML_volume : mj_okA m_ML_volume = true := by decide +kernel
theorem se_ML_volume : lw_tbl[mM_p3 m_ML_volume]? = some (Cond.selects (mM_y m_ML_volume).cls (mM_y m_ML_volume) (mM_y m_ML_volume)) ∧ lw_tbl[mM_p2 m_ML_volume]? = some (Cond.instanceMethod (mM_y m_ML_volume)) := by decide +kernel
theorem ok_ML_levels : mj_okA m_ML_levels = true := by decide +kernel
theorem se_ML_levels : lw_tbl[mM_p3 m_ML_levels]? = some (Cond.selects (mM_y m_ML_levels).cls (mM_y m_ML_levels) (mM_y m_ML_levels)) ∧ lw_tbl[mM_p2 m_ML_levels]? = some (Cond.instanceMethod (mM_y m_ML_levels)) := by decide +kernel
theorem ok_M_setBrook : mj_okA m_M_setBrook = true := by decide +kernel
theorem se_M_setBrook : lw_tbl[mM_p3 m_M_setBrook]? = some (Cond.selects (mM_y m_M_setBrook).cls (mM_y m_M_setBrook) (mM_y m_M_setBrook)) ∧ lw_tbl[mM_p2 m_M_setBrook]? = some (Cond.instanceMethod (mM_y m_M_setBrook)) := by decide +kernel
theorem ok_M_map : mj_okA m_M_map = true := by decide +kernel
theorem se_M_map : lw_tbl[mM_p3 m_M_map]? = some (Cond.selects (mM_y m_M_map).cls (mM_y m_M_map) (mM_y m_M_map)) ∧ lw_tbl[mM_p2 m_M_map]? = some (Cond.instanceMethod (mM_y m_M_map)) := by decide +kernel
theorem ok_M_of : mj_okA m_M_of = true := by decide +kernel
theorem se_M_of : lw_tbl[mM_p3 m_M_of]? = some (Cond.selects (mM_y m_M_of).cls (mM_y m_M_of) (mM_y m_M_of)) ∧ lw_tbl[mM_p2 m_M_of]? = some (Cond.instanceMethod (mM_y m_M_of)) := by decide +kernel
theorem ok_ML_least : mj_okA m_ML_least = true := by decide +kernel
theorem se_ML_least : lw_tbl[mM_p3 m_ML_least]? = some (Cond.selects (mM_y m_ML_least).cls (mM_y m_ML_least) (mM_y m_ML_least)) ∧ lw_tbl[mM_p2 m_ML_least]? = some (Cond.instanceMethod (mM_y m_ML_least)) := by decide +kernel
theorem ok_ML_sum : mj_okA m_ML_sum = true := by decide +kernel
theorem se_ML_sum : lw_tbl[mM_p3 m_ML_sum]? = some (Cond.selects (mM_y m_ML_sum).cls (mM_y m_ML_sum) (mM_y m_ML_sum)) ∧ lw_tbl[mM_p2 m_ML_sum]? = some (Cond.instanceMethod (mM_y m_ML_sum)) := by decide +kernel
theorem ok_M_height : mj_okA m_M_height = true := by decide +kernel
theorem se_M_height : lw_tbl[mM_p3 m_M_height]? = some (Cond.selects (mM_y m_M_height).cls (mM_y m_M_height) (mM_y m_M_height)) ∧ lw_tbl[mM_p2 m_M_height]? = some (Cond.instanceMethod (mM_y m_M_height)) := by decide +kernel
theorem ok_M_water : mj_okA m_M_water = true := by decide +kernel
theorem se_M_water : lw_tbl[mM_p3 m_M_water]? = some (Cond.selects (mM_y m_M_water).cls (mM_y m_M_water) (mM_y m_M_water)) ∧ lw_tbl[mM_p2 m_M_water]? = some (Cond.instanceMethod (mM_y m_M_water)) := by decide +kernel
theorem ok_M_water_2 : mj_okA m_M_water_2 = true := by decide +kernel
theorem se_M_water_2 : lw_tbl[mM_p3 m_M_water_2]? = some (Cond.selects (mM_y m_M_water_2).cls (mM_y m_M_water_2) (mM_y m_M_water_2)) ∧ lw_tbl[mM_p2 m_M_water_2]? = some (Cond.instanceMethod (mM_y m_M_water_2)) := by decide +kernel
theorem ok_ML_end : mj_okA m_ML_end = true := by decide +kernel
theorem st_ML_end : lw_tbl[mM_p2 m_ML_end]? = some (Cond.static (mM_y m_ML_end)) := by decide +kernel
theorem ok_ML_rank : mj_okA m_ML_rank = true := by decide +kernel
theorem se_ML_rank : lw_tbl[mM_p3 m_ML_rank]? = some (Cond.selects (mM_y m_ML_rank).cls (mM_y m_ML_rank) (mM_y m_ML_rank)) ∧ lw_tbl[mM_p2 m_ML_rank]? = some (Cond.instanceMethod (mM_y m_ML_rank)) := by decide +kernel
theorem ok_ML_steps : mj_okA m_ML_steps = true := by decide +kernel
theorem st_ML_steps : lw_tbl[mM_p2 m_ML_steps]? = some (Cond.static (mM_y m_ML_steps)) := by decide +kernel
theorem ok_M_basins : mj_okA m_M_basins = true := by decide +kernel
theorem se_M_basins : lw_tbl[mM_p3 m_M_basins]? = some (Cond.selects (mM_y m_M_basins).cls (mM_y m_M_basins) (mM_y m_M_basins)) ∧ lw_tbl[mM_p2 m_M_basins]? = some (Cond.instanceMethod (mM_y m_M_basins)) := by decide +kernel
theorem ok_M_many : mj_okA m_M_many = true := by decide +kernel
theorem se_M_many : lw_tbl[mM_p3 m_M_many]? = some (Cond.selects (mM_y m_M_many).cls (mM_y m_M_many) (mM_y m_M_many)) ∧ lw_tbl[mM_p2 m_M_many]? = some (Cond.instanceMethod (mM_y m_M_many)) := by decide +kernel
theorem ok_M_plain : mj_okA m_M_plain = true := by decide +kernel
theorem se_M_plain : lw_tbl[mM_p3 m_M_plain]? = some (Cond.selects (mM_y m_M_plain).cls (mM_y m_M_plain) (mM_y m_M_plain)) ∧ lw_tbl[mM_p2 m_M_plain]? = some (Cond.instanceMethod (mM_y m_M_plain)) := by decide +kernel
theorem ok_M_pits : mj_okA m_M_pits = true := by decide +kernel
theorem se_M_pits : lw_tbl[mM_p3 m_M_pits]? = some (Cond.selects (mM_y m_M_pits).cls (mM_y m_M_pits) (mM_y m_M_pits)) ∧ lw_tbl[mM_p2 m_M_pits]? = some (Cond.instanceMethod (mM_y m_M_pits)) := by decide +kernel
theorem ok_M_mostRank : mj_okA m_M_mostRank = true := by decide +kernel
theorem se_M_mostRank : lw_tbl[mM_p3 m_M_mostRank]? = some (Cond.selects (mM_y m_M_mostRank).cls (mM_y m_M_mostRank) (mM_y m_M_mostRank)) ∧ lw_tbl[mM_p2 m_M_mostRank]? = some (Cond.instanceMethod (mM_y m_M_mostRank)) := by decide +kernel
theorem ok_M_mostRankNow : mj_okA m_M_mostRankNow = true := by decide +kernel
theorem se_M_mostRankNow : lw_tbl[mM_p3 m_M_mostRankNow]? = some (Cond.selects (mM_y m_M_mostRankNow).cls (mM_y m_M_mostRankNow) (mM_y m_M_mostRankNow)) ∧ lw_tbl[mM_p2 m_M_mostRankNow]? = some (Cond.instanceMethod (mM_y m_M_mostRankNow)) := by decide +kernel
theorem ok_M_longestStream : mj_okA m_M_longestStream = true := by decide +kernel
theorem se_M_longestStream : lw_tbl[mM_p3 m_M_longestStream]? = some (Cond.selects (mM_y m_M_longestStream).cls (mM_y m_M_longestStream) (mM_y m_M_longestStream)) ∧ lw_tbl[mM_p2 m_M_longestStream]? = some (Cond.instanceMethod (mM_y m_M_longestStream)) := by decide +kernel
theorem ok_M_longestNow : mj_okA m_M_longestNow = true := by decide +kernel
theorem se_M_longestNow : lw_tbl[mM_p3 m_M_longestNow]? = some (Cond.selects (mM_y m_M_longestNow).cls (mM_y m_M_longestNow) (mM_y m_M_longestNow)) ∧ lw_tbl[mM_p2 m_M_longestNow]? = some (Cond.instanceMethod (mM_y m_M_longestNow)) := by decide +kernel
theorem ok_M_level : mj_okA m_M_level = true := by decide +kernel
theorem se_M_level : lw_tbl[mM_p3 m_M_level]? = some (Cond.selects (mM_y m_M_level).cls (mM_y m_M_level) (mM_y m_M_level)) ∧ lw_tbl[mM_p2 m_M_level]? = some (Cond.instanceMethod (mM_y m_M_level)) := by decide +kernel
theorem ok_M_lakes : mj_okA m_M_lakes = true := by decide +kernel
theorem se_M_lakes : lw_tbl[mM_p3 m_M_lakes]? = some (Cond.selects (mM_y m_M_lakes).cls (mM_y m_M_lakes) (mM_y m_M_lakes)) ∧ lw_tbl[mM_p2 m_M_lakes]? = some (Cond.instanceMethod (mM_y m_M_lakes)) := by decide +kernel
theorem ok_M_lakesNow : mj_okA m_M_lakesNow = true := by decide +kernel
theorem se_M_lakesNow : lw_tbl[mM_p3 m_M_lakesNow]? = some (Cond.selects (mM_y m_M_lakesNow).cls (mM_y m_M_lakesNow) (mM_y m_M_lakesNow)) ∧ lw_tbl[mM_p2 m_M_lakesNow]? = some (Cond.instanceMethod (mM_y m_M_lakesNow)) := by decide +kernel
theorem ok_ML_lakes : mj_okA m_ML_lakes = true := by decide +kernel
theorem se_ML_lakes : lw_tbl[mM_p3 m_ML_lakes]? = some (Cond.selects (mM_y m_ML_lakes).cls (mM_y m_ML_lakes) (mM_y m_ML_lakes)) ∧ lw_tbl[mM_p2 m_ML_lakes]? = some (Cond.instanceMethod (mM_y m_ML_lakes)) := by decide +kernel
theorem ok_M_lake : mj_okA m_M_lake = true := by decide +kernel
theorem se_M_lake : lw_tbl[mM_p3 m_M_lake]? = some (Cond.selects (mM_y m_M_lake).cls (mM_y m_M_lake) (mM_y m_M_lake)) ∧ lw_tbl[mM_p2 m_M_lake]? = some (Cond.instanceMethod (mM_y m_M_lake)) := by decide +kernel
theorem ok_M_volume : mj_okA m_M_volume = true := by decide +kernel
theorem se_M_volume : lw_tbl[mM_p3 m_M_volume]? = some (Cond.selects (mM_y m_M_volume).cls (mM_y m_M_volume) (mM_y m_M_volume)) ∧ lw_tbl[mM_p2 m_M_volume]? = some (Cond.instanceMethod (mM_y m_M_volume)) := by decide +kernel
theorem ok_M_contour : mj_okA m_M_contour = true := by decide +kernel
theorem se_M_contour : lw_tbl[mM_p3 m_M_contour]? = some (Cond.selects (mM_y m_M_contour).cls (mM_y m_M_contour) (mM_y m_M_contour)) ∧ lw_tbl[mM_p2 m_M_contour]? = some (Cond.instanceMethod (mM_y m_M_contour)) := by decide +kernel
theorem ok_ML_contour : mj_okA m_ML_contour = true := by decide +kernel
theorem se_ML_contour : lw_tbl[mM_p3 m_ML_contour]? = some (Cond.selects (mM_y m_ML_contour).cls (mM_y m_ML_contour) (mM_y m_ML_contour)) ∧ lw_tbl[mM_p2 m_ML_contour]? = some (Cond.instanceMethod (mM_y m_ML_contour)) := by decide +kernel
theorem ok_ML_pieces : mj_okA m_ML_pieces = true := by decide +kernel
theorem se_ML_pieces : lw_tbl[mM_p3 m_ML_pieces]? = some (Cond.selects (mM_y m_ML_pieces).cls (mM_y m_ML_pieces) (mM_y m_ML_pieces)) ∧ lw_tbl[mM_p2 m_ML_pieces]? = some (Cond.instanceMethod (mM_y m_ML_pieces)) := by decide +kernel
theorem ok_ArrayList_init : mj_okA m_ArrayList_init = true := by decide +kernel
theorem in_ArrayList_init : lw_tbl[mM_p2 m_ArrayList_init]? = some (Cond.instanceMethod (mM_y m_ArrayList_init)) ∧ mM_ret m_ArrayList_init = none ∧ mj_ini m_ArrayList_init = true := by decide +kernel
theorem ok_AbstractList_init : mj_okA m_AbstractList_init = true := by decide +kernel
theorem in_AbstractList_init : lw_tbl[mM_p2 m_AbstractList_init]? = some (Cond.instanceMethod (mM_y m_AbstractList_init)) ∧ mM_ret m_AbstractList_init = none ∧ mj_ini m_AbstractList_init = true := by decide +kernel
theorem ok_AbstractCollection_init : mj_okA m_AbstractCollection_init = true := by decide +kernel
theorem in_AbstractCollection_init : lw_tbl[mM_p2 m_AbstractCollection_init]? = some (Cond.instanceMethod (mM_y m_AbstractCollection_init)) ∧ mM_ret m_AbstractCollection_init = none ∧ mj_ini m_AbstractCollection_init = true := by decide +kernel
theorem ok_ML_isHigh : mj_okA m_ML_isHigh = true := by decide +kernel
theorem se_ML_isHigh : lw_tbl[mM_p3 m_ML_isHigh]? = some (Cond.selects (mM_y m_ML_isHigh).cls (mM_y m_ML_isHigh) (mM_y m_ML_isHigh)) ∧ lw_tbl[mM_p2 m_ML_isHigh]? = some (Cond.instanceMethod (mM_y m_ML_isHigh)) := by decide +kernel
theorem ok_ArrayList_size : mj_okA m_ArrayList_size = true := by decide +kernel
theorem se_ArrayList_size : lw_tbl[mM_p3 m_ArrayList_size]? = some (Cond.selects (mM_y m_ArrayList_size).cls (mM_y m_ArrayList_size) (mM_y m_ArrayList_size)) ∧ lw_tbl[mM_p2 m_ArrayList_size]? = some (Cond.instanceMethod (mM_y m_ArrayList_size)) := by decide +kernel
theorem ok_ML_haveOne : mj_okA m_ML_haveOne = true := by decide +kernel
theorem st_ML_haveOne : lw_tbl[mM_p2 m_ML_haveOne]? = some (Cond.static (mM_y m_ML_haveOne)) := by decide +kernel
theorem ok_ML_isTwice : mj_okA m_ML_isTwice = true := by decide +kernel
theorem st_ML_isTwice : lw_tbl[mM_p2 m_ML_isTwice]? = some (Cond.static (mM_y m_ML_isTwice)) := by decide +kernel
theorem ok_M_sees : mj_okA m_M_sees = true := by decide +kernel
theorem se_M_sees : lw_tbl[mM_p3 m_M_sees]? = some (Cond.selects (mM_y m_M_sees).cls (mM_y m_M_sees) (mM_y m_M_sees)) ∧ lw_tbl[mM_p2 m_M_sees]? = some (Cond.instanceMethod (mM_y m_M_sees)) := by decide +kernel
theorem ok_ML_sees : mj_okA m_ML_sees = true := by decide +kernel
theorem se_ML_sees : lw_tbl[mM_p3 m_ML_sees]? = some (Cond.selects (mM_y m_ML_sees).cls (mM_y m_ML_sees) (mM_y m_ML_sees)) ∧ lw_tbl[mM_p2 m_ML_sees]? = some (Cond.instanceMethod (mM_y m_ML_sees)) := by decide +kernel
theorem ok_M_seen : mj_okA m_M_seen = true := by decide +kernel
theorem se_M_seen : lw_tbl[mM_p3 m_M_seen]? = some (Cond.selects (mM_y m_M_seen).cls (mM_y m_M_seen) (mM_y m_M_seen)) ∧ lw_tbl[mM_p2 m_M_seen]? = some (Cond.instanceMethod (mM_y m_M_seen)) := by decide +kernel
theorem ok_ML_seen : mj_okA m_ML_seen = true := by decide +kernel
theorem se_ML_seen : lw_tbl[mM_p3 m_ML_seen]? = some (Cond.selects (mM_y m_ML_seen).cls (mM_y m_ML_seen) (mM_y m_ML_seen)) ∧ lw_tbl[mM_p2 m_ML_seen]? = some (Cond.instanceMethod (mM_y m_ML_seen)) := by decide +kernel
theorem ok_M_takes : mj_okA m_M_takes = true := by decide +kernel
theorem se_M_takes : lw_tbl[mM_p3 m_M_takes]? = some (Cond.selects (mM_y m_M_takes).cls (mM_y m_M_takes) (mM_y m_M_takes)) ∧ lw_tbl[mM_p2 m_M_takes]? = some (Cond.instanceMethod (mM_y m_M_takes)) := by decide +kernel
theorem ok_ML_takes : mj_okA m_ML_takes = true := by decide +kernel
theorem se_ML_takes : lw_tbl[mM_p3 m_ML_takes]? = some (Cond.selects (mM_y m_ML_takes).cls (mM_y m_ML_takes) (mM_y m_ML_takes)) ∧ lw_tbl[mM_p2 m_ML_takes]? = some (Cond.instanceMethod (mM_y m_ML_takes)) := by decide +kernel
theorem ok_ML_step : mj_okA m_ML_step = true := by decide +kernel
theorem se_ML_step : lw_tbl[mM_p3 m_ML_step]? = some (Cond.selects (mM_y m_ML_step).cls (mM_y m_ML_step) (mM_y m_ML_step)) ∧ lw_tbl[mM_p2 m_ML_step]? = some (Cond.instanceMethod (mM_y m_ML_step)) := by decide +kernel
theorem ok_M_way : mj_okA m_M_way = true := by decide +kernel
theorem se_M_way : lw_tbl[mM_p3 m_M_way]? = some (Cond.selects (mM_y m_M_way).cls (mM_y m_M_way) (mM_y m_M_way)) ∧ lw_tbl[mM_p2 m_M_way]? = some (Cond.instanceMethod (mM_y m_M_way)) := by decide +kernel
theorem ok_ML_way : mj_okA m_ML_way = true := by decide +kernel
theorem se_ML_way : lw_tbl[mM_p3 m_ML_way]? = some (Cond.selects (mM_y m_ML_way).cls (mM_y m_ML_way) (mM_y m_ML_way)) ∧ lw_tbl[mM_p2 m_ML_way]? = some (Cond.instanceMethod (mM_y m_ML_way)) := by decide +kernel
theorem ok_M_steepness : mj_okA m_M_steepness = true := by decide +kernel
theorem se_M_steepness : lw_tbl[mM_p3 m_M_steepness]? = some (Cond.selects (mM_y m_M_steepness).cls (mM_y m_M_steepness) (mM_y m_M_steepness)) ∧ lw_tbl[mM_p2 m_M_steepness]? = some (Cond.instanceMethod (mM_y m_M_steepness)) := by decide +kernel
theorem ok_ML_steepness : mj_okA m_ML_steepness = true := by decide +kernel
theorem se_ML_steepness : lw_tbl[mM_p3 m_ML_steepness]? = some (Cond.selects (mM_y m_ML_steepness).cls (mM_y m_ML_steepness) (mM_y m_ML_steepness)) ∧ lw_tbl[mM_p2 m_ML_steepness]? = some (Cond.instanceMethod (mM_y m_ML_steepness)) := by decide +kernel
theorem ok_M_volumeWith : mj_okA m_M_volumeWith = true := by decide +kernel
theorem se_M_volumeWith : lw_tbl[mM_p3 m_M_volumeWith]? = some (Cond.selects (mM_y m_M_volumeWith).cls (mM_y m_M_volumeWith) (mM_y m_M_volumeWith)) ∧ lw_tbl[mM_p2 m_M_volumeWith]? = some (Cond.instanceMethod (mM_y m_M_volumeWith)) := by decide +kernel
theorem ok_M_endsWith : mj_okA m_M_endsWith = true := by decide +kernel
theorem se_M_endsWith : lw_tbl[mM_p3 m_M_endsWith]? = some (Cond.selects (mM_y m_M_endsWith).cls (mM_y m_M_endsWith) (mM_y m_M_endsWith)) ∧ lw_tbl[mM_p2 m_M_endsWith]? = some (Cond.instanceMethod (mM_y m_M_endsWith)) := by decide +kernel
theorem ok_M_lookout : mj_okA m_M_lookout = true := by decide +kernel
theorem se_M_lookout : lw_tbl[mM_p3 m_M_lookout]? = some (Cond.selects (mM_y m_M_lookout).cls (mM_y m_M_lookout) (mM_y m_M_lookout)) ∧ lw_tbl[mM_p2 m_M_lookout]? = some (Cond.instanceMethod (mM_y m_M_lookout)) := by decide +kernel
theorem ok_M_digest : mj_okA m_M_digest = true := by decide +kernel
theorem se_M_digest : lw_tbl[mM_p3 m_M_digest]? = some (Cond.selects (mM_y m_M_digest).cls (mM_y m_M_digest) (mM_y m_M_digest)) ∧ lw_tbl[mM_p2 m_M_digest]? = some (Cond.instanceMethod (mM_y m_M_digest)) := by decide +kernel
theorem ok_M_add : mj_okA m_M_add = true := by decide +kernel
theorem st_M_add : lw_tbl[mM_p2 m_M_add]? = some (Cond.static (mM_y m_M_add)) := by decide +kernel
