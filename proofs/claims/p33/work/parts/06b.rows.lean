theorem ok_W_init : mj_okA m_W_init = true := by decide +kernel
theorem in_W_init : lw_tbl[mM_p2 m_W_init]? = some (Cond.instanceMethod (mM_y m_W_init)) ∧ mM_ret m_W_init = none ∧ mj_ini m_W_init = true := by decide +kernel
theorem ok_Streams_init : mj_okA m_Streams_init = true := by decide +kernel
theorem in_Streams_init : lw_tbl[mM_p2 m_Streams_init]? = some (Cond.instanceMethod (mM_y m_Streams_init)) ∧ mM_ret m_Streams_init = none ∧ mj_ini m_Streams_init = true := by decide +kernel
theorem ok_Contours_init : mj_okA m_Contours_init = true := by decide +kernel
theorem in_Contours_init : lw_tbl[mM_p2 m_Contours_init]? = some (Cond.instanceMethod (mM_y m_Contours_init)) ∧ mM_ret m_Contours_init = none ∧ mj_ini m_Contours_init = true := by decide +kernel
theorem ok_Ways_init : mj_okA m_Ways_init = true := by decide +kernel
theorem in_Ways_init : lw_tbl[mM_p2 m_Ways_init]? = some (Cond.instanceMethod (mM_y m_Ways_init)) ∧ mM_ret m_Ways_init = none ∧ mj_ini m_Ways_init = true := by decide +kernel
theorem ok_W_smooth : mj_okA m_W_smooth = true := by decide +kernel
theorem se_W_smooth : lw_tbl[mM_p3 m_W_smooth]? = some (Cond.selects (mM_y m_W_smooth).cls (mM_y m_W_smooth) (mM_y m_W_smooth)) ∧ lw_tbl[mM_p2 m_W_smooth]? = some (Cond.instanceMethod (mM_y m_W_smooth)) := by decide +kernel
theorem ok_W_fill : mj_okA m_W_fill = true := by decide +kernel
theorem se_W_fill : lw_tbl[mM_p3 m_W_fill]? = some (Cond.selects (mM_y m_W_fill).cls (mM_y m_W_fill) (mM_y m_W_fill)) ∧ lw_tbl[mM_p2 m_W_fill]? = some (Cond.instanceMethod (mM_y m_W_fill)) := by decide +kernel
theorem ok_W_basins : mj_okA m_W_basins = true := by decide +kernel
theorem se_W_basins : lw_tbl[mM_p3 m_W_basins]? = some (Cond.selects (mM_y m_W_basins).cls (mM_y m_W_basins) (mM_y m_W_basins)) ∧ lw_tbl[mM_p2 m_W_basins]? = some (Cond.instanceMethod (mM_y m_W_basins)) := by decide +kernel
theorem ok_Streams_run : mj_okA m_Streams_run = true := by decide +kernel
theorem se_Streams_run : lw_tbl[mM_p3 m_Streams_run]? = some (Cond.selects (mM_y m_Streams_run).cls (mM_y m_Streams_run) (mM_y m_Streams_run)) ∧ lw_tbl[mM_p2 m_Streams_run]? = some (Cond.instanceMethod (mM_y m_Streams_run)) := by decide +kernel
theorem ok_Streams_chooseDirection : mj_okA m_Streams_chooseDirection = true := by decide +kernel
theorem se_Streams_chooseDirection : lw_tbl[mM_p3 m_Streams_chooseDirection]? = some (Cond.selects (mM_y m_Streams_chooseDirection).cls (mM_y m_Streams_chooseDirection) (mM_y m_Streams_chooseDirection)) ∧ lw_tbl[mM_p2 m_Streams_chooseDirection]? = some (Cond.instanceMethod (mM_y m_Streams_chooseDirection)) := by decide +kernel
theorem ok_Streams_putInOrder : mj_okA m_Streams_putInOrder = true := by decide +kernel
theorem se_Streams_putInOrder : lw_tbl[mM_p3 m_Streams_putInOrder]? = some (Cond.selects (mM_y m_Streams_putInOrder).cls (mM_y m_Streams_putInOrder) (mM_y m_Streams_putInOrder)) ∧ lw_tbl[mM_p2 m_Streams_putInOrder]? = some (Cond.instanceMethod (mM_y m_Streams_putInOrder)) := by decide +kernel
theorem ok_Streams_putNext : mj_okA m_Streams_putNext = true := by decide +kernel
theorem se_Streams_putNext : lw_tbl[mM_p3 m_Streams_putNext]? = some (Cond.selects (mM_y m_Streams_putNext).cls (mM_y m_Streams_putNext) (mM_y m_Streams_putNext)) ∧ lw_tbl[mM_p2 m_Streams_putNext]? = some (Cond.instanceMethod (mM_y m_Streams_putNext)) := by decide +kernel
theorem ok_Streams_passDown : mj_okA m_Streams_passDown = true := by decide +kernel
theorem se_Streams_passDown : lw_tbl[mM_p3 m_Streams_passDown]? = some (Cond.selects (mM_y m_Streams_passDown).cls (mM_y m_Streams_passDown) (mM_y m_Streams_passDown)) ∧ lw_tbl[mM_p2 m_Streams_passDown]? = some (Cond.instanceMethod (mM_y m_Streams_passDown)) := by decide +kernel
theorem ok_Streams_findEnd : mj_okA m_Streams_findEnd = true := by decide +kernel
theorem se_Streams_findEnd : lw_tbl[mM_p3 m_Streams_findEnd]? = some (Cond.selects (mM_y m_Streams_findEnd).cls (mM_y m_Streams_findEnd) (mM_y m_Streams_findEnd)) ∧ lw_tbl[mM_p2 m_Streams_findEnd]? = some (Cond.instanceMethod (mM_y m_Streams_findEnd)) := by decide +kernel
theorem ok_Streams_count : mj_okA m_Streams_count = true := by decide +kernel
theorem se_Streams_count : lw_tbl[mM_p3 m_Streams_count]? = some (Cond.selects (mM_y m_Streams_count).cls (mM_y m_Streams_count) (mM_y m_Streams_count)) ∧ lw_tbl[mM_p2 m_Streams_count]? = some (Cond.instanceMethod (mM_y m_Streams_count)) := by decide +kernel
theorem ok_W_pits : mj_okA m_W_pits = true := by decide +kernel
theorem se_W_pits : lw_tbl[mM_p3 m_W_pits]? = some (Cond.selects (mM_y m_W_pits).cls (mM_y m_W_pits) (mM_y m_W_pits)) ∧ lw_tbl[mM_p2 m_W_pits]? = some (Cond.instanceMethod (mM_y m_W_pits)) := by decide +kernel
theorem ok_W_mostRank : mj_okA m_W_mostRank = true := by decide +kernel
theorem se_W_mostRank : lw_tbl[mM_p3 m_W_mostRank]? = some (Cond.selects (mM_y m_W_mostRank).cls (mM_y m_W_mostRank) (mM_y m_W_mostRank)) ∧ lw_tbl[mM_p2 m_W_mostRank]? = some (Cond.instanceMethod (mM_y m_W_mostRank)) := by decide +kernel
theorem ok_Streams_greatestOf : mj_okA m_Streams_greatestOf = true := by decide +kernel
theorem se_Streams_greatestOf : lw_tbl[mM_p3 m_Streams_greatestOf]? = some (Cond.selects (mM_y m_Streams_greatestOf).cls (mM_y m_Streams_greatestOf) (mM_y m_Streams_greatestOf)) ∧ lw_tbl[mM_p2 m_Streams_greatestOf]? = some (Cond.instanceMethod (mM_y m_Streams_greatestOf)) := by decide +kernel
theorem ok_W_lakes : mj_okA m_W_lakes = true := by decide +kernel
theorem se_W_lakes : lw_tbl[mM_p3 m_W_lakes]? = some (Cond.selects (mM_y m_W_lakes).cls (mM_y m_W_lakes) (mM_y m_W_lakes)) ∧ lw_tbl[mM_p2 m_W_lakes]? = some (Cond.instanceMethod (mM_y m_W_lakes)) := by decide +kernel
theorem ok_W_volume : mj_okA m_W_volume = true := by decide +kernel
theorem se_W_volume : lw_tbl[mM_p3 m_W_volume]? = some (Cond.selects (mM_y m_W_volume).cls (mM_y m_W_volume) (mM_y m_W_volume)) ∧ lw_tbl[mM_p2 m_W_volume]? = some (Cond.instanceMethod (mM_y m_W_volume)) := by decide +kernel
theorem ok_W_digest : mj_okA m_W_digest = true := by decide +kernel
theorem se_W_digest : lw_tbl[mM_p3 m_W_digest]? = some (Cond.selects (mM_y m_W_digest).cls (mM_y m_W_digest) (mM_y m_W_digest)) ∧ lw_tbl[mM_p2 m_W_digest]? = some (Cond.instanceMethod (mM_y m_W_digest)) := by decide +kernel
theorem ok_W_digestOfMap : mj_okA m_W_digestOfMap = true := by decide +kernel
theorem se_W_digestOfMap : lw_tbl[mM_p3 m_W_digestOfMap]? = some (Cond.selects (mM_y m_W_digestOfMap).cls (mM_y m_W_digestOfMap) (mM_y m_W_digestOfMap)) ∧ lw_tbl[mM_p2 m_W_digestOfMap]? = some (Cond.instanceMethod (mM_y m_W_digestOfMap)) := by decide +kernel
theorem ok_Contours_draw : mj_okA m_Contours_draw = true := by decide +kernel
theorem se_Contours_draw : lw_tbl[mM_p3 m_Contours_draw]? = some (Cond.selects (mM_y m_Contours_draw).cls (mM_y m_Contours_draw) (mM_y m_Contours_draw)) ∧ lw_tbl[mM_p2 m_Contours_draw]? = some (Cond.instanceMethod (mM_y m_Contours_draw)) := by decide +kernel
theorem ok_Contours_drawSquare : mj_okA m_Contours_drawSquare = true := by decide +kernel
theorem se_Contours_drawSquare : lw_tbl[mM_p3 m_Contours_drawSquare]? = some (Cond.selects (mM_y m_Contours_drawSquare).cls (mM_y m_Contours_drawSquare) (mM_y m_Contours_drawSquare)) ∧ lw_tbl[mM_p2 m_Contours_drawSquare]? = some (Cond.instanceMethod (mM_y m_Contours_drawSquare)) := by decide +kernel
theorem ok_Contours_sideRightOf : mj_okA m_Contours_sideRightOf = true := by decide +kernel
theorem st_Contours_sideRightOf : lw_tbl[mM_p2 m_Contours_sideRightOf]? = some (Cond.static (mM_y m_Contours_sideRightOf)) := by decide +kernel
theorem ok_Contours_sideBelow : mj_okA m_Contours_sideBelow = true := by decide +kernel
theorem st_Contours_sideBelow : lw_tbl[mM_p2 m_Contours_sideBelow]? = some (Cond.static (mM_y m_Contours_sideBelow)) := by decide +kernel
theorem ok_Contours_sumOfSquare : mj_okA m_Contours_sumOfSquare = true := by decide +kernel
theorem se_Contours_sumOfSquare : lw_tbl[mM_p3 m_Contours_sumOfSquare]? = some (Cond.selects (mM_y m_Contours_sumOfSquare).cls (mM_y m_Contours_sumOfSquare) (mM_y m_Contours_sumOfSquare)) ∧ lw_tbl[mM_p2 m_Contours_sumOfSquare]? = some (Cond.instanceMethod (mM_y m_Contours_sumOfSquare)) := by decide +kernel
theorem ok_Contours_addPiece : mj_okA m_Contours_addPiece = true := by decide +kernel
theorem se_Contours_addPiece : lw_tbl[mM_p3 m_Contours_addPiece]? = some (Cond.selects (mM_y m_Contours_addPiece).cls (mM_y m_Contours_addPiece) (mM_y m_Contours_addPiece)) ∧ lw_tbl[mM_p2 m_Contours_addPiece]? = some (Cond.instanceMethod (mM_y m_Contours_addPiece)) := by decide +kernel
theorem ok_Contours_tie : mj_okA m_Contours_tie = true := by decide +kernel
theorem se_Contours_tie : lw_tbl[mM_p3 m_Contours_tie]? = some (Cond.selects (mM_y m_Contours_tie).cls (mM_y m_Contours_tie) (mM_y m_Contours_tie)) ∧ lw_tbl[mM_p2 m_Contours_tie]? = some (Cond.instanceMethod (mM_y m_Contours_tie)) := by decide +kernel
theorem ok_Contours_told : mj_okA m_Contours_told = true := by decide +kernel
theorem se_Contours_told : lw_tbl[mM_p3 m_Contours_told]? = some (Cond.selects (mM_y m_Contours_told).cls (mM_y m_Contours_told) (mM_y m_Contours_told)) ∧ lw_tbl[mM_p2 m_Contours_told]? = some (Cond.instanceMethod (mM_y m_Contours_told)) := by decide +kernel
theorem ok_W_digestOfFields : mj_okA m_W_digestOfFields = true := by decide +kernel
theorem se_W_digestOfFields : lw_tbl[mM_p3 m_W_digestOfFields]? = some (Cond.selects (mM_y m_W_digestOfFields).cls (mM_y m_W_digestOfFields) (mM_y m_W_digestOfFields)) ∧ lw_tbl[mM_p2 m_W_digestOfFields]? = some (Cond.instanceMethod (mM_y m_W_digestOfFields)) := by decide +kernel
theorem ok_Streams_told : mj_okA m_Streams_told = true := by decide +kernel
theorem se_Streams_told : lw_tbl[mM_p3 m_Streams_told]? = some (Cond.selects (mM_y m_Streams_told).cls (mM_y m_Streams_told) (mM_y m_Streams_told)) ∧ lw_tbl[mM_p2 m_Streams_told]? = some (Cond.instanceMethod (mM_y m_Streams_told)) := by decide +kernel
theorem ok_W_reset : mj_okA m_W_reset = true := by decide +kernel
theorem se_W_reset : lw_tbl[mM_p3 m_W_reset]? = some (Cond.selects (mM_y m_W_reset).cls (mM_y m_W_reset) (mM_y m_W_reset)) ∧ lw_tbl[mM_p2 m_W_reset]? = some (Cond.instanceMethod (mM_y m_W_reset)) := by decide +kernel
theorem ok_W_checkRange : mj_okA m_W_checkRange = true := by decide +kernel
theorem st_W_checkRange : lw_tbl[mM_p2 m_W_checkRange]? = some (Cond.static (mM_y m_W_checkRange)) := by decide +kernel
theorem ok_W_set : mj_okA m_W_set = true := by decide +kernel
theorem se_W_set : lw_tbl[mM_p3 m_W_set]? = some (Cond.selects (mM_y m_W_set).cls (mM_y m_W_set) (mM_y m_W_set)) ∧ lw_tbl[mM_p2 m_W_set]? = some (Cond.instanceMethod (mM_y m_W_set)) := by decide +kernel
theorem ok_W_checkField : mj_okA m_W_checkField = true := by decide +kernel
theorem se_W_checkField : lw_tbl[mM_p3 m_W_checkField]? = some (Cond.selects (mM_y m_W_checkField).cls (mM_y m_W_checkField) (mM_y m_W_checkField)) ∧ lw_tbl[mM_p2 m_W_checkField]? = some (Cond.instanceMethod (mM_y m_W_checkField)) := by decide +kernel
theorem ok_W_tilt : mj_okA m_W_tilt = true := by decide +kernel
theorem se_W_tilt : lw_tbl[mM_p3 m_W_tilt]? = some (Cond.selects (mM_y m_W_tilt).cls (mM_y m_W_tilt) (mM_y m_W_tilt)) ∧ lw_tbl[mM_p2 m_W_tilt]? = some (Cond.instanceMethod (mM_y m_W_tilt)) := by decide +kernel
theorem ok_W_hill : mj_okA m_W_hill = true := by decide +kernel
theorem se_W_hill : lw_tbl[mM_p3 m_W_hill]? = some (Cond.selects (mM_y m_W_hill).cls (mM_y m_W_hill) (mM_y m_W_hill)) ∧ lw_tbl[mM_p2 m_W_hill]? = some (Cond.instanceMethod (mM_y m_W_hill)) := by decide +kernel
theorem ok_W_wear : mj_okA m_W_wear = true := by decide +kernel
theorem se_W_wear : lw_tbl[mM_p3 m_W_wear]? = some (Cond.selects (mM_y m_W_wear).cls (mM_y m_W_wear) (mM_y m_W_wear)) ∧ lw_tbl[mM_p2 m_W_wear]? = some (Cond.instanceMethod (mM_y m_W_wear)) := by decide +kernel
theorem ok_W_setBrook : mj_okA m_W_setBrook = true := by decide +kernel
theorem se_W_setBrook : lw_tbl[mM_p3 m_W_setBrook]? = some (Cond.selects (mM_y m_W_setBrook).cls (mM_y m_W_setBrook) (mM_y m_W_setBrook)) ∧ lw_tbl[mM_p2 m_W_setBrook]? = some (Cond.instanceMethod (mM_y m_W_setBrook)) := by decide +kernel
theorem ok_W_map : mj_okA m_W_map = true := by decide +kernel
theorem se_W_map : lw_tbl[mM_p3 m_W_map]? = some (Cond.selects (mM_y m_W_map).cls (mM_y m_W_map) (mM_y m_W_map)) ∧ lw_tbl[mM_p2 m_W_map]? = some (Cond.instanceMethod (mM_y m_W_map)) := by decide +kernel
theorem ok_W_height : mj_okA m_W_height = true := by decide +kernel
theorem se_W_height : lw_tbl[mM_p3 m_W_height]? = some (Cond.selects (mM_y m_W_height).cls (mM_y m_W_height) (mM_y m_W_height)) ∧ lw_tbl[mM_p2 m_W_height]? = some (Cond.instanceMethod (mM_y m_W_height)) := by decide +kernel
theorem ok_W_water : mj_okA m_W_water = true := by decide +kernel
theorem se_W_water : lw_tbl[mM_p3 m_W_water]? = some (Cond.selects (mM_y m_W_water).cls (mM_y m_W_water) (mM_y m_W_water)) ∧ lw_tbl[mM_p2 m_W_water]? = some (Cond.instanceMethod (mM_y m_W_water)) := by decide +kernel
theorem ok_W_level : mj_okA m_W_level = true := by decide +kernel
theorem se_W_level : lw_tbl[mM_p3 m_W_level]? = some (Cond.selects (mM_y m_W_level).cls (mM_y m_W_level) (mM_y m_W_level)) ∧ lw_tbl[mM_p2 m_W_level]? = some (Cond.instanceMethod (mM_y m_W_level)) := by decide +kernel
theorem ok_W_lake : mj_okA m_W_lake = true := by decide +kernel
theorem se_W_lake : lw_tbl[mM_p3 m_W_lake]? = some (Cond.selects (mM_y m_W_lake).cls (mM_y m_W_lake) (mM_y m_W_lake)) ∧ lw_tbl[mM_p2 m_W_lake]? = some (Cond.instanceMethod (mM_y m_W_lake)) := by decide +kernel
theorem ok_W_contour : mj_okA m_W_contour = true := by decide +kernel
theorem se_W_contour : lw_tbl[mM_p3 m_W_contour]? = some (Cond.selects (mM_y m_W_contour).cls (mM_y m_W_contour) (mM_y m_W_contour)) ∧ lw_tbl[mM_p2 m_W_contour]? = some (Cond.instanceMethod (mM_y m_W_contour)) := by decide +kernel
theorem ok_W_sees : mj_okA m_W_sees = true := by decide +kernel
theorem se_W_sees : lw_tbl[mM_p3 m_W_sees]? = some (Cond.selects (mM_y m_W_sees).cls (mM_y m_W_sees) (mM_y m_W_sees)) ∧ lw_tbl[mM_p2 m_W_sees]? = some (Cond.instanceMethod (mM_y m_W_sees)) := by decide +kernel
theorem ok_W_seen : mj_okA m_W_seen = true := by decide +kernel
theorem se_W_seen : lw_tbl[mM_p3 m_W_seen]? = some (Cond.selects (mM_y m_W_seen).cls (mM_y m_W_seen) (mM_y m_W_seen)) ∧ lw_tbl[mM_p2 m_W_seen]? = some (Cond.instanceMethod (mM_y m_W_seen)) := by decide +kernel
theorem ok_W_takes : mj_okA m_W_takes = true := by decide +kernel
theorem se_W_takes : lw_tbl[mM_p3 m_W_takes]? = some (Cond.selects (mM_y m_W_takes).cls (mM_y m_W_takes) (mM_y m_W_takes)) ∧ lw_tbl[mM_p2 m_W_takes]? = some (Cond.instanceMethod (mM_y m_W_takes)) := by decide +kernel
theorem ok_Ways_spreadFrom : mj_okA m_Ways_spreadFrom = true := by decide +kernel
theorem se_Ways_spreadFrom : lw_tbl[mM_p3 m_Ways_spreadFrom]? = some (Cond.selects (mM_y m_Ways_spreadFrom).cls (mM_y m_Ways_spreadFrom) (mM_y m_Ways_spreadFrom)) ∧ lw_tbl[mM_p2 m_Ways_spreadFrom]? = some (Cond.instanceMethod (mM_y m_Ways_spreadFrom)) := by decide +kernel
theorem ok_Ways_spread : mj_okA m_Ways_spread = true := by decide +kernel
theorem se_Ways_spread : lw_tbl[mM_p3 m_Ways_spread]? = some (Cond.selects (mM_y m_Ways_spread).cls (mM_y m_Ways_spread) (mM_y m_Ways_spread)) ∧ lw_tbl[mM_p2 m_Ways_spread]? = some (Cond.instanceMethod (mM_y m_Ways_spread)) := by decide +kernel
theorem ok_Ways_step : mj_okA m_Ways_step = true := by decide +kernel
theorem se_Ways_step : lw_tbl[mM_p3 m_Ways_step]? = some (Cond.selects (mM_y m_Ways_step).cls (mM_y m_Ways_step) (mM_y m_Ways_step)) ∧ lw_tbl[mM_p2 m_Ways_step]? = some (Cond.instanceMethod (mM_y m_Ways_step)) := by decide +kernel
theorem ok_W_way : mj_okA m_W_way = true := by decide +kernel
theorem se_W_way : lw_tbl[mM_p3 m_W_way]? = some (Cond.selects (mM_y m_W_way).cls (mM_y m_W_way) (mM_y m_W_way)) ∧ lw_tbl[mM_p2 m_W_way]? = some (Cond.instanceMethod (mM_y m_W_way)) := by decide +kernel
theorem ok_Ways_goBack : mj_okA m_Ways_goBack = true := by decide +kernel
theorem se_Ways_goBack : lw_tbl[mM_p3 m_Ways_goBack]? = some (Cond.selects (mM_y m_Ways_goBack).cls (mM_y m_Ways_goBack) (mM_y m_Ways_goBack)) ∧ lw_tbl[mM_p2 m_Ways_goBack]? = some (Cond.instanceMethod (mM_y m_Ways_goBack)) := by decide +kernel
theorem ok_Ways_fieldAhead : mj_okA m_Ways_fieldAhead = true := by decide +kernel
theorem se_Ways_fieldAhead : lw_tbl[mM_p3 m_Ways_fieldAhead]? = some (Cond.selects (mM_y m_Ways_fieldAhead).cls (mM_y m_Ways_fieldAhead) (mM_y m_Ways_fieldAhead)) ∧ lw_tbl[mM_p2 m_Ways_fieldAhead]? = some (Cond.instanceMethod (mM_y m_Ways_fieldAhead)) := by decide +kernel
theorem ok_W_volumeWith : mj_okA m_W_volumeWith = true := by decide +kernel
theorem se_W_volumeWith : lw_tbl[mM_p3 m_W_volumeWith]? = some (Cond.selects (mM_y m_W_volumeWith).cls (mM_y m_W_volumeWith) (mM_y m_W_volumeWith)) ∧ lw_tbl[mM_p2 m_W_volumeWith]? = some (Cond.instanceMethod (mM_y m_W_volumeWith)) := by decide +kernel
theorem ok_W_endsWith : mj_okA m_W_endsWith = true := by decide +kernel
theorem se_W_endsWith : lw_tbl[mM_p3 m_W_endsWith]? = some (Cond.selects (mM_y m_W_endsWith).cls (mM_y m_W_endsWith) (mM_y m_W_endsWith)) ∧ lw_tbl[mM_p2 m_W_endsWith]? = some (Cond.instanceMethod (mM_y m_W_endsWith)) := by decide +kernel
theorem ok_W_lookout : mj_okA m_W_lookout = true := by decide +kernel
theorem se_W_lookout : lw_tbl[mM_p3 m_W_lookout]? = some (Cond.selects (mM_y m_W_lookout).cls (mM_y m_W_lookout) (mM_y m_W_lookout)) ∧ lw_tbl[mM_p2 m_W_lookout]? = some (Cond.instanceMethod (mM_y m_W_lookout)) := by decide +kernel
