/-! methods, and the links of constant pools: by program out of the tables -/
theorem wi_L : Cond.initialized "RoadCountsLaw" ∈ z_T := (z_inT (List.mem_append_right _ (List.mem_of_getElem? (i := 0) (by decide +kernel))) rfl)
theorem wi_7 : Cond.initialized "RoadCounts" ∈ z_T := (z_inT (List.mem_append_right _ (List.mem_of_getElem? (i := 1) (by decide +kernel))) rfl)
theorem wi_0 : Cond.initialized "RoadCounts$Almanac" ∈ z_T := (z_inT (List.mem_append_right _ (List.mem_of_getElem? (i := 2) (by decide +kernel))) rfl)
theorem wi_2 : Cond.initialized "RoadCounts$Network" ∈ z_T := (z_inT (List.mem_append_right _ (List.mem_of_getElem? (i := 3) (by decide +kernel))) rfl)
theorem wi_6 : Cond.initialized "RoadCounts$Tape" ∈ z_T := (z_inT (List.mem_append_right _ (List.mem_of_getElem? (i := 4) (by decide +kernel))) rfl)
theorem wi_5 : Cond.initialized "RoadCounts$RulesReader" ∈ z_T := (z_inT (List.mem_append_right _ (List.mem_of_getElem? (i := 5) (by decide +kernel))) rfl)
theorem wi_4 : Cond.initialized "RoadCounts$Rules" ∈ z_T := (z_inT (List.mem_append_right _ (List.mem_of_getElem? (i := 6) (by decide +kernel))) rfl)
theorem wi_8 : Cond.initialized "RoadCountsModel" ∈ z_T := (z_inT (List.mem_append_right _ (List.mem_of_getElem? (i := 7) (by decide +kernel))) rfl)
theorem wi_3 : Cond.initialized "RoadCounts$Road" ∈ z_T := (z_inT (List.mem_append_right _ (List.mem_of_getElem? (i := 8) (by decide +kernel))) rfl)
theorem wi_1 : Cond.initialized "RoadCounts$Counts" ∈ z_T := (z_inT (List.mem_append_right _ (List.mem_of_getElem? (i := 9) (by decide +kernel))) rfl)
theorem wi_A : Cond.initialized "java/lang/Math" ∈ z_T := (z_inT (List.mem_append_right _ (List.mem_of_getElem? (i := 10) (by decide +kernel))) rfl)
theorem wi_I : Cond.initialized "java/lang/Integer" ∈ z_T := (z_inT (List.mem_append_right _ (List.mem_of_getElem? (i := 11) (by decide +kernel))) rfl)
abbrev M7_init : z_M := (⟨"RoadCounts", "<init>", "()V"⟩, prog_1_method_1_code, 1, none)
theorem wc_M7_init : Cond.code M7_init.1 M7_init.2.1 M7_init.2.2.1 M7_init.2.2.2 ∈ z_T := (z_inT (List.mem_append_right _ (List.mem_of_getElem? (i := 16) (by decide +kernel))) rfl)
theorem wv_M7_init : Cond.instanceMethod M7_init.1 ∈ z_T := (z_inT (List.mem_append_right _ (List.mem_of_getElem? (i := 15) (by decide +kernel))) rfl)
abbrev M0_init : z_M := (⟨"RoadCounts$Almanac", "<init>", "()V"⟩, prog_2_method_1_code, 3, none)
theorem wc_M0_init : Cond.code M0_init.1 M0_init.2.1 M0_init.2.2.1 M0_init.2.2.2 ∈ z_T := (z_inT (List.mem_append_right _ (List.mem_of_getElem? (i := 24) (by decide +kernel))) rfl)
theorem wv_M0_init : Cond.instanceMethod M0_init.1 ∈ z_T := (z_inT (List.mem_append_right _ (List.mem_of_getElem? (i := 23) (by decide +kernel))) rfl)
abbrev M2_init : z_M := (⟨"RoadCounts$Network", "<init>", "()V"⟩, prog_4_method_1_code, 1, none)
theorem wc_M2_init : Cond.code M2_init.1 M2_init.2.1 M2_init.2.2.1 M2_init.2.2.2 ∈ z_T := (z_inT (List.mem_append_right _ (List.mem_of_getElem? (i := 52) (by decide +kernel))) rfl)
theorem wv_M2_init : Cond.instanceMethod M2_init.1 ∈ z_T := (z_inT (List.mem_append_right _ (List.mem_of_getElem? (i := 51) (by decide +kernel))) rfl)
abbrev M6_init : z_M := (⟨"RoadCounts$Tape", "<init>", "()V"⟩, prog_8_method_1_code, 1, none)
theorem wc_M6_init : Cond.code M6_init.1 M6_init.2.1 M6_init.2.2.1 M6_init.2.2.2 ∈ z_T := (z_inT (List.mem_append_right _ (List.mem_of_getElem? (i := 92) (by decide +kernel))) rfl)
theorem wv_M6_init : Cond.instanceMethod M6_init.1 ∈ z_T := (z_inT (List.mem_append_right _ (List.mem_of_getElem? (i := 91) (by decide +kernel))) rfl)
abbrev M5_init : z_M := (⟨"RoadCounts$RulesReader", "<init>", "(LRoadCounts$Tape;)V"⟩, prog_7_method_1_code, 2, none)
theorem wc_M5_init : Cond.code M5_init.1 M5_init.2.1 M5_init.2.2.1 M5_init.2.2.2 ∈ z_T := (z_inT (List.mem_append_right _ (List.mem_of_getElem? (i := 106) (by decide +kernel))) rfl)
theorem wv_M5_init : Cond.instanceMethod M5_init.1 ∈ z_T := (z_inT (List.mem_append_right _ (List.mem_of_getElem? (i := 105) (by decide +kernel))) rfl)
abbrev M4_init : z_M := (⟨"RoadCounts$Rules", "<init>", "()V"⟩, prog_6_method_1_code, 1, none)
theorem wc_M4_init : Cond.code M4_init.1 M4_init.2.1 M4_init.2.2.1 M4_init.2.2.2 ∈ z_T := (z_inT (List.mem_append_right _ (List.mem_of_getElem? (i := 125) (by decide +kernel))) rfl)
theorem wv_M4_init : Cond.instanceMethod M4_init.1 ∈ z_T := (z_inT (List.mem_append_right _ (List.mem_of_getElem? (i := 124) (by decide +kernel))) rfl)
abbrev M7_weekday : z_M := (⟨"RoadCounts", "weekday", "(III)Z"⟩, prog_1_method_2_code, 4, some FieldType.boolean)
theorem wc_M7_weekday : Cond.code M7_weekday.1 M7_weekday.2.1 M7_weekday.2.2.1 M7_weekday.2.2.2 ∈ z_T := (z_inT (List.mem_append_right _ (List.mem_of_getElem? (i := 168) (by decide +kernel))) rfl)
theorem wv_M7_weekday : Cond.instanceMethod M7_weekday.1 ∈ z_T := (z_inT (List.mem_append_right _ (List.mem_of_getElem? (i := 166) (by decide +kernel))) rfl)
theorem ws_M7_weekday : Cond.selects M7_weekday.1.cls M7_weekday.1 M7_weekday.1 ∈ z_T := (z_inT (List.mem_append_right _ (List.mem_of_getElem? (i := 167) (by decide +kernel))) rfl)
abbrev M7_isBelow : z_M := (⟨"RoadCounts", "isBelow", "(II)Z"⟩, prog_1_method_24_code, 2, some FieldType.boolean)
theorem wc_M7_isBelow : Cond.code M7_isBelow.1 M7_isBelow.2.1 M7_isBelow.2.2.1 M7_isBelow.2.2.2 ∈ z_T := (z_inT (List.mem_append_right _ (List.mem_of_getElem? (i := 171) (by decide +kernel))) rfl)
theorem wt_M7_isBelow : Cond.static M7_isBelow.1 ∈ z_T := (z_inT (List.mem_append_right _ (List.mem_of_getElem? (i := 170) (by decide +kernel))) rfl)
abbrev M7_isWeight : z_M := (⟨"RoadCounts", "isWeight", "(I)Z"⟩, prog_1_method_25_code, 1, some FieldType.boolean)
theorem wc_M7_isWeight : Cond.code M7_isWeight.1 M7_isWeight.2.1 M7_isWeight.2.2.1 M7_isWeight.2.2.2 ∈ z_T := (z_inT (List.mem_append_right _ (List.mem_of_getElem? (i := 174) (by decide +kernel))) rfl)
theorem wt_M7_isWeight : Cond.static M7_isWeight.1 ∈ z_T := (z_inT (List.mem_append_right _ (List.mem_of_getElem? (i := 173) (by decide +kernel))) rfl)
abbrev M0_weighWeekday : z_M := (⟨"RoadCounts$Almanac", "weighWeekday", "(III)V"⟩, prog_2_method_2_code, 4, none)
theorem wc_M0_weighWeekday : Cond.code M0_weighWeekday.1 M0_weighWeekday.2.1 M0_weighWeekday.2.2.1 M0_weighWeekday.2.2.2 ∈ z_T := (z_inT (List.mem_append_right _ (List.mem_of_getElem? (i := 178) (by decide +kernel))) rfl)
theorem wv_M0_weighWeekday : Cond.instanceMethod M0_weighWeekday.1 ∈ z_T := (z_inT (List.mem_append_right _ (List.mem_of_getElem? (i := 176) (by decide +kernel))) rfl)
theorem ws_M0_weighWeekday : Cond.selects M0_weighWeekday.1.cls M0_weighWeekday.1 M0_weighWeekday.1 ∈ z_T := (z_inT (List.mem_append_right _ (List.mem_of_getElem? (i := 177) (by decide +kernel))) rfl)
abbrev M7_month : z_M := (⟨"RoadCounts", "month", "(III)Z"⟩, prog_1_method_3_code, 4, some FieldType.boolean)
theorem wc_M7_month : Cond.code M7_month.1 M7_month.2.1 M7_month.2.2.1 M7_month.2.2.2 ∈ z_T := (z_inT (List.mem_append_right _ (List.mem_of_getElem? (i := 182) (by decide +kernel))) rfl)
theorem wv_M7_month : Cond.instanceMethod M7_month.1 ∈ z_T := (z_inT (List.mem_append_right _ (List.mem_of_getElem? (i := 180) (by decide +kernel))) rfl)
theorem ws_M7_month : Cond.selects M7_month.1.cls M7_month.1 M7_month.1 ∈ z_T := (z_inT (List.mem_append_right _ (List.mem_of_getElem? (i := 181) (by decide +kernel))) rfl)
abbrev M0_weighMonth : z_M := (⟨"RoadCounts$Almanac", "weighMonth", "(III)V"⟩, prog_2_method_3_code, 4, none)
theorem wc_M0_weighMonth : Cond.code M0_weighMonth.1 M0_weighMonth.2.1 M0_weighMonth.2.2.1 M0_weighMonth.2.2.2 ∈ z_T := (z_inT (List.mem_append_right _ (List.mem_of_getElem? (i := 186) (by decide +kernel))) rfl)
theorem wv_M0_weighMonth : Cond.instanceMethod M0_weighMonth.1 ∈ z_T := (z_inT (List.mem_append_right _ (List.mem_of_getElem? (i := 184) (by decide +kernel))) rfl)
theorem ws_M0_weighMonth : Cond.selects M0_weighMonth.1.cls M0_weighMonth.1 M0_weighMonth.1 ∈ z_T := (z_inT (List.mem_append_right _ (List.mem_of_getElem? (i := 185) (by decide +kernel))) rfl)
abbrev M7_holiday : z_M := (⟨"RoadCounts", "holiday", "(I)Z"⟩, prog_1_method_4_code, 2, some FieldType.boolean)
theorem wc_M7_holiday : Cond.code M7_holiday.1 M7_holiday.2.1 M7_holiday.2.2.1 M7_holiday.2.2.2 ∈ z_T := (z_inT (List.mem_append_right _ (List.mem_of_getElem? (i := 190) (by decide +kernel))) rfl)
theorem wv_M7_holiday : Cond.instanceMethod M7_holiday.1 ∈ z_T := (z_inT (List.mem_append_right _ (List.mem_of_getElem? (i := 188) (by decide +kernel))) rfl)
theorem ws_M7_holiday : Cond.selects M7_holiday.1.cls M7_holiday.1 M7_holiday.1 ∈ z_T := (z_inT (List.mem_append_right _ (List.mem_of_getElem? (i := 189) (by decide +kernel))) rfl)
abbrev M0_addHoliday : z_M := (⟨"RoadCounts$Almanac", "addHoliday", "(I)Z"⟩, prog_2_method_4_code, 2, some FieldType.boolean)
theorem wc_M0_addHoliday : Cond.code M0_addHoliday.1 M0_addHoliday.2.1 M0_addHoliday.2.2.1 M0_addHoliday.2.2.2 ∈ z_T := (z_inT (List.mem_append_right _ (List.mem_of_getElem? (i := 194) (by decide +kernel))) rfl)
theorem wv_M0_addHoliday : Cond.instanceMethod M0_addHoliday.1 ∈ z_T := (z_inT (List.mem_append_right _ (List.mem_of_getElem? (i := 192) (by decide +kernel))) rfl)
theorem ws_M0_addHoliday : Cond.selects M0_addHoliday.1.cls M0_addHoliday.1 M0_addHoliday.1 ∈ z_T := (z_inT (List.mem_append_right _ (List.mem_of_getElem? (i := 193) (by decide +kernel))) rfl)
abbrev M7_road : z_M := (⟨"RoadCounts", "road", "(III)I"⟩, prog_1_method_5_code, 4, some FieldType.int)
theorem wc_M7_road : Cond.code M7_road.1 M7_road.2.1 M7_road.2.2.1 M7_road.2.2.2 ∈ z_T := (z_inT (List.mem_append_right _ (List.mem_of_getElem? (i := 198) (by decide +kernel))) rfl)
theorem wv_M7_road : Cond.instanceMethod M7_road.1 ∈ z_T := (z_inT (List.mem_append_right _ (List.mem_of_getElem? (i := 196) (by decide +kernel))) rfl)
theorem ws_M7_road : Cond.selects M7_road.1.cls M7_road.1 M7_road.1 ∈ z_T := (z_inT (List.mem_append_right _ (List.mem_of_getElem? (i := 197) (by decide +kernel))) rfl)
abbrev M7_isEnd : z_M := (⟨"RoadCounts", "isEnd", "(I)Z"⟩, prog_1_method_26_code, 1, some FieldType.boolean)
theorem wc_M7_isEnd : Cond.code M7_isEnd.1 M7_isEnd.2.1 M7_isEnd.2.2.1 M7_isEnd.2.2.2 ∈ z_T := (z_inT (List.mem_append_right _ (List.mem_of_getElem? (i := 201) (by decide +kernel))) rfl)
theorem wt_M7_isEnd : Cond.static M7_isEnd.1 ∈ z_T := (z_inT (List.mem_append_right _ (List.mem_of_getElem? (i := 200) (by decide +kernel))) rfl)
abbrev M2_add : z_M := (⟨"RoadCounts$Network", "add", "(III)I"⟩, prog_4_method_2_code, 4, some FieldType.int)
theorem wc_M2_add : Cond.code M2_add.1 M2_add.2.1 M2_add.2.2.1 M2_add.2.2.2 ∈ z_T := (z_inT (List.mem_append_right _ (List.mem_of_getElem? (i := 205) (by decide +kernel))) rfl)
theorem wv_M2_add : Cond.instanceMethod M2_add.1 ∈ z_T := (z_inT (List.mem_append_right _ (List.mem_of_getElem? (i := 203) (by decide +kernel))) rfl)
theorem ws_M2_add : Cond.selects M2_add.1.cls M2_add.1 M2_add.1 ∈ z_T := (z_inT (List.mem_append_right _ (List.mem_of_getElem? (i := 204) (by decide +kernel))) rfl)
abbrev M3_init : z_M := (⟨"RoadCounts$Road", "<init>", "(III)V"⟩, prog_5_method_1_code, 4, none)
theorem wc_M3_init : Cond.code M3_init.1 M3_init.2.1 M3_init.2.2.1 M3_init.2.2.2 ∈ z_T := (z_inT (List.mem_append_right _ (List.mem_of_getElem? (i := 209) (by decide +kernel))) rfl)
theorem wv_M3_init : Cond.instanceMethod M3_init.1 ∈ z_T := (z_inT (List.mem_append_right _ (List.mem_of_getElem? (i := 208) (by decide +kernel))) rfl)
abbrev M1_init : z_M := (⟨"RoadCounts$Counts", "<init>", "()V"⟩, prog_3_method_1_code, 1, none)
theorem wc_M1_init : Cond.code M1_init.1 M1_init.2.1 M1_init.2.2.1 M1_init.2.2.2 ∈ z_T := (z_inT (List.mem_append_right _ (List.mem_of_getElem? (i := 215) (by decide +kernel))) rfl)
theorem wv_M1_init : Cond.instanceMethod M1_init.1 ∈ z_T := (z_inT (List.mem_append_right _ (List.mem_of_getElem? (i := 214) (by decide +kernel))) rfl)
abbrev M7_shape : z_M := (⟨"RoadCounts", "shape", "(II)Z"⟩, prog_1_method_6_code, 4, some FieldType.boolean)
theorem wc_M7_shape : Cond.code M7_shape.1 M7_shape.2.1 M7_shape.2.2.1 M7_shape.2.2.2 ∈ z_T := (z_inT (List.mem_append_right _ (List.mem_of_getElem? (i := 259) (by decide +kernel))) rfl)
theorem wv_M7_shape : Cond.instanceMethod M7_shape.1 ∈ z_T := (z_inT (List.mem_append_right _ (List.mem_of_getElem? (i := 257) (by decide +kernel))) rfl)
theorem ws_M7_shape : Cond.selects M7_shape.1.cls M7_shape.1 M7_shape.1 ∈ z_T := (z_inT (List.mem_append_right _ (List.mem_of_getElem? (i := 258) (by decide +kernel))) rfl)
abbrev M2_at : z_M := (⟨"RoadCounts$Network", "at", "(I)LRoadCounts$Road;"⟩, prog_4_method_3_code, 2, some (FieldType.object "RoadCounts$Road"))
theorem wc_M2_at : Cond.code M2_at.1 M2_at.2.1 M2_at.2.2.1 M2_at.2.2.2 ∈ z_T := (z_inT (List.mem_append_right _ (List.mem_of_getElem? (i := 263) (by decide +kernel))) rfl)
theorem wv_M2_at : Cond.instanceMethod M2_at.1 ∈ z_T := (z_inT (List.mem_append_right _ (List.mem_of_getElem? (i := 261) (by decide +kernel))) rfl)
theorem ws_M2_at : Cond.selects M2_at.1.cls M2_at.1 M2_at.1 ∈ z_T := (z_inT (List.mem_append_right _ (List.mem_of_getElem? (i := 262) (by decide +kernel))) rfl)
abbrev M7_count : z_M := (⟨"RoadCounts", "count", "(III)Z"⟩, prog_1_method_7_code, 5, some FieldType.boolean)
theorem wc_M7_count : Cond.code M7_count.1 M7_count.2.1 M7_count.2.2.1 M7_count.2.2.2 ∈ z_T := (z_inT (List.mem_append_right _ (List.mem_of_getElem? (i := 268) (by decide +kernel))) rfl)
theorem wv_M7_count : Cond.instanceMethod M7_count.1 ∈ z_T := (z_inT (List.mem_append_right _ (List.mem_of_getElem? (i := 266) (by decide +kernel))) rfl)
theorem ws_M7_count : Cond.selects M7_count.1.cls M7_count.1 M7_count.1 ∈ z_T := (z_inT (List.mem_append_right _ (List.mem_of_getElem? (i := 267) (by decide +kernel))) rfl)
abbrev M1_put : z_M := (⟨"RoadCounts$Counts", "put", "(II)Z"⟩, prog_3_method_2_code, 4, some FieldType.boolean)
theorem wc_M1_put : Cond.code M1_put.1 M1_put.2.1 M1_put.2.2.1 M1_put.2.2.2 ∈ z_T := (z_inT (List.mem_append_right _ (List.mem_of_getElem? (i := 273) (by decide +kernel))) rfl)
theorem wv_M1_put : Cond.instanceMethod M1_put.1 ∈ z_T := (z_inT (List.mem_append_right _ (List.mem_of_getElem? (i := 271) (by decide +kernel))) rfl)
theorem ws_M1_put : Cond.selects M1_put.1.cls M1_put.1 M1_put.1 ∈ z_T := (z_inT (List.mem_append_right _ (List.mem_of_getElem? (i := 272) (by decide +kernel))) rfl)
abbrev M1_placeOf : z_M := (⟨"RoadCounts$Counts", "placeOf", "(I)I"⟩, prog_3_method_12_code, 3, some FieldType.int)
theorem wc_M1_placeOf : Cond.code M1_placeOf.1 M1_placeOf.2.1 M1_placeOf.2.2.1 M1_placeOf.2.2.2 ∈ z_T := (z_inT (List.mem_append_right _ (List.mem_of_getElem? (i := 277) (by decide +kernel))) rfl)
theorem wv_M1_placeOf : Cond.instanceMethod M1_placeOf.1 ∈ z_T := (z_inT (List.mem_append_right _ (List.mem_of_getElem? (i := 276) (by decide +kernel))) rfl)
theorem ws_M1_placeOf : Cond.selects M1_placeOf.1.cls M1_placeOf.1 M1_placeOf.1 ∈ z_T := z_inT (List.mem_append_left _ (List.mem_of_getElem? (i := 0) (by decide +kernel))) rfl
abbrev M7_year : z_M := (⟨"RoadCounts", "year", "(I)J"⟩, prog_1_method_8_code, 3, some FieldType.long)
theorem wc_M7_year : Cond.code M7_year.1 M7_year.2.1 M7_year.2.2.1 M7_year.2.2.2 ∈ z_T := (z_inT (List.mem_append_right _ (List.mem_of_getElem? (i := 281) (by decide +kernel))) rfl)
theorem wv_M7_year : Cond.instanceMethod M7_year.1 ∈ z_T := (z_inT (List.mem_append_right _ (List.mem_of_getElem? (i := 279) (by decide +kernel))) rfl)
theorem ws_M7_year : Cond.selects M7_year.1.cls M7_year.1 M7_year.1 ∈ z_T := (z_inT (List.mem_append_right _ (List.mem_of_getElem? (i := 280) (by decide +kernel))) rfl)
abbrev M1_loadOfAll : z_M := (⟨"RoadCounts$Counts", "loadOfAll", "(LRoadCounts$Almanac;I)J"⟩, prog_3_method_5_code, 5, some FieldType.long)
theorem wc_M1_loadOfAll : Cond.code M1_loadOfAll.1 M1_loadOfAll.2.1 M1_loadOfAll.2.2.1 M1_loadOfAll.2.2.2 ∈ z_T := (z_inT (List.mem_append_right _ (List.mem_of_getElem? (i := 286) (by decide +kernel))) rfl)
theorem wv_M1_loadOfAll : Cond.instanceMethod M1_loadOfAll.1 ∈ z_T := (z_inT (List.mem_append_right _ (List.mem_of_getElem? (i := 284) (by decide +kernel))) rfl)
theorem ws_M1_loadOfAll : Cond.selects M1_loadOfAll.1.cls M1_loadOfAll.1 M1_loadOfAll.1 ∈ z_T := (z_inT (List.mem_append_right _ (List.mem_of_getElem? (i := 285) (by decide +kernel))) rfl)
abbrev M1_usedShares : z_M := (⟨"RoadCounts$Counts", "usedShares", "(LRoadCounts$Almanac;I)J"⟩, prog_3_method_10_code, 6, some FieldType.long)
theorem wc_M1_usedShares : Cond.code M1_usedShares.1 M1_usedShares.2.1 M1_usedShares.2.2.1 M1_usedShares.2.2.2 ∈ z_T := (z_inT (List.mem_append_right _ (List.mem_of_getElem? (i := 290) (by decide +kernel))) rfl)
theorem wv_M1_usedShares : Cond.instanceMethod M1_usedShares.1 ∈ z_T := (z_inT (List.mem_append_right _ (List.mem_of_getElem? (i := 289) (by decide +kernel))) rfl)
theorem ws_M1_usedShares : Cond.selects M1_usedShares.1.cls M1_usedShares.1 M1_usedShares.1 ∈ z_T := z_inT (List.mem_append_left _ (List.mem_of_getElem? (i := 1) (by decide +kernel))) rfl
abbrev M1_isUsed : z_M := (⟨"RoadCounts$Counts", "isUsed", "(ILRoadCounts$Almanac;)Z"⟩, prog_3_method_11_code, 3, some FieldType.boolean)
theorem wc_M1_isUsed : Cond.code M1_isUsed.1 M1_isUsed.2.1 M1_isUsed.2.2.1 M1_isUsed.2.2.2 ∈ z_T := (z_inT (List.mem_append_right _ (List.mem_of_getElem? (i := 294) (by decide +kernel))) rfl)
theorem wv_M1_isUsed : Cond.instanceMethod M1_isUsed.1 ∈ z_T := (z_inT (List.mem_append_right _ (List.mem_of_getElem? (i := 293) (by decide +kernel))) rfl)
theorem ws_M1_isUsed : Cond.selects M1_isUsed.1.cls M1_isUsed.1 M1_isUsed.1 ∈ z_T := z_inT (List.mem_append_left _ (List.mem_of_getElem? (i := 2) (by decide +kernel))) rfl
abbrev M0_shareOf : z_M := (⟨"RoadCounts$Almanac", "shareOf", "(II)J"⟩, prog_2_method_5_code, 4, some FieldType.long)
theorem wc_M0_shareOf : Cond.code M0_shareOf.1 M0_shareOf.2.1 M0_shareOf.2.2.1 M0_shareOf.2.2.2 ∈ z_T := (z_inT (List.mem_append_right _ (List.mem_of_getElem? (i := 298) (by decide +kernel))) rfl)
theorem wv_M0_shareOf : Cond.instanceMethod M0_shareOf.1 ∈ z_T := (z_inT (List.mem_append_right _ (List.mem_of_getElem? (i := 296) (by decide +kernel))) rfl)
theorem ws_M0_shareOf : Cond.selects M0_shareOf.1.cls M0_shareOf.1 M0_shareOf.1 ∈ z_T := (z_inT (List.mem_append_right _ (List.mem_of_getElem? (i := 297) (by decide +kernel))) rfl)
abbrev M1_usedTotal : z_M := (⟨"RoadCounts$Counts", "usedTotal", "(LRoadCounts$Almanac;)J"⟩, prog_3_method_9_code, 5, some FieldType.long)
theorem wc_M1_usedTotal : Cond.code M1_usedTotal.1 M1_usedTotal.2.1 M1_usedTotal.2.2.1 M1_usedTotal.2.2.2 ∈ z_T := (z_inT (List.mem_append_right _ (List.mem_of_getElem? (i := 302) (by decide +kernel))) rfl)
theorem wv_M1_usedTotal : Cond.instanceMethod M1_usedTotal.1 ∈ z_T := (z_inT (List.mem_append_right _ (List.mem_of_getElem? (i := 301) (by decide +kernel))) rfl)
theorem ws_M1_usedTotal : Cond.selects M1_usedTotal.1.cls M1_usedTotal.1 M1_usedTotal.1 ∈ z_T := z_inT (List.mem_append_left _ (List.mem_of_getElem? (i := 3) (by decide +kernel))) rfl
abbrev M0_wholeOf : z_M := (⟨"RoadCounts$Almanac", "wholeOf", "(I)J"⟩, prog_2_method_6_code, 12, some FieldType.long)
theorem wc_M0_wholeOf : Cond.code M0_wholeOf.1 M0_wholeOf.2.1 M0_wholeOf.2.2.1 M0_wholeOf.2.2.2 ∈ z_T := (z_inT (List.mem_append_right _ (List.mem_of_getElem? (i := 306) (by decide +kernel))) rfl)
theorem wv_M0_wholeOf : Cond.instanceMethod M0_wholeOf.1 ∈ z_T := (z_inT (List.mem_append_right _ (List.mem_of_getElem? (i := 304) (by decide +kernel))) rfl)
theorem ws_M0_wholeOf : Cond.selects M0_wholeOf.1.cls M0_wholeOf.1 M0_wholeOf.1 ∈ z_T := (z_inT (List.mem_append_right _ (List.mem_of_getElem? (i := 305) (by decide +kernel))) rfl)
abbrev M7_span : z_M := (⟨"RoadCounts", "span", "(II)J"⟩, prog_1_method_9_code, 4, some FieldType.long)
theorem wc_M7_span : Cond.code M7_span.1 M7_span.2.1 M7_span.2.2.1 M7_span.2.2.2 ∈ z_T := (z_inT (List.mem_append_right _ (List.mem_of_getElem? (i := 313) (by decide +kernel))) rfl)
theorem wv_M7_span : Cond.instanceMethod M7_span.1 ∈ z_T := (z_inT (List.mem_append_right _ (List.mem_of_getElem? (i := 311) (by decide +kernel))) rfl)
theorem ws_M7_span : Cond.selects M7_span.1.cls M7_span.1 M7_span.1 ∈ z_T := (z_inT (List.mem_append_right _ (List.mem_of_getElem? (i := 312) (by decide +kernel))) rfl)
abbrev M1_loadAtEnd : z_M := (⟨"RoadCounts$Counts", "loadAtEnd", "(LRoadCounts$Almanac;IZ)J"⟩, prog_3_method_6_code, 13, some FieldType.long)
theorem wc_M1_loadAtEnd : Cond.code M1_loadAtEnd.1 M1_loadAtEnd.2.1 M1_loadAtEnd.2.2.1 M1_loadAtEnd.2.2.2 ∈ z_T := (z_inT (List.mem_append_right _ (List.mem_of_getElem? (i := 317) (by decide +kernel))) rfl)
theorem wv_M1_loadAtEnd : Cond.instanceMethod M1_loadAtEnd.1 ∈ z_T := (z_inT (List.mem_append_right _ (List.mem_of_getElem? (i := 315) (by decide +kernel))) rfl)
theorem ws_M1_loadAtEnd : Cond.selects M1_loadAtEnd.1.cls M1_loadAtEnd.1 M1_loadAtEnd.1 ∈ z_T := (z_inT (List.mem_append_right _ (List.mem_of_getElem? (i := 316) (by decide +kernel))) rfl)
abbrev M7_best : z_M := (⟨"RoadCounts", "best", "(I)I"⟩, prog_1_method_10_code, 3, some FieldType.int)
theorem wc_M7_best : Cond.code M7_best.1 M7_best.2.1 M7_best.2.2.1 M7_best.2.2.2 ∈ z_T := (z_inT (List.mem_append_right _ (List.mem_of_getElem? (i := 321) (by decide +kernel))) rfl)
theorem wv_M7_best : Cond.instanceMethod M7_best.1 ∈ z_T := (z_inT (List.mem_append_right _ (List.mem_of_getElem? (i := 319) (by decide +kernel))) rfl)
theorem ws_M7_best : Cond.selects M7_best.1.cls M7_best.1 M7_best.1 ∈ z_T := (z_inT (List.mem_append_right _ (List.mem_of_getElem? (i := 320) (by decide +kernel))) rfl)
abbrev M1_bestShape : z_M := (⟨"RoadCounts$Counts", "bestShape", "(LRoadCounts$Almanac;)I"⟩, prog_3_method_7_code, 12, some FieldType.int)
theorem wc_M1_bestShape : Cond.code M1_bestShape.1 M1_bestShape.2.1 M1_bestShape.2.2.1 M1_bestShape.2.2.2 ∈ z_T := (z_inT (List.mem_append_right _ (List.mem_of_getElem? (i := 325) (by decide +kernel))) rfl)
theorem wv_M1_bestShape : Cond.instanceMethod M1_bestShape.1 ∈ z_T := (z_inT (List.mem_append_right _ (List.mem_of_getElem? (i := 323) (by decide +kernel))) rfl)
theorem ws_M1_bestShape : Cond.selects M1_bestShape.1.cls M1_bestShape.1 M1_bestShape.1 ∈ z_T := (z_inT (List.mem_append_right _ (List.mem_of_getElem? (i := 324) (by decide +kernel))) rfl)
abbrev M1_used : z_M := (⟨"RoadCounts$Counts", "used", "(LRoadCounts$Almanac;)I"⟩, prog_3_method_4_code, 4, some FieldType.int)
theorem wc_M1_used : Cond.code M1_used.1 M1_used.2.1 M1_used.2.2.1 M1_used.2.2.2 ∈ z_T := (z_inT (List.mem_append_right _ (List.mem_of_getElem? (i := 329) (by decide +kernel))) rfl)
theorem wv_M1_used : Cond.instanceMethod M1_used.1 ∈ z_T := (z_inT (List.mem_append_right _ (List.mem_of_getElem? (i := 327) (by decide +kernel))) rfl)
theorem ws_M1_used : Cond.selects M1_used.1.cls M1_used.1 M1_used.1 ∈ z_T := (z_inT (List.mem_append_right _ (List.mem_of_getElem? (i := 328) (by decide +kernel))) rfl)
abbrev M1_misfitTimesShares : z_M := (⟨"RoadCounts$Counts", "misfitTimesShares", "(LRoadCounts$Almanac;IJ)J"⟩, prog_3_method_8_code, 10, some FieldType.long)
theorem wc_M1_misfitTimesShares : Cond.code M1_misfitTimesShares.1 M1_misfitTimesShares.2.1 M1_misfitTimesShares.2.2.1 M1_misfitTimesShares.2.2.2 ∈ z_T := (z_inT (List.mem_append_right _ (List.mem_of_getElem? (i := 333) (by decide +kernel))) rfl)
theorem wv_M1_misfitTimesShares : Cond.instanceMethod M1_misfitTimesShares.1 ∈ z_T := (z_inT (List.mem_append_right _ (List.mem_of_getElem? (i := 332) (by decide +kernel))) rfl)
theorem ws_M1_misfitTimesShares : Cond.selects M1_misfitTimesShares.1.cls M1_misfitTimesShares.1 M1_misfitTimesShares.1 ∈ z_T := z_inT (List.mem_append_left _ (List.mem_of_getElem? (i := 4) (by decide +kernel))) rfl
abbrev MA_abs : z_M := (⟨"java/lang/Math", "abs", "(J)J"⟩, prog_12_method_61_code, 2, some FieldType.long)
theorem wc_MA_abs : Cond.code MA_abs.1 MA_abs.2.1 MA_abs.2.2.1 MA_abs.2.2.2 ∈ z_T := (z_inT (List.mem_append_right _ (List.mem_of_getElem? (i := 336) (by decide +kernel))) rfl)
theorem wt_MA_abs : Cond.static MA_abs.1 ∈ z_T := (z_inT (List.mem_append_right _ (List.mem_of_getElem? (i := 335) (by decide +kernel))) rfl)
abbrev M7_how : z_M := (⟨"RoadCounts", "how", "(I)I"⟩, prog_1_method_11_code, 2, some FieldType.int)
theorem wc_M7_how : Cond.code M7_how.1 M7_how.2.1 M7_how.2.2.1 M7_how.2.2.2 ∈ z_T := (z_inT (List.mem_append_right _ (List.mem_of_getElem? (i := 340) (by decide +kernel))) rfl)
theorem wv_M7_how : Cond.instanceMethod M7_how.1 ∈ z_T := (z_inT (List.mem_append_right _ (List.mem_of_getElem? (i := 338) (by decide +kernel))) rfl)
theorem ws_M7_how : Cond.selects M7_how.1.cls M7_how.1 M7_how.1 ∈ z_T := (z_inT (List.mem_append_right _ (List.mem_of_getElem? (i := 339) (by decide +kernel))) rfl)
abbrev M2_settle : z_M := (⟨"RoadCounts$Network", "settle", "(LRoadCounts$Almanac;)V"⟩, prog_4_method_10_code, 7, none)
theorem wc_M2_settle : Cond.code M2_settle.1 M2_settle.2.1 M2_settle.2.2.1 M2_settle.2.2.2 ∈ z_T := (z_inT (List.mem_append_right _ (List.mem_of_getElem? (i := 344) (by decide +kernel))) rfl)
theorem wv_M2_settle : Cond.instanceMethod M2_settle.1 ∈ z_T := (z_inT (List.mem_append_right _ (List.mem_of_getElem? (i := 342) (by decide +kernel))) rfl)
theorem ws_M2_settle : Cond.selects M2_settle.1.cls M2_settle.1 M2_settle.1 ∈ z_T := (z_inT (List.mem_append_right _ (List.mem_of_getElem? (i := 343) (by decide +kernel))) rfl)
abbrev M2_follow : z_M := (⟨"RoadCounts$Network", "follow", "(I)I"⟩, prog_4_method_14_code, 7, some FieldType.int)
theorem wc_M2_follow : Cond.code M2_follow.1 M2_follow.2.1 M2_follow.2.2.1 M2_follow.2.2.2 ∈ z_T := (z_inT (List.mem_append_right _ (List.mem_of_getElem? (i := 350) (by decide +kernel))) rfl)
theorem wv_M2_follow : Cond.instanceMethod M2_follow.1 ∈ z_T := (z_inT (List.mem_append_right _ (List.mem_of_getElem? (i := 349) (by decide +kernel))) rfl)
theorem ws_M2_follow : Cond.selects M2_follow.1.cls M2_follow.1 M2_follow.1 ∈ z_T := z_inT (List.mem_append_left _ (List.mem_of_getElem? (i := 5) (by decide +kernel))) rfl
abbrev MI_bitCount : z_M := (⟨"java/lang/Integer", "bitCount", "(I)I"⟩, prog_11_method_49_code, 1, some FieldType.int)
theorem wc_MI_bitCount : Cond.code MI_bitCount.1 MI_bitCount.2.1 MI_bitCount.2.2.1 MI_bitCount.2.2.2 ∈ z_T := (z_inT (List.mem_append_right _ (List.mem_of_getElem? (i := 353) (by decide +kernel))) rfl)
theorem wt_MI_bitCount : Cond.static MI_bitCount.1 ∈ z_T := (z_inT (List.mem_append_right _ (List.mem_of_getElem? (i := 352) (by decide +kernel))) rfl)
abbrev MI_numberOfTrailingZeros : z_M := (⟨"java/lang/Integer", "numberOfTrailingZeros", "(I)I"⟩, prog_11_method_48_code, 2, some FieldType.int)
theorem wc_MI_numberOfTrailingZeros : Cond.code MI_numberOfTrailingZeros.1 MI_numberOfTrailingZeros.2.1 MI_numberOfTrailingZeros.2.2.1 MI_numberOfTrailingZeros.2.2.2 ∈ z_T := (z_inT (List.mem_append_right _ (List.mem_of_getElem? (i := 359) (by decide +kernel))) rfl)
theorem wt_MI_numberOfTrailingZeros : Cond.static MI_numberOfTrailingZeros.1 ∈ z_T := (z_inT (List.mem_append_right _ (List.mem_of_getElem? (i := 358) (by decide +kernel))) rfl)
abbrev M2_surplus : z_M := (⟨"RoadCounts$Network", "surplus", "(I)J"⟩, prog_4_method_9_code, 5, some FieldType.long)
theorem wc_M2_surplus : Cond.code M2_surplus.1 M2_surplus.2.1 M2_surplus.2.2.1 M2_surplus.2.2.2 ∈ z_T := (z_inT (List.mem_append_right _ (List.mem_of_getElem? (i := 364) (by decide +kernel))) rfl)
theorem wv_M2_surplus : Cond.instanceMethod M2_surplus.1 ∈ z_T := (z_inT (List.mem_append_right _ (List.mem_of_getElem? (i := 362) (by decide +kernel))) rfl)
theorem ws_M2_surplus : Cond.selects M2_surplus.1.cls M2_surplus.1 M2_surplus.1 ∈ z_T := (z_inT (List.mem_append_right _ (List.mem_of_getElem? (i := 363) (by decide +kernel))) rfl)
abbrev M2_isTold : z_M := (⟨"RoadCounts$Network", "isTold", "(I)Z"⟩, prog_4_method_6_code, 2, some FieldType.boolean)
theorem wc_M2_isTold : Cond.code M2_isTold.1 M2_isTold.2.1 M2_isTold.2.2.1 M2_isTold.2.2.2 ∈ z_T := (z_inT (List.mem_append_right _ (List.mem_of_getElem? (i := 368) (by decide +kernel))) rfl)
theorem wv_M2_isTold : Cond.instanceMethod M2_isTold.1 ∈ z_T := (z_inT (List.mem_append_right _ (List.mem_of_getElem? (i := 366) (by decide +kernel))) rfl)
theorem ws_M2_isTold : Cond.selects M2_isTold.1.cls M2_isTold.1 M2_isTold.1 ∈ z_T := (z_inT (List.mem_append_right _ (List.mem_of_getElem? (i := 367) (by decide +kernel))) rfl)
abbrev M2_isKnown : z_M := (⟨"RoadCounts$Network", "isKnown", "(I)Z"⟩, prog_4_method_5_code, 2, some FieldType.boolean)
theorem wc_M2_isKnown : Cond.code M2_isKnown.1 M2_isKnown.2.1 M2_isKnown.2.2.1 M2_isKnown.2.2.2 ∈ z_T := (z_inT (List.mem_append_right _ (List.mem_of_getElem? (i := 372) (by decide +kernel))) rfl)
theorem wv_M2_isKnown : Cond.instanceMethod M2_isKnown.1 ∈ z_T := (z_inT (List.mem_append_right _ (List.mem_of_getElem? (i := 370) (by decide +kernel))) rfl)
theorem ws_M2_isKnown : Cond.selects M2_isKnown.1.cls M2_isKnown.1 M2_isKnown.1 ∈ z_T := (z_inT (List.mem_append_right _ (List.mem_of_getElem? (i := 371) (by decide +kernel))) rfl)
abbrev M7_load : z_M := (⟨"RoadCounts", "load", "(I)J"⟩, prog_1_method_12_code, 2, some FieldType.long)
theorem wc_M7_load : Cond.code M7_load.1 M7_load.2.1 M7_load.2.2.1 M7_load.2.2.2 ∈ z_T := (z_inT (List.mem_append_right _ (List.mem_of_getElem? (i := 377) (by decide +kernel))) rfl)
theorem wv_M7_load : Cond.instanceMethod M7_load.1 ∈ z_T := (z_inT (List.mem_append_right _ (List.mem_of_getElem? (i := 375) (by decide +kernel))) rfl)
theorem ws_M7_load : Cond.selects M7_load.1.cls M7_load.1 M7_load.1 ∈ z_T := (z_inT (List.mem_append_right _ (List.mem_of_getElem? (i := 376) (by decide +kernel))) rfl)
abbrev M2_loadOf : z_M := (⟨"RoadCounts$Network", "loadOf", "(I)J"⟩, prog_4_method_8_code, 2, some FieldType.long)
theorem wc_M2_loadOf : Cond.code M2_loadOf.1 M2_loadOf.2.1 M2_loadOf.2.2.1 M2_loadOf.2.2.2 ∈ z_T := (z_inT (List.mem_append_right _ (List.mem_of_getElem? (i := 381) (by decide +kernel))) rfl)
theorem wv_M2_loadOf : Cond.instanceMethod M2_loadOf.1 ∈ z_T := (z_inT (List.mem_append_right _ (List.mem_of_getElem? (i := 379) (by decide +kernel))) rfl)
theorem ws_M2_loadOf : Cond.selects M2_loadOf.1.cls M2_loadOf.1 M2_loadOf.1 ∈ z_T := (z_inT (List.mem_append_right _ (List.mem_of_getElem? (i := 380) (by decide +kernel))) rfl)
abbrev M7_balances : z_M := (⟨"RoadCounts", "balances", "(I)I"⟩, prog_1_method_13_code, 2, some FieldType.int)
theorem wc_M7_balances : Cond.code M7_balances.1 M7_balances.2.1 M7_balances.2.2.1 M7_balances.2.2.2 ∈ z_T := (z_inT (List.mem_append_right _ (List.mem_of_getElem? (i := 385) (by decide +kernel))) rfl)
theorem wv_M7_balances : Cond.instanceMethod M7_balances.1 ∈ z_T := (z_inT (List.mem_append_right _ (List.mem_of_getElem? (i := 383) (by decide +kernel))) rfl)
theorem ws_M7_balances : Cond.selects M7_balances.1.cls M7_balances.1 M7_balances.1 ∈ z_T := (z_inT (List.mem_append_right _ (List.mem_of_getElem? (i := 384) (by decide +kernel))) rfl)
abbrev M2_isAllToldAt : z_M := (⟨"RoadCounts$Network", "isAllToldAt", "(I)Z"⟩, prog_4_method_7_code, 2, some FieldType.boolean)
theorem wc_M2_isAllToldAt : Cond.code M2_isAllToldAt.1 M2_isAllToldAt.2.1 M2_isAllToldAt.2.2.1 M2_isAllToldAt.2.2.2 ∈ z_T := (z_inT (List.mem_append_right _ (List.mem_of_getElem? (i := 389) (by decide +kernel))) rfl)
theorem wv_M2_isAllToldAt : Cond.instanceMethod M2_isAllToldAt.1 ∈ z_T := (z_inT (List.mem_append_right _ (List.mem_of_getElem? (i := 387) (by decide +kernel))) rfl)
theorem ws_M2_isAllToldAt : Cond.selects M2_isAllToldAt.1.cls M2_isAllToldAt.1 M2_isAllToldAt.1 ∈ z_T := (z_inT (List.mem_append_right _ (List.mem_of_getElem? (i := 388) (by decide +kernel))) rfl)
abbrev M7_balance : z_M := (⟨"RoadCounts", "balance", "(I)J"⟩, prog_1_method_14_code, 2, some FieldType.long)
theorem wc_M7_balance : Cond.code M7_balance.1 M7_balance.2.1 M7_balance.2.2.1 M7_balance.2.2.2 ∈ z_T := (z_inT (List.mem_append_right _ (List.mem_of_getElem? (i := 393) (by decide +kernel))) rfl)
theorem wv_M7_balance : Cond.instanceMethod M7_balance.1 ∈ z_T := (z_inT (List.mem_append_right _ (List.mem_of_getElem? (i := 391) (by decide +kernel))) rfl)
theorem ws_M7_balance : Cond.selects M7_balance.1.cls M7_balance.1 M7_balance.1 ∈ z_T := (z_inT (List.mem_append_right _ (List.mem_of_getElem? (i := 392) (by decide +kernel))) rfl)
abbrev M7_does : z_M := (⟨"RoadCounts", "does", "(I)I"⟩, prog_1_method_15_code, 2, some FieldType.int)
theorem wc_M7_does : Cond.code M7_does.1 M7_does.2.1 M7_does.2.2.1 M7_does.2.2.2 ∈ z_T := (z_inT (List.mem_append_right _ (List.mem_of_getElem? (i := 398) (by decide +kernel))) rfl)
theorem wv_M7_does : Cond.instanceMethod M7_does.1 ∈ z_T := (z_inT (List.mem_append_right _ (List.mem_of_getElem? (i := 396) (by decide +kernel))) rfl)
theorem ws_M7_does : Cond.selects M7_does.1.cls M7_does.1 M7_does.1 ∈ z_T := (z_inT (List.mem_append_right _ (List.mem_of_getElem? (i := 397) (by decide +kernel))) rfl)
abbrev M2_hasAll : z_M := (⟨"RoadCounts$Network", "hasAll", "(I)Z"⟩, prog_4_method_4_code, 2, some FieldType.boolean)
theorem wc_M2_hasAll : Cond.code M2_hasAll.1 M2_hasAll.2.1 M2_hasAll.2.2.1 M2_hasAll.2.2.2 ∈ z_T := (z_inT (List.mem_append_right _ (List.mem_of_getElem? (i := 402) (by decide +kernel))) rfl)
theorem wv_M2_hasAll : Cond.instanceMethod M2_hasAll.1 ∈ z_T := (z_inT (List.mem_append_right _ (List.mem_of_getElem? (i := 400) (by decide +kernel))) rfl)
theorem ws_M2_hasAll : Cond.selects M2_hasAll.1.cls M2_hasAll.1 M2_hasAll.1 ∈ z_T := (z_inT (List.mem_append_right _ (List.mem_of_getElem? (i := 401) (by decide +kernel))) rfl)
abbrev M2_isEnough : z_M := (⟨"RoadCounts$Network", "isEnough", "(I)Z"⟩, prog_4_method_11_code, 2, some FieldType.boolean)
theorem wc_M2_isEnough : Cond.code M2_isEnough.1 M2_isEnough.2.1 M2_isEnough.2.2.1 M2_isEnough.2.2.2 ∈ z_T := (z_inT (List.mem_append_right _ (List.mem_of_getElem? (i := 406) (by decide +kernel))) rfl)
theorem wv_M2_isEnough : Cond.instanceMethod M2_isEnough.1 ∈ z_T := (z_inT (List.mem_append_right _ (List.mem_of_getElem? (i := 404) (by decide +kernel))) rfl)
theorem ws_M2_isEnough : Cond.selects M2_isEnough.1.cls M2_isEnough.1 M2_isEnough.1 ∈ z_T := (z_inT (List.mem_append_right _ (List.mem_of_getElem? (i := 405) (by decide +kernel))) rfl)
abbrev M7_plan : z_M := (⟨"RoadCounts", "plan", "()I"⟩, prog_1_method_16_code, 1, some FieldType.int)
theorem wc_M7_plan : Cond.code M7_plan.1 M7_plan.2.1 M7_plan.2.2.1 M7_plan.2.2.2 ∈ z_T := (z_inT (List.mem_append_right _ (List.mem_of_getElem? (i := 410) (by decide +kernel))) rfl)
theorem wv_M7_plan : Cond.instanceMethod M7_plan.1 ∈ z_T := (z_inT (List.mem_append_right _ (List.mem_of_getElem? (i := 408) (by decide +kernel))) rfl)
theorem ws_M7_plan : Cond.selects M7_plan.1.cls M7_plan.1 M7_plan.1 ∈ z_T := (z_inT (List.mem_append_right _ (List.mem_of_getElem? (i := 409) (by decide +kernel))) rfl)
abbrev M2_cheapestEnough : z_M := (⟨"RoadCounts$Network", "cheapestEnough", "()I"⟩, prog_4_method_12_code, 5, some FieldType.int)
theorem wc_M2_cheapestEnough : Cond.code M2_cheapestEnough.1 M2_cheapestEnough.2.1 M2_cheapestEnough.2.2.1 M2_cheapestEnough.2.2.2 ∈ z_T := (z_inT (List.mem_append_right _ (List.mem_of_getElem? (i := 414) (by decide +kernel))) rfl)
theorem wv_M2_cheapestEnough : Cond.instanceMethod M2_cheapestEnough.1 ∈ z_T := (z_inT (List.mem_append_right _ (List.mem_of_getElem? (i := 412) (by decide +kernel))) rfl)
theorem ws_M2_cheapestEnough : Cond.selects M2_cheapestEnough.1.cls M2_cheapestEnough.1 M2_cheapestEnough.1 ∈ z_T := (z_inT (List.mem_append_right _ (List.mem_of_getElem? (i := 413) (by decide +kernel))) rfl)
abbrev M2_dearestOutside : z_M := (⟨"RoadCounts$Network", "dearestOutside", "(I)I"⟩, prog_4_method_13_code, 5, some FieldType.int)
theorem wc_M2_dearestOutside : Cond.code M2_dearestOutside.1 M2_dearestOutside.2.1 M2_dearestOutside.2.2.1 M2_dearestOutside.2.2.2 ∈ z_T := (z_inT (List.mem_append_right _ (List.mem_of_getElem? (i := 418) (by decide +kernel))) rfl)
theorem wv_M2_dearestOutside : Cond.instanceMethod M2_dearestOutside.1 ∈ z_T := (z_inT (List.mem_append_right _ (List.mem_of_getElem? (i := 417) (by decide +kernel))) rfl)
theorem ws_M2_dearestOutside : Cond.selects M2_dearestOutside.1.cls M2_dearestOutside.1 M2_dearestOutside.1 ∈ z_T := z_inT (List.mem_append_left _ (List.mem_of_getElem? (i := 6) (by decide +kernel))) rfl
abbrev M7_feed : z_M := (⟨"RoadCounts", "feed", "(IIIII)I"⟩, prog_1_method_17_code, 6, some FieldType.int)
theorem wc_M7_feed : Cond.code M7_feed.1 M7_feed.2.1 M7_feed.2.2.1 M7_feed.2.2.2 ∈ z_T := (z_inT (List.mem_append_right _ (List.mem_of_getElem? (i := 423) (by decide +kernel))) rfl)
theorem wv_M7_feed : Cond.instanceMethod M7_feed.1 ∈ z_T := (z_inT (List.mem_append_right _ (List.mem_of_getElem? (i := 421) (by decide +kernel))) rfl)
theorem ws_M7_feed : Cond.selects M7_feed.1.cls M7_feed.1 M7_feed.1 ∈ z_T := (z_inT (List.mem_append_right _ (List.mem_of_getElem? (i := 422) (by decide +kernel))) rfl)
abbrev M6_append : z_M := (⟨"RoadCounts$Tape", "append", "(I)V"⟩, prog_8_method_2_code, 3, none)
theorem wc_M6_append : Cond.code M6_append.1 M6_append.2.1 M6_append.2.2.1 M6_append.2.2.2 ∈ z_T := (z_inT (List.mem_append_right _ (List.mem_of_getElem? (i := 427) (by decide +kernel))) rfl)
theorem wv_M6_append : Cond.instanceMethod M6_append.1 ∈ z_T := (z_inT (List.mem_append_right _ (List.mem_of_getElem? (i := 425) (by decide +kernel))) rfl)
theorem ws_M6_append : Cond.selects M6_append.1.cls M6_append.1 M6_append.1 ∈ z_T := (z_inT (List.mem_append_right _ (List.mem_of_getElem? (i := 426) (by decide +kernel))) rfl)
abbrev M7_rules : z_M := (⟨"RoadCounts", "rules", "(I)I"⟩, prog_1_method_18_code, 4, some FieldType.int)
theorem wc_M7_rules : Cond.code M7_rules.1 M7_rules.2.1 M7_rules.2.2.1 M7_rules.2.2.2 ∈ z_T := (z_inT (List.mem_append_right _ (List.mem_of_getElem? (i := 431) (by decide +kernel))) rfl)
theorem wv_M7_rules : Cond.instanceMethod M7_rules.1 ∈ z_T := (z_inT (List.mem_append_right _ (List.mem_of_getElem? (i := 429) (by decide +kernel))) rfl)
theorem ws_M7_rules : Cond.selects M7_rules.1.cls M7_rules.1 M7_rules.1 ∈ z_T := (z_inT (List.mem_append_right _ (List.mem_of_getElem? (i := 430) (by decide +kernel))) rfl)
abbrev M5_read : z_M := (⟨"RoadCounts$RulesReader", "read", "(ILRoadCounts$Rules;)I"⟩, prog_7_method_2_code, 6, some FieldType.int)
theorem wc_M5_read : Cond.code M5_read.1 M5_read.2.1 M5_read.2.2.1 M5_read.2.2.2 ∈ z_T := (z_inT (List.mem_append_right _ (List.mem_of_getElem? (i := 435) (by decide +kernel))) rfl)
theorem wv_M5_read : Cond.instanceMethod M5_read.1 ∈ z_T := (z_inT (List.mem_append_right _ (List.mem_of_getElem? (i := 433) (by decide +kernel))) rfl)
theorem ws_M5_read : Cond.selects M5_read.1.cls M5_read.1 M5_read.1 ∈ z_T := (z_inT (List.mem_append_right _ (List.mem_of_getElem? (i := 434) (by decide +kernel))) rfl)
abbrev M5_readClause : z_M := (⟨"RoadCounts$RulesReader", "readClause", "(LRoadCounts$Rules;)I"⟩, prog_7_method_3_code, 3, some FieldType.int)
theorem wc_M5_readClause : Cond.code M5_readClause.1 M5_readClause.2.1 M5_readClause.2.2.1 M5_readClause.2.2.2 ∈ z_T := (z_inT (List.mem_append_right _ (List.mem_of_getElem? (i := 439) (by decide +kernel))) rfl)
theorem wv_M5_readClause : Cond.instanceMethod M5_readClause.1 ∈ z_T := (z_inT (List.mem_append_right _ (List.mem_of_getElem? (i := 438) (by decide +kernel))) rfl)
theorem ws_M5_readClause : Cond.selects M5_readClause.1.cls M5_readClause.1 M5_readClause.1 ∈ z_T := z_inT (List.mem_append_left _ (List.mem_of_getElem? (i := 7) (by decide +kernel))) rfl
abbrev M5_sign : z_M := (⟨"RoadCounts$RulesReader", "sign", "()I"⟩, prog_7_method_7_code, 1, some FieldType.int)
theorem wc_M5_sign : Cond.code M5_sign.1 M5_sign.2.1 M5_sign.2.2.1 M5_sign.2.2.2 ∈ z_T := (z_inT (List.mem_append_right _ (List.mem_of_getElem? (i := 443) (by decide +kernel))) rfl)
theorem wv_M5_sign : Cond.instanceMethod M5_sign.1 ∈ z_T := (z_inT (List.mem_append_right _ (List.mem_of_getElem? (i := 442) (by decide +kernel))) rfl)
theorem ws_M5_sign : Cond.selects M5_sign.1.cls M5_sign.1 M5_sign.1 ∈ z_T := z_inT (List.mem_append_left _ (List.mem_of_getElem? (i := 8) (by decide +kernel))) rfl
abbrev M6_at : z_M := (⟨"RoadCounts$Tape", "at", "(I)I"⟩, prog_8_method_3_code, 2, some FieldType.int)
theorem wc_M6_at : Cond.code M6_at.1 M6_at.2.1 M6_at.2.2.1 M6_at.2.2.2 ∈ z_T := (z_inT (List.mem_append_right _ (List.mem_of_getElem? (i := 447) (by decide +kernel))) rfl)
theorem wv_M6_at : Cond.instanceMethod M6_at.1 ∈ z_T := (z_inT (List.mem_append_right _ (List.mem_of_getElem? (i := 445) (by decide +kernel))) rfl)
theorem ws_M6_at : Cond.selects M6_at.1.cls M6_at.1 M6_at.1 ∈ z_T := (z_inT (List.mem_append_right _ (List.mem_of_getElem? (i := 446) (by decide +kernel))) rfl)
abbrev M5_isDigit : z_M := (⟨"RoadCounts$RulesReader", "isDigit", "(I)Z"⟩, prog_7_method_8_code, 1, some FieldType.boolean)
theorem wc_M5_isDigit : Cond.code M5_isDigit.1 M5_isDigit.2.1 M5_isDigit.2.2.1 M5_isDigit.2.2.2 ∈ z_T := (z_inT (List.mem_append_right _ (List.mem_of_getElem? (i := 450) (by decide +kernel))) rfl)
theorem wt_M5_isDigit : Cond.static M5_isDigit.1 ∈ z_T := (z_inT (List.mem_append_right _ (List.mem_of_getElem? (i := 449) (by decide +kernel))) rfl)
abbrev M4_addClause : z_M := (⟨"RoadCounts$Rules", "addClause", "(I)V"⟩, prog_6_method_2_code, 2, none)
theorem wc_M4_addClause : Cond.code M4_addClause.1 M4_addClause.2.1 M4_addClause.2.2.1 M4_addClause.2.2.2 ∈ z_T := (z_inT (List.mem_append_right _ (List.mem_of_getElem? (i := 454) (by decide +kernel))) rfl)
theorem wv_M4_addClause : Cond.instanceMethod M4_addClause.1 ∈ z_T := (z_inT (List.mem_append_right _ (List.mem_of_getElem? (i := 452) (by decide +kernel))) rfl)
theorem ws_M4_addClause : Cond.selects M4_addClause.1.cls M4_addClause.1 M4_addClause.1 ∈ z_T := (z_inT (List.mem_append_right _ (List.mem_of_getElem? (i := 453) (by decide +kernel))) rfl)
abbrev M5_readSpans : z_M := (⟨"RoadCounts$RulesReader", "readSpans", "(LRoadCounts$Rules;)I"⟩, prog_7_method_4_code, 5, some FieldType.int)
theorem wc_M5_readSpans : Cond.code M5_readSpans.1 M5_readSpans.2.1 M5_readSpans.2.2.1 M5_readSpans.2.2.2 ∈ z_T := (z_inT (List.mem_append_right _ (List.mem_of_getElem? (i := 458) (by decide +kernel))) rfl)
theorem wv_M5_readSpans : Cond.instanceMethod M5_readSpans.1 ∈ z_T := (z_inT (List.mem_append_right _ (List.mem_of_getElem? (i := 457) (by decide +kernel))) rfl)
theorem ws_M5_readSpans : Cond.selects M5_readSpans.1.cls M5_readSpans.1 M5_readSpans.1 ∈ z_T := z_inT (List.mem_append_left _ (List.mem_of_getElem? (i := 9) (by decide +kernel))) rfl
abbrev M5_readSpan : z_M := (⟨"RoadCounts$RulesReader", "readSpan", "(LRoadCounts$Rules;)I"⟩, prog_7_method_5_code, 4, some FieldType.int)
theorem wc_M5_readSpan : Cond.code M5_readSpan.1 M5_readSpan.2.1 M5_readSpan.2.2.1 M5_readSpan.2.2.2 ∈ z_T := (z_inT (List.mem_append_right _ (List.mem_of_getElem? (i := 462) (by decide +kernel))) rfl)
theorem wv_M5_readSpan : Cond.instanceMethod M5_readSpan.1 ∈ z_T := (z_inT (List.mem_append_right _ (List.mem_of_getElem? (i := 461) (by decide +kernel))) rfl)
theorem ws_M5_readSpan : Cond.selects M5_readSpan.1.cls M5_readSpan.1 M5_readSpan.1 ∈ z_T := z_inT (List.mem_append_left _ (List.mem_of_getElem? (i := 10) (by decide +kernel))) rfl
abbrev M5_readNumber : z_M := (⟨"RoadCounts$RulesReader", "readNumber", "(I)I"⟩, prog_7_method_6_code, 3, some FieldType.int)
theorem wc_M5_readNumber : Cond.code M5_readNumber.1 M5_readNumber.2.1 M5_readNumber.2.2.1 M5_readNumber.2.2.2 ∈ z_T := (z_inT (List.mem_append_right _ (List.mem_of_getElem? (i := 466) (by decide +kernel))) rfl)
theorem wv_M5_readNumber : Cond.instanceMethod M5_readNumber.1 ∈ z_T := (z_inT (List.mem_append_right _ (List.mem_of_getElem? (i := 465) (by decide +kernel))) rfl)
theorem ws_M5_readNumber : Cond.selects M5_readNumber.1.cls M5_readNumber.1 M5_readNumber.1 ∈ z_T := z_inT (List.mem_append_left _ (List.mem_of_getElem? (i := 11) (by decide +kernel))) rfl
abbrev M4_addSpanToLast : z_M := (⟨"RoadCounts$Rules", "addSpanToLast", "(II)V"⟩, prog_6_method_3_code, 5, none)
theorem wc_M4_addSpanToLast : Cond.code M4_addSpanToLast.1 M4_addSpanToLast.2.1 M4_addSpanToLast.2.2.1 M4_addSpanToLast.2.2.2 ∈ z_T := (z_inT (List.mem_append_right _ (List.mem_of_getElem? (i := 470) (by decide +kernel))) rfl)
theorem wv_M4_addSpanToLast : Cond.instanceMethod M4_addSpanToLast.1 ∈ z_T := (z_inT (List.mem_append_right _ (List.mem_of_getElem? (i := 468) (by decide +kernel))) rfl)
theorem ws_M4_addSpanToLast : Cond.selects M4_addSpanToLast.1.cls M4_addSpanToLast.1 M4_addSpanToLast.1 ∈ z_T := (z_inT (List.mem_append_right _ (List.mem_of_getElem? (i := 469) (by decide +kernel))) rfl)
abbrev M7_pass : z_M := (⟨"RoadCounts", "pass", "(II)I"⟩, prog_1_method_19_code, 7, some FieldType.int)
theorem wc_M7_pass : Cond.code M7_pass.1 M7_pass.2.1 M7_pass.2.2.1 M7_pass.2.2.2 ∈ z_T := (z_inT (List.mem_append_right _ (List.mem_of_getElem? (i := 474) (by decide +kernel))) rfl)
theorem wv_M7_pass : Cond.instanceMethod M7_pass.1 ∈ z_T := (z_inT (List.mem_append_right _ (List.mem_of_getElem? (i := 472) (by decide +kernel))) rfl)
theorem ws_M7_pass : Cond.selects M7_pass.1.cls M7_pass.1 M7_pass.1 ∈ z_T := (z_inT (List.mem_append_right _ (List.mem_of_getElem? (i := 473) (by decide +kernel))) rfl)
abbrev M4_kindOf : z_M := (⟨"RoadCounts$Rules", "kindOf", "(LRoadCounts$Tape;II)I"⟩, prog_6_method_4_code, 5, some FieldType.int)
theorem wc_M4_kindOf : Cond.code M4_kindOf.1 M4_kindOf.2.1 M4_kindOf.2.2.1 M4_kindOf.2.2.2 ∈ z_T := (z_inT (List.mem_append_right _ (List.mem_of_getElem? (i := 479) (by decide +kernel))) rfl)
theorem wv_M4_kindOf : Cond.instanceMethod M4_kindOf.1 ∈ z_T := (z_inT (List.mem_append_right _ (List.mem_of_getElem? (i := 477) (by decide +kernel))) rfl)
theorem ws_M4_kindOf : Cond.selects M4_kindOf.1.cls M4_kindOf.1 M4_kindOf.1 ∈ z_T := (z_inT (List.mem_append_right _ (List.mem_of_getElem? (i := 478) (by decide +kernel))) rfl)
abbrev M4_isWithin : z_M := (⟨"RoadCounts$Rules", "isWithin", "(ILRoadCounts$Tape;I)Z"⟩, prog_6_method_5_code, 6, some FieldType.boolean)
theorem wc_M4_isWithin : Cond.code M4_isWithin.1 M4_isWithin.2.1 M4_isWithin.2.2.1 M4_isWithin.2.2.2 ∈ z_T := (z_inT (List.mem_append_right _ (List.mem_of_getElem? (i := 483) (by decide +kernel))) rfl)
theorem wv_M4_isWithin : Cond.instanceMethod M4_isWithin.1 ∈ z_T := (z_inT (List.mem_append_right _ (List.mem_of_getElem? (i := 482) (by decide +kernel))) rfl)
theorem ws_M4_isWithin : Cond.selects M4_isWithin.1.cls M4_isWithin.1 M4_isWithin.1 ∈ z_T := z_inT (List.mem_append_left _ (List.mem_of_getElem? (i := 12) (by decide +kernel))) rfl
abbrev M7_kinds : z_M := (⟨"RoadCounts", "kinds", "(II)I"⟩, prog_1_method_20_code, 4, some FieldType.int)
theorem wc_M7_kinds : Cond.code M7_kinds.1 M7_kinds.2.1 M7_kinds.2.2.1 M7_kinds.2.2.2 ∈ z_T := (z_inT (List.mem_append_right _ (List.mem_of_getElem? (i := 488) (by decide +kernel))) rfl)
theorem wv_M7_kinds : Cond.instanceMethod M7_kinds.1 ∈ z_T := (z_inT (List.mem_append_right _ (List.mem_of_getElem? (i := 486) (by decide +kernel))) rfl)
theorem ws_M7_kinds : Cond.selects M7_kinds.1.cls M7_kinds.1 M7_kinds.1 ∈ z_T := (z_inT (List.mem_append_right _ (List.mem_of_getElem? (i := 487) (by decide +kernel))) rfl)
abbrev M7_whole : z_M := (⟨"RoadCounts", "whole", "(I)J"⟩, prog_1_method_21_code, 2, some FieldType.long)
theorem wc_M7_whole : Cond.code M7_whole.1 M7_whole.2.1 M7_whole.2.2.1 M7_whole.2.2.2 ∈ z_T := (z_inT (List.mem_append_right _ (List.mem_of_getElem? (i := 492) (by decide +kernel))) rfl)
theorem wv_M7_whole : Cond.instanceMethod M7_whole.1 ∈ z_T := (z_inT (List.mem_append_right _ (List.mem_of_getElem? (i := 490) (by decide +kernel))) rfl)
theorem ws_M7_whole : Cond.selects M7_whole.1.cls M7_whole.1 M7_whole.1 ∈ z_T := (z_inT (List.mem_append_right _ (List.mem_of_getElem? (i := 491) (by decide +kernel))) rfl)
abbrev M7_look : z_M := (⟨"RoadCounts", "look", "(II)I"⟩, prog_1_method_22_code, 4, some FieldType.int)
theorem wc_M7_look : Cond.code M7_look.1 M7_look.2.1 M7_look.2.2.1 M7_look.2.2.2 ∈ z_T := (z_inT (List.mem_append_right _ (List.mem_of_getElem? (i := 497) (by decide +kernel))) rfl)
theorem wv_M7_look : Cond.instanceMethod M7_look.1 ∈ z_T := (z_inT (List.mem_append_right _ (List.mem_of_getElem? (i := 495) (by decide +kernel))) rfl)
theorem ws_M7_look : Cond.selects M7_look.1.cls M7_look.1 M7_look.1 ∈ z_T := (z_inT (List.mem_append_right _ (List.mem_of_getElem? (i := 496) (by decide +kernel))) rfl)
abbrev M1_on : z_M := (⟨"RoadCounts$Counts", "on", "(I)I"⟩, prog_3_method_3_code, 3, some FieldType.int)
theorem wc_M1_on : Cond.code M1_on.1 M1_on.2.1 M1_on.2.2.1 M1_on.2.2.2 ∈ z_T := (z_inT (List.mem_append_right _ (List.mem_of_getElem? (i := 502) (by decide +kernel))) rfl)
theorem wv_M1_on : Cond.instanceMethod M1_on.1 ∈ z_T := (z_inT (List.mem_append_right _ (List.mem_of_getElem? (i := 500) (by decide +kernel))) rfl)
theorem ws_M1_on : Cond.selects M1_on.1.cls M1_on.1 M1_on.1 ∈ z_T := (z_inT (List.mem_append_right _ (List.mem_of_getElem? (i := 501) (by decide +kernel))) rfl)
abbrev M7_tell : z_M := (⟨"RoadCounts", "tell", "(I)I"⟩, prog_1_method_23_code, 2, some FieldType.int)
theorem wc_M7_tell : Cond.code M7_tell.1 M7_tell.2.1 M7_tell.2.2.1 M7_tell.2.2.2 ∈ z_T := (z_inT (List.mem_append_right _ (List.mem_of_getElem? (i := 506) (by decide +kernel))) rfl)
theorem wv_M7_tell : Cond.instanceMethod M7_tell.1 ∈ z_T := (z_inT (List.mem_append_right _ (List.mem_of_getElem? (i := 504) (by decide +kernel))) rfl)
theorem ws_M7_tell : Cond.selects M7_tell.1.cls M7_tell.1 M7_tell.1 ∈ z_T := (z_inT (List.mem_append_right _ (List.mem_of_getElem? (i := 505) (by decide +kernel))) rfl)
abbrev M8_init : z_M := (⟨"RoadCountsModel", "<init>", "()V"⟩, prog_10_method_1_code, 2, none)
theorem wc_M8_init : Cond.code M8_init.1 M8_init.2.1 M8_init.2.2.1 M8_init.2.2.2 ∈ z_T := (z_inT (List.mem_append_right _ (List.mem_of_getElem? (i := 512) (by decide +kernel))) rfl)
theorem wv_M8_init : Cond.instanceMethod M8_init.1 ∈ z_T := (z_inT (List.mem_append_right _ (List.mem_of_getElem? (i := 511) (by decide +kernel))) rfl)
abbrev M8_weekday : z_M := (⟨"RoadCountsModel", "weekday", "(III)Z"⟩, prog_10_method_8_code, 4, some FieldType.boolean)
theorem wc_M8_weekday : Cond.code M8_weekday.1 M8_weekday.2.1 M8_weekday.2.2.1 M8_weekday.2.2.2 ∈ z_T := (z_inT (List.mem_append_right _ (List.mem_of_getElem? (i := 600) (by decide +kernel))) rfl)
theorem wv_M8_weekday : Cond.instanceMethod M8_weekday.1 ∈ z_T := (z_inT (List.mem_append_right _ (List.mem_of_getElem? (i := 598) (by decide +kernel))) rfl)
theorem ws_M8_weekday : Cond.selects M8_weekday.1.cls M8_weekday.1 M8_weekday.1 ∈ z_T := (z_inT (List.mem_append_right _ (List.mem_of_getElem? (i := 599) (by decide +kernel))) rfl)
abbrev M8_isShape : z_M := (⟨"RoadCountsModel", "isShape", "(I)Z"⟩, prog_10_method_4_code, 1, some FieldType.boolean)
theorem wc_M8_isShape : Cond.code M8_isShape.1 M8_isShape.2.1 M8_isShape.2.2.1 M8_isShape.2.2.2 ∈ z_T := (z_inT (List.mem_append_right _ (List.mem_of_getElem? (i := 603) (by decide +kernel))) rfl)
theorem wt_M8_isShape : Cond.static M8_isShape.1 ∈ z_T := (z_inT (List.mem_append_right _ (List.mem_of_getElem? (i := 602) (by decide +kernel))) rfl)
abbrev M8_lies : z_M := (⟨"RoadCountsModel", "lies", "(JJJ)Z"⟩, prog_10_method_2_code, 6, some FieldType.boolean)
theorem wc_M8_lies : Cond.code M8_lies.1 M8_lies.2.1 M8_lies.2.2.1 M8_lies.2.2.2 ∈ z_T := (z_inT (List.mem_append_right _ (List.mem_of_getElem? (i := 607) (by decide +kernel))) rfl)
theorem wt_M8_lies : Cond.static M8_lies.1 ∈ z_T := (z_inT (List.mem_append_right _ (List.mem_of_getElem? (i := 606) (by decide +kernel))) rfl)
abbrev M8_month : z_M := (⟨"RoadCountsModel", "month", "(III)Z"⟩, prog_10_method_9_code, 4, some FieldType.boolean)
theorem wc_M8_month : Cond.code M8_month.1 M8_month.2.1 M8_month.2.2.1 M8_month.2.2.2 ∈ z_T := (z_inT (List.mem_append_right _ (List.mem_of_getElem? (i := 613) (by decide +kernel))) rfl)
theorem wv_M8_month : Cond.instanceMethod M8_month.1 ∈ z_T := (z_inT (List.mem_append_right _ (List.mem_of_getElem? (i := 611) (by decide +kernel))) rfl)
theorem ws_M8_month : Cond.selects M8_month.1.cls M8_month.1 M8_month.1 ∈ z_T := (z_inT (List.mem_append_right _ (List.mem_of_getElem? (i := 612) (by decide +kernel))) rfl)
abbrev M8_holiday : z_M := (⟨"RoadCountsModel", "holiday", "(I)Z"⟩, prog_10_method_10_code, 2, some FieldType.boolean)
theorem wc_M8_holiday : Cond.code M8_holiday.1 M8_holiday.2.1 M8_holiday.2.2.1 M8_holiday.2.2.2 ∈ z_T := (z_inT (List.mem_append_right _ (List.mem_of_getElem? (i := 618) (by decide +kernel))) rfl)
theorem wv_M8_holiday : Cond.instanceMethod M8_holiday.1 ∈ z_T := (z_inT (List.mem_append_right _ (List.mem_of_getElem? (i := 616) (by decide +kernel))) rfl)
theorem ws_M8_holiday : Cond.selects M8_holiday.1.cls M8_holiday.1 M8_holiday.1 ∈ z_T := (z_inT (List.mem_append_right _ (List.mem_of_getElem? (i := 617) (by decide +kernel))) rfl)
abbrev M8_whole : z_M := (⟨"RoadCountsModel", "whole", "(I)J"⟩, prog_10_method_13_code, 2, some FieldType.long)
theorem wc_M8_whole : Cond.code M8_whole.1 M8_whole.2.1 M8_whole.2.2.1 M8_whole.2.2.2 ∈ z_T := (z_inT (List.mem_append_right _ (List.mem_of_getElem? (i := 623) (by decide +kernel))) rfl)
theorem wv_M8_whole : Cond.instanceMethod M8_whole.1 ∈ z_T := (z_inT (List.mem_append_right _ (List.mem_of_getElem? (i := 621) (by decide +kernel))) rfl)
theorem ws_M8_whole : Cond.selects M8_whole.1.cls M8_whole.1 M8_whole.1 ∈ z_T := (z_inT (List.mem_append_right _ (List.mem_of_getElem? (i := 622) (by decide +kernel))) rfl)
abbrev M8_wholeOf : z_M := (⟨"RoadCountsModel", "wholeOf", "(I)J"⟩, prog_10_method_12_code, 5, some FieldType.long)
theorem wc_M8_wholeOf : Cond.code M8_wholeOf.1 M8_wholeOf.2.1 M8_wholeOf.2.2.1 M8_wholeOf.2.2.2 ∈ z_T := (z_inT (List.mem_append_right _ (List.mem_of_getElem? (i := 627) (by decide +kernel))) rfl)
theorem wv_M8_wholeOf : Cond.instanceMethod M8_wholeOf.1 ∈ z_T := (z_inT (List.mem_append_right _ (List.mem_of_getElem? (i := 626) (by decide +kernel))) rfl)
theorem ws_M8_wholeOf : Cond.selects M8_wholeOf.1.cls M8_wholeOf.1 M8_wholeOf.1 ∈ z_T := z_inT (List.mem_append_left _ (List.mem_of_getElem? (i := 13) (by decide +kernel))) rfl
abbrev M8_share : z_M := (⟨"RoadCountsModel", "share", "(II)J"⟩, prog_10_method_11_code, 3, some FieldType.long)
theorem wc_M8_share : Cond.code M8_share.1 M8_share.2.1 M8_share.2.2.1 M8_share.2.2.2 ∈ z_T := (z_inT (List.mem_append_right _ (List.mem_of_getElem? (i := 631) (by decide +kernel))) rfl)
theorem wv_M8_share : Cond.instanceMethod M8_share.1 ∈ z_T := (z_inT (List.mem_append_right _ (List.mem_of_getElem? (i := 630) (by decide +kernel))) rfl)
theorem ws_M8_share : Cond.selects M8_share.1.cls M8_share.1 M8_share.1 ∈ z_T := z_inT (List.mem_append_left _ (List.mem_of_getElem? (i := 14) (by decide +kernel))) rfl
abbrev M8_road : z_M := (⟨"RoadCountsModel", "road", "(III)I"⟩, prog_10_method_15_code, 4, some FieldType.int)
theorem wc_M8_road : Cond.code M8_road.1 M8_road.2.1 M8_road.2.2.1 M8_road.2.2.2 ∈ z_T := (z_inT (List.mem_append_right _ (List.mem_of_getElem? (i := 636) (by decide +kernel))) rfl)
theorem wv_M8_road : Cond.instanceMethod M8_road.1 ∈ z_T := (z_inT (List.mem_append_right _ (List.mem_of_getElem? (i := 634) (by decide +kernel))) rfl)
theorem ws_M8_road : Cond.selects M8_road.1.cls M8_road.1 M8_road.1 ∈ z_T := (z_inT (List.mem_append_right _ (List.mem_of_getElem? (i := 635) (by decide +kernel))) rfl)
abbrev M8_isEnd : z_M := (⟨"RoadCountsModel", "isEnd", "(I)Z"⟩, prog_10_method_14_code, 1, some FieldType.boolean)
theorem wc_M8_isEnd : Cond.code M8_isEnd.1 M8_isEnd.2.1 M8_isEnd.2.2.1 M8_isEnd.2.2.2 ∈ z_T := (z_inT (List.mem_append_right _ (List.mem_of_getElem? (i := 639) (by decide +kernel))) rfl)
theorem wt_M8_isEnd : Cond.static M8_isEnd.1 ∈ z_T := (z_inT (List.mem_append_right _ (List.mem_of_getElem? (i := 638) (by decide +kernel))) rfl)
abbrev M8_shape : z_M := (⟨"RoadCountsModel", "shape", "(II)Z"⟩, prog_10_method_16_code, 3, some FieldType.boolean)
theorem wc_M8_shape : Cond.code M8_shape.1 M8_shape.2.1 M8_shape.2.2.1 M8_shape.2.2.2 ∈ z_T := (z_inT (List.mem_append_right _ (List.mem_of_getElem? (i := 645) (by decide +kernel))) rfl)
theorem wv_M8_shape : Cond.instanceMethod M8_shape.1 ∈ z_T := (z_inT (List.mem_append_right _ (List.mem_of_getElem? (i := 643) (by decide +kernel))) rfl)
theorem ws_M8_shape : Cond.selects M8_shape.1.cls M8_shape.1 M8_shape.1 ∈ z_T := (z_inT (List.mem_append_right _ (List.mem_of_getElem? (i := 644) (by decide +kernel))) rfl)
abbrev M8_isRoad : z_M := (⟨"RoadCountsModel", "isRoad", "(I)Z"⟩, prog_10_method_3_code, 2, some FieldType.boolean)
theorem wc_M8_isRoad : Cond.code M8_isRoad.1 M8_isRoad.2.1 M8_isRoad.2.2.1 M8_isRoad.2.2.2 ∈ z_T := (z_inT (List.mem_append_right _ (List.mem_of_getElem? (i := 649) (by decide +kernel))) rfl)
theorem wv_M8_isRoad : Cond.instanceMethod M8_isRoad.1 ∈ z_T := (z_inT (List.mem_append_right _ (List.mem_of_getElem? (i := 648) (by decide +kernel))) rfl)
theorem ws_M8_isRoad : Cond.selects M8_isRoad.1.cls M8_isRoad.1 M8_isRoad.1 ∈ z_T := z_inT (List.mem_append_left _ (List.mem_of_getElem? (i := 15) (by decide +kernel))) rfl
abbrev M8_count : z_M := (⟨"RoadCountsModel", "count", "(III)Z"⟩, prog_10_method_17_code, 4, some FieldType.boolean)
theorem wc_M8_count : Cond.code M8_count.1 M8_count.2.1 M8_count.2.2.1 M8_count.2.2.2 ∈ z_T := (z_inT (List.mem_append_right _ (List.mem_of_getElem? (i := 653) (by decide +kernel))) rfl)
theorem wv_M8_count : Cond.instanceMethod M8_count.1 ∈ z_T := (z_inT (List.mem_append_right _ (List.mem_of_getElem? (i := 651) (by decide +kernel))) rfl)
theorem ws_M8_count : Cond.selects M8_count.1.cls M8_count.1 M8_count.1 ∈ z_T := (z_inT (List.mem_append_right _ (List.mem_of_getElem? (i := 652) (by decide +kernel))) rfl)
abbrev M8_year : z_M := (⟨"RoadCountsModel", "year", "(I)J"⟩, prog_10_method_23_code, 2, some FieldType.long)
theorem wc_M8_year : Cond.code M8_year.1 M8_year.2.1 M8_year.2.2.1 M8_year.2.2.2 ∈ z_T := (z_inT (List.mem_append_right _ (List.mem_of_getElem? (i := 658) (by decide +kernel))) rfl)
theorem wv_M8_year : Cond.instanceMethod M8_year.1 ∈ z_T := (z_inT (List.mem_append_right _ (List.mem_of_getElem? (i := 656) (by decide +kernel))) rfl)
theorem ws_M8_year : Cond.selects M8_year.1.cls M8_year.1 M8_year.1 ∈ z_T := (z_inT (List.mem_append_right _ (List.mem_of_getElem? (i := 657) (by decide +kernel))) rfl)
abbrev M8_usedOf : z_M := (⟨"RoadCountsModel", "usedOf", "(I)I"⟩, prog_10_method_19_code, 4, some FieldType.int)
theorem wc_M8_usedOf : Cond.code M8_usedOf.1 M8_usedOf.2.1 M8_usedOf.2.2.1 M8_usedOf.2.2.2 ∈ z_T := (z_inT (List.mem_append_right _ (List.mem_of_getElem? (i := 662) (by decide +kernel))) rfl)
theorem wv_M8_usedOf : Cond.instanceMethod M8_usedOf.1 ∈ z_T := (z_inT (List.mem_append_right _ (List.mem_of_getElem? (i := 661) (by decide +kernel))) rfl)
theorem ws_M8_usedOf : Cond.selects M8_usedOf.1.cls M8_usedOf.1 M8_usedOf.1 ∈ z_T := z_inT (List.mem_append_left _ (List.mem_of_getElem? (i := 16) (by decide +kernel))) rfl
abbrev M8_isUsed : z_M := (⟨"RoadCountsModel", "isUsed", "(II)Z"⟩, prog_10_method_18_code, 3, some FieldType.boolean)
theorem wc_M8_isUsed : Cond.code M8_isUsed.1 M8_isUsed.2.1 M8_isUsed.2.2.1 M8_isUsed.2.2.2 ∈ z_T := (z_inT (List.mem_append_right _ (List.mem_of_getElem? (i := 666) (by decide +kernel))) rfl)
theorem wv_M8_isUsed : Cond.instanceMethod M8_isUsed.1 ∈ z_T := (z_inT (List.mem_append_right _ (List.mem_of_getElem? (i := 665) (by decide +kernel))) rfl)
theorem ws_M8_isUsed : Cond.selects M8_isUsed.1.cls M8_isUsed.1 M8_isUsed.1 ∈ z_T := z_inT (List.mem_append_left _ (List.mem_of_getElem? (i := 17) (by decide +kernel))) rfl
abbrev M8_yearOf : z_M := (⟨"RoadCountsModel", "yearOf", "(I)J"⟩, prog_10_method_22_code, 2, some FieldType.long)
theorem wc_M8_yearOf : Cond.code M8_yearOf.1 M8_yearOf.2.1 M8_yearOf.2.2.1 M8_yearOf.2.2.2 ∈ z_T := (z_inT (List.mem_append_right _ (List.mem_of_getElem? (i := 670) (by decide +kernel))) rfl)
theorem wv_M8_yearOf : Cond.instanceMethod M8_yearOf.1 ∈ z_T := (z_inT (List.mem_append_right _ (List.mem_of_getElem? (i := 669) (by decide +kernel))) rfl)
theorem ws_M8_yearOf : Cond.selects M8_yearOf.1.cls M8_yearOf.1 M8_yearOf.1 ∈ z_T := z_inT (List.mem_append_left _ (List.mem_of_getElem? (i := 18) (by decide +kernel))) rfl
abbrev M8_countsOf : z_M := (⟨"RoadCountsModel", "countsOf", "(I)J"⟩, prog_10_method_20_code, 5, some FieldType.long)
theorem wc_M8_countsOf : Cond.code M8_countsOf.1 M8_countsOf.2.1 M8_countsOf.2.2.1 M8_countsOf.2.2.2 ∈ z_T := (z_inT (List.mem_append_right _ (List.mem_of_getElem? (i := 674) (by decide +kernel))) rfl)
theorem wv_M8_countsOf : Cond.instanceMethod M8_countsOf.1 ∈ z_T := (z_inT (List.mem_append_right _ (List.mem_of_getElem? (i := 673) (by decide +kernel))) rfl)
theorem ws_M8_countsOf : Cond.selects M8_countsOf.1.cls M8_countsOf.1 M8_countsOf.1 ∈ z_T := z_inT (List.mem_append_left _ (List.mem_of_getElem? (i := 19) (by decide +kernel))) rfl
abbrev M8_sharesOf : z_M := (⟨"RoadCountsModel", "sharesOf", "(II)J"⟩, prog_10_method_21_code, 6, some FieldType.long)
theorem wc_M8_sharesOf : Cond.code M8_sharesOf.1 M8_sharesOf.2.1 M8_sharesOf.2.2.1 M8_sharesOf.2.2.2 ∈ z_T := (z_inT (List.mem_append_right _ (List.mem_of_getElem? (i := 678) (by decide +kernel))) rfl)
theorem wv_M8_sharesOf : Cond.instanceMethod M8_sharesOf.1 ∈ z_T := (z_inT (List.mem_append_right _ (List.mem_of_getElem? (i := 677) (by decide +kernel))) rfl)
theorem ws_M8_sharesOf : Cond.selects M8_sharesOf.1.cls M8_sharesOf.1 M8_sharesOf.1 ∈ z_T := z_inT (List.mem_append_left _ (List.mem_of_getElem? (i := 20) (by decide +kernel))) rfl
abbrev M8_span : z_M := (⟨"RoadCountsModel", "span", "(II)J"⟩, prog_10_method_24_code, 8, some FieldType.long)
theorem wc_M8_span : Cond.code M8_span.1 M8_span.2.1 M8_span.2.2.1 M8_span.2.2.2 ∈ z_T := (z_inT (List.mem_append_right _ (List.mem_of_getElem? (i := 682) (by decide +kernel))) rfl)
theorem wv_M8_span : Cond.instanceMethod M8_span.1 ∈ z_T := (z_inT (List.mem_append_right _ (List.mem_of_getElem? (i := 680) (by decide +kernel))) rfl)
theorem ws_M8_span : Cond.selects M8_span.1.cls M8_span.1 M8_span.1 ∈ z_T := (z_inT (List.mem_append_right _ (List.mem_of_getElem? (i := 681) (by decide +kernel))) rfl)
abbrev M8_best : z_M := (⟨"RoadCountsModel", "best", "(I)I"⟩, prog_10_method_26_code, 4, some FieldType.int)
theorem wc_M8_best : Cond.code M8_best.1 M8_best.2.1 M8_best.2.2.1 M8_best.2.2.2 ∈ z_T := (z_inT (List.mem_append_right _ (List.mem_of_getElem? (i := 686) (by decide +kernel))) rfl)
theorem wv_M8_best : Cond.instanceMethod M8_best.1 ∈ z_T := (z_inT (List.mem_append_right _ (List.mem_of_getElem? (i := 684) (by decide +kernel))) rfl)
theorem ws_M8_best : Cond.selects M8_best.1.cls M8_best.1 M8_best.1 ∈ z_T := (z_inT (List.mem_append_right _ (List.mem_of_getElem? (i := 685) (by decide +kernel))) rfl)
abbrev M8_misfit : z_M := (⟨"RoadCountsModel", "misfit", "(II)J"⟩, prog_10_method_25_code, 10, some FieldType.long)
theorem wc_M8_misfit : Cond.code M8_misfit.1 M8_misfit.2.1 M8_misfit.2.2.1 M8_misfit.2.2.2 ∈ z_T := (z_inT (List.mem_append_right _ (List.mem_of_getElem? (i := 690) (by decide +kernel))) rfl)
theorem wv_M8_misfit : Cond.instanceMethod M8_misfit.1 ∈ z_T := (z_inT (List.mem_append_right _ (List.mem_of_getElem? (i := 689) (by decide +kernel))) rfl)
theorem ws_M8_misfit : Cond.selects M8_misfit.1.cls M8_misfit.1 M8_misfit.1 ∈ z_T := z_inT (List.mem_append_left _ (List.mem_of_getElem? (i := 21) (by decide +kernel))) rfl
abbrev M8_size : z_M := (⟨"RoadCountsModel", "size", "(J)J"⟩, prog_10_method_6_code, 2, some FieldType.long)
theorem wc_M8_size : Cond.code M8_size.1 M8_size.2.1 M8_size.2.2.1 M8_size.2.2.2 ∈ z_T := (z_inT (List.mem_append_right _ (List.mem_of_getElem? (i := 693) (by decide +kernel))) rfl)
theorem wt_M8_size : Cond.static M8_size.1 ∈ z_T := (z_inT (List.mem_append_right _ (List.mem_of_getElem? (i := 692) (by decide +kernel))) rfl)
abbrev M8_how : z_M := (⟨"RoadCountsModel", "how", "(I)I"⟩, prog_10_method_32_code, 2, some FieldType.int)
theorem wc_M8_how : Cond.code M8_how.1 M8_how.2.1 M8_how.2.2.1 M8_how.2.2.2 ∈ z_T := (z_inT (List.mem_append_right _ (List.mem_of_getElem? (i := 697) (by decide +kernel))) rfl)
theorem wv_M8_how : Cond.instanceMethod M8_how.1 ∈ z_T := (z_inT (List.mem_append_right _ (List.mem_of_getElem? (i := 695) (by decide +kernel))) rfl)
theorem ws_M8_how : Cond.selects M8_how.1.cls M8_how.1 M8_how.1 ∈ z_T := (z_inT (List.mem_append_right _ (List.mem_of_getElem? (i := 696) (by decide +kernel))) rfl)
abbrev M8_knownRoads : z_M := (⟨"RoadCountsModel", "knownRoads", "()I"⟩, prog_10_method_28_code, 3, some FieldType.int)
theorem wc_M8_knownRoads : Cond.code M8_knownRoads.1 M8_knownRoads.2.1 M8_knownRoads.2.2.1 M8_knownRoads.2.2.2 ∈ z_T := (z_inT (List.mem_append_right _ (List.mem_of_getElem? (i := 701) (by decide +kernel))) rfl)
theorem wv_M8_knownRoads : Cond.instanceMethod M8_knownRoads.1 ∈ z_T := (z_inT (List.mem_append_right _ (List.mem_of_getElem? (i := 700) (by decide +kernel))) rfl)
theorem ws_M8_knownRoads : Cond.selects M8_knownRoads.1.cls M8_knownRoads.1 M8_knownRoads.1 ∈ z_T := z_inT (List.mem_append_left _ (List.mem_of_getElem? (i := 22) (by decide +kernel))) rfl
abbrev M8_has : z_M := (⟨"RoadCountsModel", "has", "(II)Z"⟩, prog_10_method_5_code, 2, some FieldType.boolean)
theorem wc_M8_has : Cond.code M8_has.1 M8_has.2.1 M8_has.2.2.1 M8_has.2.2.2 ∈ z_T := (z_inT (List.mem_append_right _ (List.mem_of_getElem? (i := 704) (by decide +kernel))) rfl)
theorem wt_M8_has : Cond.static M8_has.1 ∈ z_T := (z_inT (List.mem_append_right _ (List.mem_of_getElem? (i := 703) (by decide +kernel))) rfl)
abbrev M8_works : z_M := (⟨"RoadCountsModel", "works", "()I"⟩, prog_10_method_31_code, 3, some FieldType.int)
theorem wc_M8_works : Cond.code M8_works.1 M8_works.2.1 M8_works.2.2.1 M8_works.2.2.2 ∈ z_T := (z_inT (List.mem_append_right _ (List.mem_of_getElem? (i := 708) (by decide +kernel))) rfl)
theorem wv_M8_works : Cond.instanceMethod M8_works.1 ∈ z_T := (z_inT (List.mem_append_right _ (List.mem_of_getElem? (i := 707) (by decide +kernel))) rfl)
theorem ws_M8_works : Cond.selects M8_works.1.cls M8_works.1 M8_works.1 ∈ z_T := z_inT (List.mem_append_left _ (List.mem_of_getElem? (i := 23) (by decide +kernel))) rfl
abbrev M8_grows : z_M := (⟨"RoadCountsModel", "grows", "(I)I"⟩, prog_10_method_30_code, 7, some FieldType.int)
theorem wc_M8_grows : Cond.code M8_grows.1 M8_grows.2.1 M8_grows.2.2.1 M8_grows.2.2.2 ∈ z_T := (z_inT (List.mem_append_right _ (List.mem_of_getElem? (i := 712) (by decide +kernel))) rfl)
theorem wv_M8_grows : Cond.instanceMethod M8_grows.1 ∈ z_T := (z_inT (List.mem_append_right _ (List.mem_of_getElem? (i := 711) (by decide +kernel))) rfl)
theorem ws_M8_grows : Cond.selects M8_grows.1.cls M8_grows.1 M8_grows.1 ∈ z_T := z_inT (List.mem_append_left _ (List.mem_of_getElem? (i := 24) (by decide +kernel))) rfl
abbrev M8_roadsAt : z_M := (⟨"RoadCountsModel", "roadsAt", "(I)I"⟩, prog_10_method_27_code, 4, some FieldType.int)
theorem wc_M8_roadsAt : Cond.code M8_roadsAt.1 M8_roadsAt.2.1 M8_roadsAt.2.2.1 M8_roadsAt.2.2.2 ∈ z_T := (z_inT (List.mem_append_right _ (List.mem_of_getElem? (i := 716) (by decide +kernel))) rfl)
theorem wv_M8_roadsAt : Cond.instanceMethod M8_roadsAt.1 ∈ z_T := (z_inT (List.mem_append_right _ (List.mem_of_getElem? (i := 715) (by decide +kernel))) rfl)
theorem ws_M8_roadsAt : Cond.selects M8_roadsAt.1.cls M8_roadsAt.1 M8_roadsAt.1 ∈ z_T := z_inT (List.mem_append_left _ (List.mem_of_getElem? (i := 25) (by decide +kernel))) rfl
abbrev M8_sizeOf : z_M := (⟨"RoadCountsModel", "sizeOf", "(I)I"⟩, prog_10_method_7_code, 3, some FieldType.int)
theorem wc_M8_sizeOf : Cond.code M8_sizeOf.1 M8_sizeOf.2.1 M8_sizeOf.2.2.1 M8_sizeOf.2.2.2 ∈ z_T := (z_inT (List.mem_append_right _ (List.mem_of_getElem? (i := 719) (by decide +kernel))) rfl)
theorem wt_M8_sizeOf : Cond.static M8_sizeOf.1 ∈ z_T := (z_inT (List.mem_append_right _ (List.mem_of_getElem? (i := 718) (by decide +kernel))) rfl)
abbrev M8_excess : z_M := (⟨"RoadCountsModel", "excess", "(II)J"⟩, prog_10_method_29_code, 6, some FieldType.long)
theorem wc_M8_excess : Cond.code M8_excess.1 M8_excess.2.1 M8_excess.2.2.1 M8_excess.2.2.2 ∈ z_T := (z_inT (List.mem_append_right _ (List.mem_of_getElem? (i := 723) (by decide +kernel))) rfl)
theorem wv_M8_excess : Cond.instanceMethod M8_excess.1 ∈ z_T := (z_inT (List.mem_append_right _ (List.mem_of_getElem? (i := 722) (by decide +kernel))) rfl)
theorem ws_M8_excess : Cond.selects M8_excess.1.cls M8_excess.1 M8_excess.1 ∈ z_T := z_inT (List.mem_append_left _ (List.mem_of_getElem? (i := 26) (by decide +kernel))) rfl
abbrev M8_load : z_M := (⟨"RoadCountsModel", "load", "(I)J"⟩, prog_10_method_33_code, 2, some FieldType.long)
theorem wc_M8_load : Cond.code M8_load.1 M8_load.2.1 M8_load.2.2.1 M8_load.2.2.2 ∈ z_T := (z_inT (List.mem_append_right _ (List.mem_of_getElem? (i := 727) (by decide +kernel))) rfl)
theorem wv_M8_load : Cond.instanceMethod M8_load.1 ∈ z_T := (z_inT (List.mem_append_right _ (List.mem_of_getElem? (i := 725) (by decide +kernel))) rfl)
theorem ws_M8_load : Cond.selects M8_load.1.cls M8_load.1 M8_load.1 ∈ z_T := (z_inT (List.mem_append_right _ (List.mem_of_getElem? (i := 726) (by decide +kernel))) rfl)
abbrev M8_balances : z_M := (⟨"RoadCountsModel", "balances", "(I)I"⟩, prog_10_method_35_code, 2, some FieldType.int)
theorem wc_M8_balances : Cond.code M8_balances.1 M8_balances.2.1 M8_balances.2.2.1 M8_balances.2.2.2 ∈ z_T := (z_inT (List.mem_append_right _ (List.mem_of_getElem? (i := 731) (by decide +kernel))) rfl)
theorem wv_M8_balances : Cond.instanceMethod M8_balances.1 ∈ z_T := (z_inT (List.mem_append_right _ (List.mem_of_getElem? (i := 729) (by decide +kernel))) rfl)
theorem ws_M8_balances : Cond.selects M8_balances.1.cls M8_balances.1 M8_balances.1 ∈ z_T := (z_inT (List.mem_append_right _ (List.mem_of_getElem? (i := 730) (by decide +kernel))) rfl)
abbrev M8_isBalanced : z_M := (⟨"RoadCountsModel", "isBalanced", "(II)Z"⟩, prog_10_method_34_code, 3, some FieldType.boolean)
theorem wc_M8_isBalanced : Cond.code M8_isBalanced.1 M8_isBalanced.2.1 M8_isBalanced.2.2.1 M8_isBalanced.2.2.2 ∈ z_T := (z_inT (List.mem_append_right _ (List.mem_of_getElem? (i := 735) (by decide +kernel))) rfl)
theorem wv_M8_isBalanced : Cond.instanceMethod M8_isBalanced.1 ∈ z_T := (z_inT (List.mem_append_right _ (List.mem_of_getElem? (i := 734) (by decide +kernel))) rfl)
theorem ws_M8_isBalanced : Cond.selects M8_isBalanced.1.cls M8_isBalanced.1 M8_isBalanced.1 ∈ z_T := z_inT (List.mem_append_left _ (List.mem_of_getElem? (i := 27) (by decide +kernel))) rfl
abbrev M8_balance : z_M := (⟨"RoadCountsModel", "balance", "(I)J"⟩, prog_10_method_36_code, 3, some FieldType.long)
theorem wc_M8_balance : Cond.code M8_balance.1 M8_balance.2.1 M8_balance.2.2.1 M8_balance.2.2.2 ∈ z_T := (z_inT (List.mem_append_right _ (List.mem_of_getElem? (i := 739) (by decide +kernel))) rfl)
theorem wv_M8_balance : Cond.instanceMethod M8_balance.1 ∈ z_T := (z_inT (List.mem_append_right _ (List.mem_of_getElem? (i := 737) (by decide +kernel))) rfl)
theorem ws_M8_balance : Cond.selects M8_balance.1.cls M8_balance.1 M8_balance.1 ∈ z_T := (z_inT (List.mem_append_right _ (List.mem_of_getElem? (i := 738) (by decide +kernel))) rfl)
abbrev M8_does : z_M := (⟨"RoadCountsModel", "does", "(I)I"⟩, prog_10_method_39_code, 2, some FieldType.int)
theorem wc_M8_does : Cond.code M8_does.1 M8_does.2.1 M8_does.2.2.1 M8_does.2.2.2 ∈ z_T := (z_inT (List.mem_append_right _ (List.mem_of_getElem? (i := 743) (by decide +kernel))) rfl)
theorem wv_M8_does : Cond.instanceMethod M8_does.1 ∈ z_T := (z_inT (List.mem_append_right _ (List.mem_of_getElem? (i := 741) (by decide +kernel))) rfl)
theorem ws_M8_does : Cond.selects M8_does.1.cls M8_does.1 M8_does.1 ∈ z_T := (z_inT (List.mem_append_right _ (List.mem_of_getElem? (i := 742) (by decide +kernel))) rfl)
abbrev M8_lists : z_M := (⟨"RoadCountsModel", "lists", "()V"⟩, prog_10_method_38_code, 2, none)
theorem wc_M8_lists : Cond.code M8_lists.1 M8_lists.2.1 M8_lists.2.2.1 M8_lists.2.2.2 ∈ z_T := (z_inT (List.mem_append_right _ (List.mem_of_getElem? (i := 747) (by decide +kernel))) rfl)
theorem wv_M8_lists : Cond.instanceMethod M8_lists.1 ∈ z_T := (z_inT (List.mem_append_right _ (List.mem_of_getElem? (i := 746) (by decide +kernel))) rfl)
theorem ws_M8_lists : Cond.selects M8_lists.1.cls M8_lists.1 M8_lists.1 ∈ z_T := z_inT (List.mem_append_left _ (List.mem_of_getElem? (i := 28) (by decide +kernel))) rfl
abbrev M8_doAll : z_M := (⟨"RoadCountsModel", "doAll", "(I)Z"⟩, prog_10_method_37_code, 6, some FieldType.boolean)
theorem wc_M8_doAll : Cond.code M8_doAll.1 M8_doAll.2.1 M8_doAll.2.2.1 M8_doAll.2.2.2 ∈ z_T := (z_inT (List.mem_append_right _ (List.mem_of_getElem? (i := 751) (by decide +kernel))) rfl)
theorem wv_M8_doAll : Cond.instanceMethod M8_doAll.1 ∈ z_T := (z_inT (List.mem_append_right _ (List.mem_of_getElem? (i := 750) (by decide +kernel))) rfl)
theorem ws_M8_doAll : Cond.selects M8_doAll.1.cls M8_doAll.1 M8_doAll.1 ∈ z_T := z_inT (List.mem_append_left _ (List.mem_of_getElem? (i := 29) (by decide +kernel))) rfl
abbrev M8_plan : z_M := (⟨"RoadCountsModel", "plan", "()I"⟩, prog_10_method_40_code, 6, some FieldType.int)
theorem wc_M8_plan : Cond.code M8_plan.1 M8_plan.2.1 M8_plan.2.2.1 M8_plan.2.2.2 ∈ z_T := (z_inT (List.mem_append_right _ (List.mem_of_getElem? (i := 755) (by decide +kernel))) rfl)
theorem wv_M8_plan : Cond.instanceMethod M8_plan.1 ∈ z_T := (z_inT (List.mem_append_right _ (List.mem_of_getElem? (i := 753) (by decide +kernel))) rfl)
theorem ws_M8_plan : Cond.selects M8_plan.1.cls M8_plan.1 M8_plan.1 ∈ z_T := (z_inT (List.mem_append_right _ (List.mem_of_getElem? (i := 754) (by decide +kernel))) rfl)
abbrev M8_feed : z_M := (⟨"RoadCountsModel", "feed", "(IIIII)I"⟩, prog_10_method_42_code, 6, some FieldType.int)
theorem wc_M8_feed : Cond.code M8_feed.1 M8_feed.2.1 M8_feed.2.2.1 M8_feed.2.2.2 ∈ z_T := (z_inT (List.mem_append_right _ (List.mem_of_getElem? (i := 759) (by decide +kernel))) rfl)
theorem wv_M8_feed : Cond.instanceMethod M8_feed.1 ∈ z_T := (z_inT (List.mem_append_right _ (List.mem_of_getElem? (i := 757) (by decide +kernel))) rfl)
theorem ws_M8_feed : Cond.selects M8_feed.1.cls M8_feed.1 M8_feed.1 ∈ z_T := (z_inT (List.mem_append_right _ (List.mem_of_getElem? (i := 758) (by decide +kernel))) rfl)
abbrev M8_push : z_M := (⟨"RoadCountsModel", "push", "(I)V"⟩, prog_10_method_41_code, 3, none)
theorem wc_M8_push : Cond.code M8_push.1 M8_push.2.1 M8_push.2.2.1 M8_push.2.2.2 ∈ z_T := (z_inT (List.mem_append_right _ (List.mem_of_getElem? (i := 763) (by decide +kernel))) rfl)
theorem wv_M8_push : Cond.instanceMethod M8_push.1 ∈ z_T := (z_inT (List.mem_append_right _ (List.mem_of_getElem? (i := 762) (by decide +kernel))) rfl)
theorem ws_M8_push : Cond.selects M8_push.1.cls M8_push.1 M8_push.1 ∈ z_T := z_inT (List.mem_append_left _ (List.mem_of_getElem? (i := 30) (by decide +kernel))) rfl
abbrev M8_rules : z_M := (⟨"RoadCountsModel", "rules", "(I)I"⟩, prog_10_method_49_code, 5, some FieldType.int)
theorem wc_M8_rules : Cond.code M8_rules.1 M8_rules.2.1 M8_rules.2.2.1 M8_rules.2.2.2 ∈ z_T := (z_inT (List.mem_append_right _ (List.mem_of_getElem? (i := 767) (by decide +kernel))) rfl)
theorem wv_M8_rules : Cond.instanceMethod M8_rules.1 ∈ z_T := (z_inT (List.mem_append_right _ (List.mem_of_getElem? (i := 765) (by decide +kernel))) rfl)
theorem ws_M8_rules : Cond.selects M8_rules.1.cls M8_rules.1 M8_rules.1 ∈ z_T := (z_inT (List.mem_append_right _ (List.mem_of_getElem? (i := 766) (by decide +kernel))) rfl)
abbrev M8_clause : z_M := (⟨"RoadCountsModel", "clause", "()V"⟩, prog_10_method_48_code, 5, none)
theorem wc_M8_clause : Cond.code M8_clause.1 M8_clause.2.1 M8_clause.2.2.1 M8_clause.2.2.2 ∈ z_T := (z_inT (List.mem_append_right _ (List.mem_of_getElem? (i := 771) (by decide +kernel))) rfl)
theorem wv_M8_clause : Cond.instanceMethod M8_clause.1 ∈ z_T := (z_inT (List.mem_append_right _ (List.mem_of_getElem? (i := 770) (by decide +kernel))) rfl)
theorem ws_M8_clause : Cond.selects M8_clause.1.cls M8_clause.1 M8_clause.1 ∈ z_T := z_inT (List.mem_append_left _ (List.mem_of_getElem? (i := 31) (by decide +kernel))) rfl
abbrev M8_seesDigit : z_M := (⟨"RoadCountsModel", "seesDigit", "()Z"⟩, prog_10_method_45_code, 1, some FieldType.boolean)
theorem wc_M8_seesDigit : Cond.code M8_seesDigit.1 M8_seesDigit.2.1 M8_seesDigit.2.2.1 M8_seesDigit.2.2.2 ∈ z_T := (z_inT (List.mem_append_right _ (List.mem_of_getElem? (i := 775) (by decide +kernel))) rfl)
theorem wv_M8_seesDigit : Cond.instanceMethod M8_seesDigit.1 ∈ z_T := (z_inT (List.mem_append_right _ (List.mem_of_getElem? (i := 774) (by decide +kernel))) rfl)
theorem ws_M8_seesDigit : Cond.selects M8_seesDigit.1.cls M8_seesDigit.1 M8_seesDigit.1 ∈ z_T := z_inT (List.mem_append_left _ (List.mem_of_getElem? (i := 32) (by decide +kernel))) rfl
abbrev M8_here : z_M := (⟨"RoadCountsModel", "here", "()I"⟩, prog_10_method_43_code, 1, some FieldType.int)
theorem wc_M8_here : Cond.code M8_here.1 M8_here.2.1 M8_here.2.2.1 M8_here.2.2.2 ∈ z_T := (z_inT (List.mem_append_right _ (List.mem_of_getElem? (i := 779) (by decide +kernel))) rfl)
theorem wv_M8_here : Cond.instanceMethod M8_here.1 ∈ z_T := (z_inT (List.mem_append_right _ (List.mem_of_getElem? (i := 778) (by decide +kernel))) rfl)
theorem ws_M8_here : Cond.selects M8_here.1.cls M8_here.1 M8_here.1 ∈ z_T := z_inT (List.mem_append_left _ (List.mem_of_getElem? (i := 33) (by decide +kernel))) rfl
abbrev M8_fails : z_M := (⟨"RoadCountsModel", "fails", "(II)V"⟩, prog_10_method_44_code, 3, none)
theorem wc_M8_fails : Cond.code M8_fails.1 M8_fails.2.1 M8_fails.2.2.1 M8_fails.2.2.2 ∈ z_T := (z_inT (List.mem_append_right _ (List.mem_of_getElem? (i := 785) (by decide +kernel))) rfl)
theorem wv_M8_fails : Cond.instanceMethod M8_fails.1 ∈ z_T := (z_inT (List.mem_append_right _ (List.mem_of_getElem? (i := 784) (by decide +kernel))) rfl)
theorem ws_M8_fails : Cond.selects M8_fails.1.cls M8_fails.1 M8_fails.1 ∈ z_T := z_inT (List.mem_append_left _ (List.mem_of_getElem? (i := 34) (by decide +kernel))) rfl
abbrev M8_must : z_M := (⟨"RoadCountsModel", "must", "(I)V"⟩, prog_10_method_47_code, 2, none)
theorem wc_M8_must : Cond.code M8_must.1 M8_must.2.1 M8_must.2.2.1 M8_must.2.2.2 ∈ z_T := (z_inT (List.mem_append_right _ (List.mem_of_getElem? (i := 789) (by decide +kernel))) rfl)
theorem wv_M8_must : Cond.instanceMethod M8_must.1 ∈ z_T := (z_inT (List.mem_append_right _ (List.mem_of_getElem? (i := 788) (by decide +kernel))) rfl)
theorem ws_M8_must : Cond.selects M8_must.1.cls M8_must.1 M8_must.1 ∈ z_T := z_inT (List.mem_append_left _ (List.mem_of_getElem? (i := 35) (by decide +kernel))) rfl
abbrev M8_number : z_M := (⟨"RoadCountsModel", "number", "(I)I"⟩, prog_10_method_46_code, 4, some FieldType.int)
theorem wc_M8_number : Cond.code M8_number.1 M8_number.2.1 M8_number.2.2.1 M8_number.2.2.2 ∈ z_T := (z_inT (List.mem_append_right _ (List.mem_of_getElem? (i := 793) (by decide +kernel))) rfl)
theorem wv_M8_number : Cond.instanceMethod M8_number.1 ∈ z_T := (z_inT (List.mem_append_right _ (List.mem_of_getElem? (i := 792) (by decide +kernel))) rfl)
theorem ws_M8_number : Cond.selects M8_number.1.cls M8_number.1 M8_number.1 ∈ z_T := z_inT (List.mem_append_left _ (List.mem_of_getElem? (i := 36) (by decide +kernel))) rfl
abbrev M8_pass : z_M := (⟨"RoadCountsModel", "pass", "(II)I"⟩, prog_10_method_51_code, 6, some FieldType.int)
theorem wc_M8_pass : Cond.code M8_pass.1 M8_pass.2.1 M8_pass.2.2.1 M8_pass.2.2.2 ∈ z_T := (z_inT (List.mem_append_right _ (List.mem_of_getElem? (i := 797) (by decide +kernel))) rfl)
theorem wv_M8_pass : Cond.instanceMethod M8_pass.1 ∈ z_T := (z_inT (List.mem_append_right _ (List.mem_of_getElem? (i := 795) (by decide +kernel))) rfl)
theorem ws_M8_pass : Cond.selects M8_pass.1.cls M8_pass.1 M8_pass.1 ∈ z_T := (z_inT (List.mem_append_right _ (List.mem_of_getElem? (i := 796) (by decide +kernel))) rfl)
abbrev M8_kindOf : z_M := (⟨"RoadCountsModel", "kindOf", "(II)I"⟩, prog_10_method_50_code, 6, some FieldType.int)
theorem wc_M8_kindOf : Cond.code M8_kindOf.1 M8_kindOf.2.1 M8_kindOf.2.2.1 M8_kindOf.2.2.2 ∈ z_T := (z_inT (List.mem_append_right _ (List.mem_of_getElem? (i := 801) (by decide +kernel))) rfl)
theorem wv_M8_kindOf : Cond.instanceMethod M8_kindOf.1 ∈ z_T := (z_inT (List.mem_append_right _ (List.mem_of_getElem? (i := 800) (by decide +kernel))) rfl)
theorem ws_M8_kindOf : Cond.selects M8_kindOf.1.cls M8_kindOf.1 M8_kindOf.1 ∈ z_T := z_inT (List.mem_append_left _ (List.mem_of_getElem? (i := 37) (by decide +kernel))) rfl
abbrev M8_kinds : z_M := (⟨"RoadCountsModel", "kinds", "(II)I"⟩, prog_10_method_52_code, 3, some FieldType.int)
theorem wc_M8_kinds : Cond.code M8_kinds.1 M8_kinds.2.1 M8_kinds.2.2.1 M8_kinds.2.2.2 ∈ z_T := (z_inT (List.mem_append_right _ (List.mem_of_getElem? (i := 805) (by decide +kernel))) rfl)
theorem wv_M8_kinds : Cond.instanceMethod M8_kinds.1 ∈ z_T := (z_inT (List.mem_append_right _ (List.mem_of_getElem? (i := 803) (by decide +kernel))) rfl)
theorem ws_M8_kinds : Cond.selects M8_kinds.1.cls M8_kinds.1 M8_kinds.1 ∈ z_T := (z_inT (List.mem_append_right _ (List.mem_of_getElem? (i := 804) (by decide +kernel))) rfl)
abbrev M8_look : z_M := (⟨"RoadCountsModel", "look", "(II)I"⟩, prog_10_method_53_code, 3, some FieldType.int)
theorem wc_M8_look : Cond.code M8_look.1 M8_look.2.1 M8_look.2.2.1 M8_look.2.2.2 ∈ z_T := (z_inT (List.mem_append_right _ (List.mem_of_getElem? (i := 810) (by decide +kernel))) rfl)
theorem wv_M8_look : Cond.instanceMethod M8_look.1 ∈ z_T := (z_inT (List.mem_append_right _ (List.mem_of_getElem? (i := 808) (by decide +kernel))) rfl)
theorem ws_M8_look : Cond.selects M8_look.1.cls M8_look.1 M8_look.1 ∈ z_T := (z_inT (List.mem_append_right _ (List.mem_of_getElem? (i := 809) (by decide +kernel))) rfl)
abbrev M8_tell : z_M := (⟨"RoadCountsModel", "tell", "(I)I"⟩, prog_10_method_54_code, 2, some FieldType.int)
theorem wc_M8_tell : Cond.code M8_tell.1 M8_tell.2.1 M8_tell.2.2.1 M8_tell.2.2.2 ∈ z_T := (z_inT (List.mem_append_right _ (List.mem_of_getElem? (i := 816) (by decide +kernel))) rfl)
theorem wv_M8_tell : Cond.instanceMethod M8_tell.1 ∈ z_T := (z_inT (List.mem_append_right _ (List.mem_of_getElem? (i := 814) (by decide +kernel))) rfl)
theorem ws_M8_tell : Cond.selects M8_tell.1.cls M8_tell.1 M8_tell.1 ∈ z_T := (z_inT (List.mem_append_right _ (List.mem_of_getElem? (i := 815) (by decide +kernel))) rfl)
theorem lc_L_7 : Cond.classLink "RoadCountsLaw" 7 "RoadCounts" ∈ z_T := (z_inT (List.mem_append_right _ (List.mem_of_getElem? (i := 12) (by decide +kernel))) rfl)
theorem wn_7 : Cond.instantiable "RoadCounts" 6 ∈ z_T := (z_inT (List.mem_append_right _ (List.mem_of_getElem? (i := 13) (by decide +kernel))) rfl)
theorem lm_L_9 : z_MI "RoadCountsLaw" 9 M7_init 0 := ⟨⟨wc_M7_init, wi_7, ⟨by decide +kernel, by decide +kernel⟩, by decide +kernel, Or.inl (z_inT (List.mem_append_right _ (List.mem_of_getElem? (i := 14) (by decide +kernel))) rfl)⟩, wv_M7_init, rfl, rfl⟩
theorem lo_7_1 : Cond.methodLink "RoadCounts" 1 objectInit ∈ z_T := (z_inT (List.mem_append_right _ (List.mem_of_getElem? (i := 17) (by decide +kernel))) rfl)
theorem wo_inst : Cond.instanceMethod objectInit ∈ z_T := (z_inT (List.mem_append_right _ (List.mem_of_getElem? (i := 18) (by decide +kernel))) rfl)
theorem wo_code : Cond.code objectInit ⟨#[0xb1]⟩ 1 none ∈ z_T := (z_inT (List.mem_append_right _ (List.mem_of_getElem? (i := 19) (by decide +kernel))) rfl)
theorem lc_7_7 : Cond.classLink "RoadCounts" 7 "RoadCounts$Almanac" ∈ z_T := (z_inT (List.mem_append_right _ (List.mem_of_getElem? (i := 20) (by decide +kernel))) rfl)
theorem wn_0 : Cond.instantiable "RoadCounts$Almanac" 5 ∈ z_T := (z_inT (List.mem_append_right _ (List.mem_of_getElem? (i := 21) (by decide +kernel))) rfl)
theorem lm_7_9 : z_MI "RoadCounts" 9 M0_init 0 := ⟨⟨wc_M0_init, wi_0, ⟨by decide +kernel, by decide +kernel⟩, by decide +kernel, Or.inl (z_inT (List.mem_append_right _ (List.mem_of_getElem? (i := 22) (by decide +kernel))) rfl)⟩, wv_M0_init, rfl, rfl⟩
theorem lo_0_3 : Cond.methodLink "RoadCounts$Almanac" 3 objectInit ∈ z_T := (z_inT (List.mem_append_right _ (List.mem_of_getElem? (i := 25) (by decide +kernel))) rfl)
theorem lc_0_9 : Cond.classLink "RoadCounts$Almanac" 9 "[[I" ∈ z_T := (z_inT (List.mem_append_right _ (List.mem_of_getElem? (i := 26) (by decide +kernel))) rfl)
theorem lf_0_11 : z_Fl "RoadCounts$Almanac" 11 0 0 := ⟨_, rfl, by decide, Or.inl (z_inT (List.mem_append_right _ (List.mem_of_getElem? (i := 28) (by decide +kernel))) rfl)⟩
theorem lf_0_16 : z_Fl "RoadCounts$Almanac" 16 0 1 := ⟨_, rfl, by decide, Or.inl (z_inT (List.mem_append_right _ (List.mem_of_getElem? (i := 29) (by decide +kernel))) rfl)⟩
theorem lf_0_19 : z_Fl "RoadCounts$Almanac" 19 0 2 := ⟨_, rfl, by decide, Or.inl (z_inT (List.mem_append_right _ (List.mem_of_getElem? (i := 30) (by decide +kernel))) rfl)⟩
theorem lf_1_64 : z_Fl "RoadCounts$Counts" 64 0 2 := ⟨_, rfl, by decide, Or.inr ⟨"RoadCounts", List.mem_filter.mpr ⟨(List.mem_append_right _ (List.mem_of_getElem? (i := 31) (by decide +kernel))), rfl⟩⟩⟩
theorem lf_0_23 : z_Fl "RoadCounts$Almanac" 23 0 3 := ⟨_, rfl, by decide, Or.inl (z_inT (List.mem_append_right _ (List.mem_of_getElem? (i := 32) (by decide +kernel))) rfl)⟩
theorem lf_0_27 : z_Fl "RoadCounts$Almanac" 27 0 4 := ⟨_, rfl, by decide, Or.inl (z_inT (List.mem_append_right _ (List.mem_of_getElem? (i := 33) (by decide +kernel))) rfl)⟩
theorem lf_7_182 : z_Fl "RoadCounts" 182 0 4 := ⟨_, rfl, by decide, Or.inr ⟨"RoadCounts", List.mem_filter.mpr ⟨(List.mem_append_right _ (List.mem_of_getElem? (i := 34) (by decide +kernel))), rfl⟩⟩⟩
theorem wa_int : Cond.arrayClass .int ∈ z_T := (z_inT (List.mem_append_right _ (List.mem_of_getElem? (i := 46) (by decide +kernel))) rfl)
theorem wa_boolean : Cond.arrayClass .boolean ∈ z_T := (z_inT (List.mem_append_right _ (List.mem_of_getElem? (i := 47) (by decide +kernel))) rfl)
theorem lc_7_16 : Cond.classLink "RoadCounts" 16 "RoadCounts$Network" ∈ z_T := (z_inT (List.mem_append_right _ (List.mem_of_getElem? (i := 48) (by decide +kernel))) rfl)
theorem wn_2 : Cond.instantiable "RoadCounts$Network" 9 ∈ z_T := (z_inT (List.mem_append_right _ (List.mem_of_getElem? (i := 49) (by decide +kernel))) rfl)
theorem lm_7_18 : z_MI "RoadCounts" 18 M2_init 0 := ⟨⟨wc_M2_init, wi_2, ⟨by decide +kernel, by decide +kernel⟩, by decide +kernel, Or.inr ⟨"RoadCounts", List.mem_filter.mpr ⟨(List.mem_append_right _ (List.mem_of_getElem? (i := 50) (by decide +kernel))), rfl⟩⟩⟩, wv_M2_init, rfl, rfl⟩
theorem lo_2_3 : Cond.methodLink "RoadCounts$Network" 3 objectInit ∈ z_T := (z_inT (List.mem_append_right _ (List.mem_of_getElem? (i := 53) (by decide +kernel))) rfl)
theorem lc_2_9 : Cond.classLink "RoadCounts$Network" 9 "RoadCounts$Road" ∈ z_T := (z_inT (List.mem_append_right _ (List.mem_of_getElem? (i := 54) (by decide +kernel))) rfl)
theorem lf_2_11 : z_Fl "RoadCounts$Network" 11 2 0 := ⟨_, rfl, by decide, Or.inl (z_inT (List.mem_append_right _ (List.mem_of_getElem? (i := 56) (by decide +kernel))) rfl)⟩
theorem lf_2_17 : z_Fl "RoadCounts$Network" 17 2 1 := ⟨_, rfl, by decide, Or.inl (z_inT (List.mem_append_right _ (List.mem_of_getElem? (i := 57) (by decide +kernel))) rfl)⟩
theorem lf_2_21 : z_Fl "RoadCounts$Network" 21 2 2 := ⟨_, rfl, by decide, Or.inl (z_inT (List.mem_append_right _ (List.mem_of_getElem? (i := 58) (by decide +kernel))) rfl)⟩
theorem lf_2_25 : z_Fl "RoadCounts$Network" 25 2 3 := ⟨_, rfl, by decide, Or.inl (z_inT (List.mem_append_right _ (List.mem_of_getElem? (i := 59) (by decide +kernel))) rfl)⟩
theorem lf_2_28 : z_Fl "RoadCounts$Network" 28 2 4 := ⟨_, rfl, by decide, Or.inl (z_inT (List.mem_append_right _ (List.mem_of_getElem? (i := 60) (by decide +kernel))) rfl)⟩
theorem lf_2_74 : z_Fl "RoadCounts$Network" 74 2 5 := ⟨_, rfl, by decide, Or.inl (z_inT (List.mem_append_right _ (List.mem_of_getElem? (i := 61) (by decide +kernel))) rfl)⟩
theorem lf_2_31 : z_Fl "RoadCounts$Network" 31 2 6 := ⟨_, rfl, by decide, Or.inl (z_inT (List.mem_append_right _ (List.mem_of_getElem? (i := 62) (by decide +kernel))) rfl)⟩
theorem lf_7_181 : z_Fl "RoadCounts" 181 2 6 := ⟨_, rfl, by decide, Or.inr ⟨"RoadCounts", List.mem_filter.mpr ⟨(List.mem_append_right _ (List.mem_of_getElem? (i := 63) (by decide +kernel))), rfl⟩⟩⟩
theorem lf_2_42 : z_Fl "RoadCounts$Network" 42 2 7 := ⟨_, rfl, by decide, Or.inl (z_inT (List.mem_append_right _ (List.mem_of_getElem? (i := 64) (by decide +kernel))) rfl)⟩
theorem lf_7_186 : z_Fl "RoadCounts" 186 2 7 := ⟨_, rfl, by decide, Or.inr ⟨"RoadCounts", List.mem_filter.mpr ⟨(List.mem_append_right _ (List.mem_of_getElem? (i := 65) (by decide +kernel))), rfl⟩⟩⟩
theorem lf_2_45 : z_Fl "RoadCounts$Network" 45 2 8 := ⟨_, rfl, by decide, Or.inl (z_inT (List.mem_append_right _ (List.mem_of_getElem? (i := 66) (by decide +kernel))) rfl)⟩
theorem lf_7_194 : z_Fl "RoadCounts" 194 2 8 := ⟨_, rfl, by decide, Or.inr ⟨"RoadCounts", List.mem_filter.mpr ⟨(List.mem_append_right _ (List.mem_of_getElem? (i := 67) (by decide +kernel))), rfl⟩⟩⟩
theorem wa_long : Cond.arrayClass .long ∈ z_T := (z_inT (List.mem_append_right _ (List.mem_of_getElem? (i := 87) (by decide +kernel))) rfl)
theorem lc_7_23 : Cond.classLink "RoadCounts" 23 "RoadCounts$Tape" ∈ z_T := (z_inT (List.mem_append_right _ (List.mem_of_getElem? (i := 88) (by decide +kernel))) rfl)
theorem wn_6 : Cond.instantiable "RoadCounts$Tape" 2 ∈ z_T := (z_inT (List.mem_append_right _ (List.mem_of_getElem? (i := 89) (by decide +kernel))) rfl)
theorem lm_7_25 : z_MI "RoadCounts" 25 M6_init 0 := ⟨⟨wc_M6_init, wi_6, ⟨by decide +kernel, by decide +kernel⟩, by decide +kernel, Or.inr ⟨"RoadCounts", List.mem_filter.mpr ⟨(List.mem_append_right _ (List.mem_of_getElem? (i := 90) (by decide +kernel))), rfl⟩⟩⟩, wv_M6_init, rfl, rfl⟩
theorem lo_6_3 : Cond.methodLink "RoadCounts$Tape" 3 objectInit ∈ z_T := (z_inT (List.mem_append_right _ (List.mem_of_getElem? (i := 93) (by decide +kernel))) rfl)
theorem lf_6_9 : z_Fl "RoadCounts$Tape" 9 6 0 := ⟨_, rfl, by decide, Or.inl (z_inT (List.mem_append_right _ (List.mem_of_getElem? (i := 94) (by decide +kernel))) rfl)⟩
theorem lf_6_15 : z_Fl "RoadCounts$Tape" 15 6 1 := ⟨_, rfl, by decide, Or.inl (z_inT (List.mem_append_right _ (List.mem_of_getElem? (i := 95) (by decide +kernel))) rfl)⟩
theorem lf_7_138 : z_Fl "RoadCounts" 138 6 1 := ⟨_, rfl, by decide, Or.inr ⟨"RoadCounts", List.mem_filter.mpr ⟨(List.mem_append_right _ (List.mem_of_getElem? (i := 96) (by decide +kernel))), rfl⟩⟩⟩
theorem lc_7_30 : Cond.classLink "RoadCounts" 30 "RoadCounts$RulesReader" ∈ z_T := (z_inT (List.mem_append_right _ (List.mem_of_getElem? (i := 102) (by decide +kernel))) rfl)
theorem wn_5 : Cond.instantiable "RoadCounts$RulesReader" 4 ∈ z_T := (z_inT (List.mem_append_right _ (List.mem_of_getElem? (i := 103) (by decide +kernel))) rfl)
theorem lm_7_32 : z_MI "RoadCounts" 32 M5_init 1 := ⟨⟨wc_M5_init, wi_5, ⟨by decide +kernel, by decide +kernel⟩, by decide +kernel, Or.inl (z_inT (List.mem_append_right _ (List.mem_of_getElem? (i := 104) (by decide +kernel))) rfl)⟩, wv_M5_init, rfl, rfl⟩
theorem lo_5_3 : Cond.methodLink "RoadCounts$RulesReader" 3 objectInit ∈ z_T := (z_inT (List.mem_append_right _ (List.mem_of_getElem? (i := 107) (by decide +kernel))) rfl)
theorem lf_5_9 : z_Fl "RoadCounts$RulesReader" 9 5 0 := ⟨_, rfl, by decide, Or.inl (z_inT (List.mem_append_right _ (List.mem_of_getElem? (i := 108) (by decide +kernel))) rfl)⟩
theorem lf_5_15 : z_Fl "RoadCounts$RulesReader" 15 5 1 := ⟨_, rfl, by decide, Or.inl (z_inT (List.mem_append_right _ (List.mem_of_getElem? (i := 109) (by decide +kernel))) rfl)⟩
theorem lf_5_19 : z_Fl "RoadCounts$RulesReader" 19 5 2 := ⟨_, rfl, by decide, Or.inl (z_inT (List.mem_append_right _ (List.mem_of_getElem? (i := 110) (by decide +kernel))) rfl)⟩
theorem lf_5_53 : z_Fl "RoadCounts$RulesReader" 53 5 3 := ⟨_, rfl, by decide, Or.inl (z_inT (List.mem_append_right _ (List.mem_of_getElem? (i := 111) (by decide +kernel))) rfl)⟩
theorem lc_7_39 : Cond.classLink "RoadCounts" 39 "RoadCounts$Rules" ∈ z_T := (z_inT (List.mem_append_right _ (List.mem_of_getElem? (i := 121) (by decide +kernel))) rfl)
theorem wn_4 : Cond.instantiable "RoadCounts$Rules" 5 ∈ z_T := (z_inT (List.mem_append_right _ (List.mem_of_getElem? (i := 122) (by decide +kernel))) rfl)
theorem lm_7_41 : z_MI "RoadCounts" 41 M4_init 0 := ⟨⟨wc_M4_init, wi_4, ⟨by decide +kernel, by decide +kernel⟩, by decide +kernel, Or.inr ⟨"RoadCounts", List.mem_filter.mpr ⟨(List.mem_append_right _ (List.mem_of_getElem? (i := 123) (by decide +kernel))), rfl⟩⟩⟩, wv_M4_init, rfl, rfl⟩
theorem lo_4_3 : Cond.methodLink "RoadCounts$Rules" 3 objectInit ∈ z_T := (z_inT (List.mem_append_right _ (List.mem_of_getElem? (i := 126) (by decide +kernel))) rfl)
theorem lc_4_18 : Cond.classLink "RoadCounts$Rules" 18 "[[I" ∈ z_T := (z_inT (List.mem_append_right _ (List.mem_of_getElem? (i := 127) (by decide +kernel))) rfl)
theorem lf_4_9 : z_Fl "RoadCounts$Rules" 9 4 0 := ⟨_, rfl, by decide, Or.inl (z_inT (List.mem_append_right _ (List.mem_of_getElem? (i := 128) (by decide +kernel))) rfl)⟩
theorem lf_4_15 : z_Fl "RoadCounts$Rules" 15 4 1 := ⟨_, rfl, by decide, Or.inl (z_inT (List.mem_append_right _ (List.mem_of_getElem? (i := 129) (by decide +kernel))) rfl)⟩
theorem lf_4_20 : z_Fl "RoadCounts$Rules" 20 4 2 := ⟨_, rfl, by decide, Or.inl (z_inT (List.mem_append_right _ (List.mem_of_getElem? (i := 130) (by decide +kernel))) rfl)⟩
theorem lf_4_23 : z_Fl "RoadCounts$Rules" 23 4 3 := ⟨_, rfl, by decide, Or.inl (z_inT (List.mem_append_right _ (List.mem_of_getElem? (i := 131) (by decide +kernel))) rfl)⟩
theorem lf_4_26 : z_Fl "RoadCounts$Rules" 26 4 4 := ⟨_, rfl, by decide, Or.inl (z_inT (List.mem_append_right _ (List.mem_of_getElem? (i := 132) (by decide +kernel))) rfl)⟩
theorem lf_5_22 : z_Fl "RoadCounts$RulesReader" 22 4 4 := ⟨_, rfl, by decide, Or.inr ⟨"RoadCounts", List.mem_filter.mpr ⟨(List.mem_append_right _ (List.mem_of_getElem? (i := 133) (by decide +kernel))), rfl⟩⟩⟩
theorem lf_7_185 : z_Fl "RoadCounts" 185 4 4 := ⟨_, rfl, by decide, Or.inr ⟨"RoadCounts", List.mem_filter.mpr ⟨(List.mem_append_right _ (List.mem_of_getElem? (i := 134) (by decide +kernel))), rfl⟩⟩⟩
theorem lf_7_10 : z_Fl "RoadCounts" 10 7 0 := ⟨_, rfl, by decide, Or.inl (z_inT (List.mem_append_right _ (List.mem_of_getElem? (i := 146) (by decide +kernel))) rfl)⟩
theorem lf_7_19 : z_Fl "RoadCounts" 19 7 1 := ⟨_, rfl, by decide, Or.inl (z_inT (List.mem_append_right _ (List.mem_of_getElem? (i := 147) (by decide +kernel))) rfl)⟩
theorem lf_7_26 : z_Fl "RoadCounts" 26 7 2 := ⟨_, rfl, by decide, Or.inl (z_inT (List.mem_append_right _ (List.mem_of_getElem? (i := 148) (by decide +kernel))) rfl)⟩
theorem lf_7_35 : z_Fl "RoadCounts" 35 7 3 := ⟨_, rfl, by decide, Or.inl (z_inT (List.mem_append_right _ (List.mem_of_getElem? (i := 149) (by decide +kernel))) rfl)⟩
theorem lf_7_42 : z_Fl "RoadCounts" 42 7 4 := ⟨_, rfl, by decide, Or.inl (z_inT (List.mem_append_right _ (List.mem_of_getElem? (i := 150) (by decide +kernel))) rfl)⟩
theorem lf_7_46 : z_Fl "RoadCounts" 46 7 5 := ⟨_, rfl, by decide, Or.inl (z_inT (List.mem_append_right _ (List.mem_of_getElem? (i := 151) (by decide +kernel))) rfl)⟩
theorem lm_L_13 : z_MV "RoadCountsLaw" 13 M7_weekday 3 7 := ⟨⟨wc_M7_weekday, wi_7, ⟨by decide +kernel, by decide +kernel⟩, by decide +kernel, Or.inl (z_inT (List.mem_append_right _ (List.mem_of_getElem? (i := 165) (by decide +kernel))) rfl)⟩, wv_M7_weekday, ws_M7_weekday, _, rfl, rfl⟩
theorem lm_7_49 : z_MS "RoadCounts" 49 M7_isBelow 2 := ⟨⟨wc_M7_isBelow, wi_7, ⟨by decide +kernel, by decide +kernel⟩, by decide +kernel, Or.inl (z_inT (List.mem_append_right _ (List.mem_of_getElem? (i := 169) (by decide +kernel))) rfl)⟩, wt_M7_isBelow⟩
theorem lm_7_53 : z_MS "RoadCounts" 53 M7_isWeight 1 := ⟨⟨wc_M7_isWeight, wi_7, ⟨by decide +kernel, by decide +kernel⟩, by decide +kernel, Or.inl (z_inT (List.mem_append_right _ (List.mem_of_getElem? (i := 172) (by decide +kernel))) rfl)⟩, wt_M7_isWeight⟩
theorem lm_7_57 : z_MV "RoadCounts" 57 M0_weighWeekday 3 0 := ⟨⟨wc_M0_weighWeekday, wi_0, ⟨by decide +kernel, by decide +kernel⟩, by decide +kernel, Or.inl (z_inT (List.mem_append_right _ (List.mem_of_getElem? (i := 175) (by decide +kernel))) rfl)⟩, wv_M0_weighWeekday, ws_M0_weighWeekday, _, rfl, rfl⟩
theorem lm_L_18 : z_MV "RoadCountsLaw" 18 M7_month 3 7 := ⟨⟨wc_M7_month, wi_7, ⟨by decide +kernel, by decide +kernel⟩, by decide +kernel, Or.inl (z_inT (List.mem_append_right _ (List.mem_of_getElem? (i := 179) (by decide +kernel))) rfl)⟩, wv_M7_month, ws_M7_month, _, rfl, rfl⟩
theorem lm_7_61 : z_MV "RoadCounts" 61 M0_weighMonth 3 0 := ⟨⟨wc_M0_weighMonth, wi_0, ⟨by decide +kernel, by decide +kernel⟩, by decide +kernel, Or.inl (z_inT (List.mem_append_right _ (List.mem_of_getElem? (i := 183) (by decide +kernel))) rfl)⟩, wv_M0_weighMonth, ws_M0_weighMonth, _, rfl, rfl⟩
theorem lm_L_22 : z_MV "RoadCountsLaw" 22 M7_holiday 1 7 := ⟨⟨wc_M7_holiday, wi_7, ⟨by decide +kernel, by decide +kernel⟩, by decide +kernel, Or.inl (z_inT (List.mem_append_right _ (List.mem_of_getElem? (i := 187) (by decide +kernel))) rfl)⟩, wv_M7_holiday, ws_M7_holiday, _, rfl, rfl⟩
theorem lm_7_64 : z_MV "RoadCounts" 64 M0_addHoliday 1 0 := ⟨⟨wc_M0_addHoliday, wi_0, ⟨by decide +kernel, by decide +kernel⟩, by decide +kernel, Or.inl (z_inT (List.mem_append_right _ (List.mem_of_getElem? (i := 191) (by decide +kernel))) rfl)⟩, wv_M0_addHoliday, ws_M0_addHoliday, _, rfl, rfl⟩
theorem lm_L_27 : z_MV "RoadCountsLaw" 27 M7_road 3 7 := ⟨⟨wc_M7_road, wi_7, ⟨by decide +kernel, by decide +kernel⟩, by decide +kernel, Or.inl (z_inT (List.mem_append_right _ (List.mem_of_getElem? (i := 195) (by decide +kernel))) rfl)⟩, wv_M7_road, ws_M7_road, _, rfl, rfl⟩
theorem lm_7_67 : z_MS "RoadCounts" 67 M7_isEnd 1 := ⟨⟨wc_M7_isEnd, wi_7, ⟨by decide +kernel, by decide +kernel⟩, by decide +kernel, Or.inl (z_inT (List.mem_append_right _ (List.mem_of_getElem? (i := 199) (by decide +kernel))) rfl)⟩, wt_M7_isEnd⟩
theorem lm_7_70 : z_MV "RoadCounts" 70 M2_add 3 2 := ⟨⟨wc_M2_add, wi_2, ⟨by decide +kernel, by decide +kernel⟩, by decide +kernel, Or.inl (z_inT (List.mem_append_right _ (List.mem_of_getElem? (i := 202) (by decide +kernel))) rfl)⟩, wv_M2_add, ws_M2_add, _, rfl, rfl⟩
theorem wn_3 : Cond.instantiable "RoadCounts$Road" 6 ∈ z_T := (z_inT (List.mem_append_right _ (List.mem_of_getElem? (i := 206) (by decide +kernel))) rfl)
theorem lm_2_35 : z_MI "RoadCounts$Network" 35 M3_init 3 := ⟨⟨wc_M3_init, wi_3, ⟨by decide +kernel, by decide +kernel⟩, by decide +kernel, Or.inl (z_inT (List.mem_append_right _ (List.mem_of_getElem? (i := 207) (by decide +kernel))) rfl)⟩, wv_M3_init, rfl, rfl⟩
theorem lo_3_3 : Cond.methodLink "RoadCounts$Road" 3 objectInit ∈ z_T := (z_inT (List.mem_append_right _ (List.mem_of_getElem? (i := 210) (by decide +kernel))) rfl)
theorem lc_3_9 : Cond.classLink "RoadCounts$Road" 9 "RoadCounts$Counts" ∈ z_T := (z_inT (List.mem_append_right _ (List.mem_of_getElem? (i := 211) (by decide +kernel))) rfl)
theorem wn_1 : Cond.instantiable "RoadCounts$Counts" 3 ∈ z_T := (z_inT (List.mem_append_right _ (List.mem_of_getElem? (i := 212) (by decide +kernel))) rfl)
theorem lm_3_11 : z_MI "RoadCounts$Road" 11 M1_init 0 := ⟨⟨wc_M1_init, wi_1, ⟨by decide +kernel, by decide +kernel⟩, by decide +kernel, Or.inr ⟨"RoadCounts", List.mem_filter.mpr ⟨(List.mem_append_right _ (List.mem_of_getElem? (i := 213) (by decide +kernel))), rfl⟩⟩⟩, wv_M1_init, rfl, rfl⟩
theorem lo_1_3 : Cond.methodLink "RoadCounts$Counts" 3 objectInit ∈ z_T := (z_inT (List.mem_append_right _ (List.mem_of_getElem? (i := 216) (by decide +kernel))) rfl)
theorem lf_1_9 : z_Fl "RoadCounts$Counts" 9 1 0 := ⟨_, rfl, by decide, Or.inl (z_inT (List.mem_append_right _ (List.mem_of_getElem? (i := 217) (by decide +kernel))) rfl)⟩
theorem lf_1_15 : z_Fl "RoadCounts$Counts" 15 1 1 := ⟨_, rfl, by decide, Or.inl (z_inT (List.mem_append_right _ (List.mem_of_getElem? (i := 218) (by decide +kernel))) rfl)⟩
theorem lf_1_22 : z_Fl "RoadCounts$Counts" 22 1 2 := ⟨_, rfl, by decide, Or.inl (z_inT (List.mem_append_right _ (List.mem_of_getElem? (i := 219) (by decide +kernel))) rfl)⟩
theorem lf_7_172 : z_Fl "RoadCounts" 172 1 2 := ⟨_, rfl, by decide, Or.inr ⟨"RoadCounts", List.mem_filter.mpr ⟨(List.mem_append_right _ (List.mem_of_getElem? (i := 220) (by decide +kernel))), rfl⟩⟩⟩
theorem lf_3_22 : z_Fl "RoadCounts$Road" 22 3 0 := ⟨_, rfl, by decide, Or.inl (z_inT (List.mem_append_right _ (List.mem_of_getElem? (i := 228) (by decide +kernel))) rfl)⟩
theorem lf_7_163 : z_Fl "RoadCounts" 163 3 0 := ⟨_, rfl, by decide, Or.inr ⟨"RoadCounts", List.mem_filter.mpr ⟨(List.mem_append_right _ (List.mem_of_getElem? (i := 229) (by decide +kernel))), rfl⟩⟩⟩
theorem lf_3_26 : z_Fl "RoadCounts$Road" 26 3 1 := ⟨_, rfl, by decide, Or.inl (z_inT (List.mem_append_right _ (List.mem_of_getElem? (i := 230) (by decide +kernel))) rfl)⟩
theorem lf_2_52 : z_Fl "RoadCounts$Network" 52 3 1 := ⟨_, rfl, by decide, Or.inr ⟨"RoadCounts", List.mem_filter.mpr ⟨(List.mem_append_right _ (List.mem_of_getElem? (i := 231) (by decide +kernel))), rfl⟩⟩⟩
theorem lf_7_166 : z_Fl "RoadCounts" 166 3 1 := ⟨_, rfl, by decide, Or.inr ⟨"RoadCounts", List.mem_filter.mpr ⟨(List.mem_append_right _ (List.mem_of_getElem? (i := 232) (by decide +kernel))), rfl⟩⟩⟩
theorem lf_3_29 : z_Fl "RoadCounts$Road" 29 3 2 := ⟨_, rfl, by decide, Or.inl (z_inT (List.mem_append_right _ (List.mem_of_getElem? (i := 233) (by decide +kernel))) rfl)⟩
theorem lf_2_87 : z_Fl "RoadCounts$Network" 87 3 2 := ⟨_, rfl, by decide, Or.inr ⟨"RoadCounts", List.mem_filter.mpr ⟨(List.mem_append_right _ (List.mem_of_getElem? (i := 234) (by decide +kernel))), rfl⟩⟩⟩
theorem lf_7_169 : z_Fl "RoadCounts" 169 3 2 := ⟨_, rfl, by decide, Or.inr ⟨"RoadCounts", List.mem_filter.mpr ⟨(List.mem_append_right _ (List.mem_of_getElem? (i := 235) (by decide +kernel))), rfl⟩⟩⟩
theorem lf_3_12 : z_Fl "RoadCounts$Road" 12 3 3 := ⟨_, rfl, by decide, Or.inl (z_inT (List.mem_append_right _ (List.mem_of_getElem? (i := 236) (by decide +kernel))) rfl)⟩
theorem lf_7_85 : z_Fl "RoadCounts" 85 3 3 := ⟨_, rfl, by decide, Or.inr ⟨"RoadCounts", List.mem_filter.mpr ⟨(List.mem_append_right _ (List.mem_of_getElem? (i := 237) (by decide +kernel))), rfl⟩⟩⟩
theorem lf_2_55 : z_Fl "RoadCounts$Network" 55 3 3 := ⟨_, rfl, by decide, Or.inr ⟨"RoadCounts", List.mem_filter.mpr ⟨(List.mem_append_right _ (List.mem_of_getElem? (i := 238) (by decide +kernel))), rfl⟩⟩⟩
theorem lf_3_18 : z_Fl "RoadCounts$Road" 18 3 4 := ⟨_, rfl, by decide, Or.inl (z_inT (List.mem_append_right _ (List.mem_of_getElem? (i := 239) (by decide +kernel))) rfl)⟩
theorem lf_7_152 : z_Fl "RoadCounts" 152 3 4 := ⟨_, rfl, by decide, Or.inr ⟨"RoadCounts", List.mem_filter.mpr ⟨(List.mem_append_right _ (List.mem_of_getElem? (i := 240) (by decide +kernel))), rfl⟩⟩⟩
theorem lf_7_78 : z_Fl "RoadCounts" 78 3 5 := ⟨_, rfl, by decide, Or.inr ⟨"RoadCounts", List.mem_filter.mpr ⟨(List.mem_append_right _ (List.mem_of_getElem? (i := 241) (by decide +kernel))), rfl⟩⟩⟩
theorem lf_2_59 : z_Fl "RoadCounts$Network" 59 3 5 := ⟨_, rfl, by decide, Or.inr ⟨"RoadCounts", List.mem_filter.mpr ⟨(List.mem_append_right _ (List.mem_of_getElem? (i := 242) (by decide +kernel))), rfl⟩⟩⟩
theorem lm_L_32 : z_MV "RoadCountsLaw" 32 M7_shape 2 7 := ⟨⟨wc_M7_shape, wi_7, ⟨by decide +kernel, by decide +kernel⟩, by decide +kernel, Or.inl (z_inT (List.mem_append_right _ (List.mem_of_getElem? (i := 256) (by decide +kernel))) rfl)⟩, wv_M7_shape, ws_M7_shape, _, rfl, rfl⟩
theorem lm_7_74 : z_MV "RoadCounts" 74 M2_at 1 2 := ⟨⟨wc_M2_at, wi_2, ⟨by decide +kernel, by decide +kernel⟩, by decide +kernel, Or.inl (z_inT (List.mem_append_right _ (List.mem_of_getElem? (i := 260) (by decide +kernel))) rfl)⟩, wv_M2_at, ws_M2_at, _, rfl, rfl⟩
theorem lm_2_38 : z_MS "RoadCounts$Network" 38 M7_isBelow 2 := ⟨⟨wc_M7_isBelow, wi_7, ⟨by decide +kernel, by decide +kernel⟩, by decide +kernel, Or.inr ⟨"RoadCounts", List.mem_filter.mpr ⟨(List.mem_append_right _ (List.mem_of_getElem? (i := 264) (by decide +kernel))), rfl⟩⟩⟩, wt_M7_isBelow⟩
theorem lm_L_37 : z_MV "RoadCountsLaw" 37 M7_count 3 7 := ⟨⟨wc_M7_count, wi_7, ⟨by decide +kernel, by decide +kernel⟩, by decide +kernel, Or.inl (z_inT (List.mem_append_right _ (List.mem_of_getElem? (i := 265) (by decide +kernel))) rfl)⟩, wv_M7_count, ws_M7_count, _, rfl, rfl⟩
theorem lk_7_84 : Cond.constant "RoadCounts" 84 (100000) ∈ z_T := (z_inT (List.mem_append_right _ (List.mem_of_getElem? (i := 269) (by decide +kernel))) rfl)
theorem lm_7_89 : z_MV "RoadCounts" 89 M1_put 2 1 := ⟨⟨wc_M1_put, wi_1, ⟨by decide +kernel, by decide +kernel⟩, by decide +kernel, Or.inl (z_inT (List.mem_append_right _ (List.mem_of_getElem? (i := 270) (by decide +kernel))) rfl)⟩, wv_M1_put, ws_M1_put, _, rfl, rfl⟩
theorem lm_1_18 : z_MV "RoadCounts$Counts" 18 M1_placeOf 1 1 := ⟨⟨wc_M1_placeOf, wi_1, ⟨by decide +kernel, by decide +kernel⟩, by decide +kernel, Or.inl (z_inT (List.mem_append_right _ (List.mem_of_getElem? (i := 274) (by decide +kernel))) rfl)⟩, wv_M1_placeOf, ws_M1_placeOf, _, rfl, rfl⟩
theorem lm_L_41 : z_MV "RoadCountsLaw" 41 M7_year 1 7 := ⟨⟨wc_M7_year, wi_7, ⟨by decide +kernel, by decide +kernel⟩, by decide +kernel, Or.inl (z_inT (List.mem_append_right _ (List.mem_of_getElem? (i := 278) (by decide +kernel))) rfl)⟩, wv_M7_year, ws_M7_year, _, rfl, rfl⟩
theorem lk_7_94 : Cond.constantLong "RoadCounts" 94 (-1) ∈ z_T := (z_inT (List.mem_append_right _ (List.mem_of_getElem? (i := 282) (by decide +kernel))) rfl)
theorem lm_7_96 : z_MV "RoadCounts" 96 M1_loadOfAll 2 1 := ⟨⟨wc_M1_loadOfAll, wi_1, ⟨by decide +kernel, by decide +kernel⟩, by decide +kernel, Or.inl (z_inT (List.mem_append_right _ (List.mem_of_getElem? (i := 283) (by decide +kernel))) rfl)⟩, wv_M1_loadOfAll, ws_M1_loadOfAll, _, rfl, rfl⟩
theorem lm_1_30 : z_MV "RoadCounts$Counts" 30 M1_usedShares 2 1 := ⟨⟨wc_M1_usedShares, wi_1, ⟨by decide +kernel, by decide +kernel⟩, by decide +kernel, Or.inl (z_inT (List.mem_append_right _ (List.mem_of_getElem? (i := 287) (by decide +kernel))) rfl)⟩, wv_M1_usedShares, ws_M1_usedShares, _, rfl, rfl⟩
theorem lm_1_26 : z_MV "RoadCounts$Counts" 26 M1_isUsed 2 1 := ⟨⟨wc_M1_isUsed, wi_1, ⟨by decide +kernel, by decide +kernel⟩, by decide +kernel, Or.inl (z_inT (List.mem_append_right _ (List.mem_of_getElem? (i := 291) (by decide +kernel))) rfl)⟩, wv_M1_isUsed, ws_M1_isUsed, _, rfl, rfl⟩
theorem lm_1_46 : z_MV "RoadCounts$Counts" 46 M0_shareOf 2 0 := ⟨⟨wc_M0_shareOf, wi_0, ⟨by decide +kernel, by decide +kernel⟩, by decide +kernel, Or.inl (z_inT (List.mem_append_right _ (List.mem_of_getElem? (i := 295) (by decide +kernel))) rfl)⟩, wv_M0_shareOf, ws_M0_shareOf, _, rfl, rfl⟩
theorem lm_1_34 : z_MV "RoadCounts$Counts" 34 M1_usedTotal 1 1 := ⟨⟨wc_M1_usedTotal, wi_1, ⟨by decide +kernel, by decide +kernel⟩, by decide +kernel, Or.inl (z_inT (List.mem_append_right _ (List.mem_of_getElem? (i := 299) (by decide +kernel))) rfl)⟩, wv_M1_usedTotal, ws_M1_usedTotal, _, rfl, rfl⟩
theorem lm_1_38 : z_MV "RoadCounts$Counts" 38 M0_wholeOf 1 0 := ⟨⟨wc_M0_wholeOf, wi_0, ⟨by decide +kernel, by decide +kernel⟩, by decide +kernel, Or.inl (z_inT (List.mem_append_right _ (List.mem_of_getElem? (i := 303) (by decide +kernel))) rfl)⟩, wv_M0_wholeOf, ws_M0_wholeOf, _, rfl, rfl⟩
theorem lk_0_31 : Cond.constantLong "RoadCounts$Almanac" 31 (4) ∈ z_T := (z_inT (List.mem_append_right _ (List.mem_of_getElem? (i := 307) (by decide +kernel))) rfl)
theorem lm_0_33 : z_MV "RoadCounts$Almanac" 33 M0_shareOf 2 0 := ⟨⟨wc_M0_shareOf, wi_0, ⟨by decide +kernel, by decide +kernel⟩, by decide +kernel, Or.inl (z_inT (List.mem_append_right _ (List.mem_of_getElem? (i := 308) (by decide +kernel))) rfl)⟩, wv_M0_shareOf, ws_M0_shareOf, _, rfl, rfl⟩
theorem lk_1_44 : Cond.constantLong "RoadCounts$Counts" 44 (-1) ∈ z_T := (z_inT (List.mem_append_right _ (List.mem_of_getElem? (i := 309) (by decide +kernel))) rfl)
theorem lm_L_46 : z_MV "RoadCountsLaw" 46 M7_span 2 7 := ⟨⟨wc_M7_span, wi_7, ⟨by decide +kernel, by decide +kernel⟩, by decide +kernel, Or.inl (z_inT (List.mem_append_right _ (List.mem_of_getElem? (i := 310) (by decide +kernel))) rfl)⟩, wv_M7_span, ws_M7_span, _, rfl, rfl⟩
theorem lm_7_100 : z_MV "RoadCounts" 100 M1_loadAtEnd 3 1 := ⟨⟨wc_M1_loadAtEnd, wi_1, ⟨by decide +kernel, by decide +kernel⟩, by decide +kernel, Or.inl (z_inT (List.mem_append_right _ (List.mem_of_getElem? (i := 314) (by decide +kernel))) rfl)⟩, wv_M1_loadAtEnd, ws_M1_loadAtEnd, _, rfl, rfl⟩
theorem lm_L_51 : z_MV "RoadCountsLaw" 51 M7_best 1 7 := ⟨⟨wc_M7_best, wi_7, ⟨by decide +kernel, by decide +kernel⟩, by decide +kernel, Or.inl (z_inT (List.mem_append_right _ (List.mem_of_getElem? (i := 318) (by decide +kernel))) rfl)⟩, wv_M7_best, ws_M7_best, _, rfl, rfl⟩
theorem lm_7_104 : z_MV "RoadCounts" 104 M1_bestShape 1 1 := ⟨⟨wc_M1_bestShape, wi_1, ⟨by decide +kernel, by decide +kernel⟩, by decide +kernel, Or.inl (z_inT (List.mem_append_right _ (List.mem_of_getElem? (i := 322) (by decide +kernel))) rfl)⟩, wv_M1_bestShape, ws_M1_bestShape, _, rfl, rfl⟩
theorem lm_1_50 : z_MV "RoadCounts$Counts" 50 M1_used 1 1 := ⟨⟨wc_M1_used, wi_1, ⟨by decide +kernel, by decide +kernel⟩, by decide +kernel, Or.inl (z_inT (List.mem_append_right _ (List.mem_of_getElem? (i := 326) (by decide +kernel))) rfl)⟩, wv_M1_used, ws_M1_used, _, rfl, rfl⟩
theorem lm_1_54 : z_MV "RoadCounts$Counts" 54 M1_misfitTimesShares 3 1 := ⟨⟨wc_M1_misfitTimesShares, wi_1, ⟨by decide +kernel, by decide +kernel⟩, by decide +kernel, Or.inl (z_inT (List.mem_append_right _ (List.mem_of_getElem? (i := 330) (by decide +kernel))) rfl)⟩, wv_M1_misfitTimesShares, ws_M1_misfitTimesShares, _, rfl, rfl⟩
theorem lm_1_58 : z_MS "RoadCounts$Counts" 58 MA_abs 1 := ⟨⟨wc_MA_abs, wi_A, ⟨by decide +kernel, by decide +kernel⟩, by decide +kernel, Or.inl (z_inT (List.mem_append_right _ (List.mem_of_getElem? (i := 334) (by decide +kernel))) rfl)⟩, wt_MA_abs⟩
theorem lm_L_56 : z_MV "RoadCountsLaw" 56 M7_how 1 7 := ⟨⟨wc_M7_how, wi_7, ⟨by decide +kernel, by decide +kernel⟩, by decide +kernel, Or.inl (z_inT (List.mem_append_right _ (List.mem_of_getElem? (i := 337) (by decide +kernel))) rfl)⟩, wv_M7_how, ws_M7_how, _, rfl, rfl⟩
theorem lm_7_108 : z_MV "RoadCounts" 108 M2_settle 1 2 := ⟨⟨wc_M2_settle, wi_2, ⟨by decide +kernel, by decide +kernel⟩, by decide +kernel, Or.inl (z_inT (List.mem_append_right _ (List.mem_of_getElem? (i := 341) (by decide +kernel))) rfl)⟩, wv_M2_settle, ws_M2_settle, _, rfl, rfl⟩
theorem lm_2_62 : z_MV "RoadCounts$Network" 62 M1_loadOfAll 2 1 := ⟨⟨wc_M1_loadOfAll, wi_1, ⟨by decide +kernel, by decide +kernel⟩, by decide +kernel, Or.inl (z_inT (List.mem_append_right _ (List.mem_of_getElem? (i := 345) (by decide +kernel))) rfl)⟩, wv_M1_loadOfAll, ws_M1_loadOfAll, _, rfl, rfl⟩
theorem lk_2_68 : Cond.constantLong "RoadCounts$Network" 68 (-1) ∈ z_T := (z_inT (List.mem_append_right _ (List.mem_of_getElem? (i := 346) (by decide +kernel))) rfl)
theorem lm_2_70 : z_MV "RoadCounts$Network" 70 M2_follow 1 2 := ⟨⟨wc_M2_follow, wi_2, ⟨by decide +kernel, by decide +kernel⟩, by decide +kernel, Or.inl (z_inT (List.mem_append_right _ (List.mem_of_getElem? (i := 347) (by decide +kernel))) rfl)⟩, wv_M2_follow, ws_M2_follow, _, rfl, rfl⟩
theorem lm_2_90 : z_MS "RoadCounts$Network" 90 MI_bitCount 1 := ⟨⟨wc_MI_bitCount, wi_I, ⟨by decide +kernel, by decide +kernel⟩, by decide +kernel, Or.inl (z_inT (List.mem_append_right _ (List.mem_of_getElem? (i := 351) (by decide +kernel))) rfl)⟩, wt_MI_bitCount⟩
theorem lk_I_265 : Cond.constant "java/lang/Integer" 265 (1431655765) ∈ z_T := (z_inT (List.mem_append_right _ (List.mem_of_getElem? (i := 354) (by decide +kernel))) rfl)
theorem lk_I_266 : Cond.constant "java/lang/Integer" 266 (858993459) ∈ z_T := (z_inT (List.mem_append_right _ (List.mem_of_getElem? (i := 355) (by decide +kernel))) rfl)
theorem lk_I_267 : Cond.constant "java/lang/Integer" 267 (252645135) ∈ z_T := (z_inT (List.mem_append_right _ (List.mem_of_getElem? (i := 356) (by decide +kernel))) rfl)
theorem lm_2_95 : z_MS "RoadCounts$Network" 95 MI_numberOfTrailingZeros 1 := ⟨⟨wc_MI_numberOfTrailingZeros, wi_I, ⟨by decide +kernel, by decide +kernel⟩, by decide +kernel, Or.inl (z_inT (List.mem_append_right _ (List.mem_of_getElem? (i := 357) (by decide +kernel))) rfl)⟩, wt_MI_numberOfTrailingZeros⟩
theorem lk_I_264 : Cond.constant "java/lang/Integer" 264 (65536) ∈ z_T := (z_inT (List.mem_append_right _ (List.mem_of_getElem? (i := 360) (by decide +kernel))) rfl)
theorem lm_2_77 : z_MV "RoadCounts$Network" 77 M2_surplus 1 2 := ⟨⟨wc_M2_surplus, wi_2, ⟨by decide +kernel, by decide +kernel⟩, by decide +kernel, Or.inl (z_inT (List.mem_append_right _ (List.mem_of_getElem? (i := 361) (by decide +kernel))) rfl)⟩, wv_M2_surplus, ws_M2_surplus, _, rfl, rfl⟩
theorem lm_2_48 : z_MV "RoadCounts$Network" 48 M2_isTold 1 2 := ⟨⟨wc_M2_isTold, wi_2, ⟨by decide +kernel, by decide +kernel⟩, by decide +kernel, Or.inl (z_inT (List.mem_append_right _ (List.mem_of_getElem? (i := 365) (by decide +kernel))) rfl)⟩, wv_M2_isTold, ws_M2_isTold, _, rfl, rfl⟩
theorem lm_7_112 : z_MV "RoadCounts" 112 M2_isKnown 1 2 := ⟨⟨wc_M2_isKnown, wi_2, ⟨by decide +kernel, by decide +kernel⟩, by decide +kernel, Or.inl (z_inT (List.mem_append_right _ (List.mem_of_getElem? (i := 369) (by decide +kernel))) rfl)⟩, wv_M2_isKnown, ws_M2_isKnown, _, rfl, rfl⟩
theorem lm_7_115 : z_MV "RoadCounts" 115 M2_isTold 1 2 := ⟨⟨wc_M2_isTold, wi_2, ⟨by decide +kernel, by decide +kernel⟩, by decide +kernel, Or.inl (z_inT (List.mem_append_right _ (List.mem_of_getElem? (i := 373) (by decide +kernel))) rfl)⟩, wv_M2_isTold, ws_M2_isTold, _, rfl, rfl⟩
theorem lm_L_60 : z_MV "RoadCountsLaw" 60 M7_load 1 7 := ⟨⟨wc_M7_load, wi_7, ⟨by decide +kernel, by decide +kernel⟩, by decide +kernel, Or.inl (z_inT (List.mem_append_right _ (List.mem_of_getElem? (i := 374) (by decide +kernel))) rfl)⟩, wv_M7_load, ws_M7_load, _, rfl, rfl⟩
theorem lm_7_118 : z_MV "RoadCounts" 118 M2_loadOf 1 2 := ⟨⟨wc_M2_loadOf, wi_2, ⟨by decide +kernel, by decide +kernel⟩, by decide +kernel, Or.inl (z_inT (List.mem_append_right _ (List.mem_of_getElem? (i := 378) (by decide +kernel))) rfl)⟩, wv_M2_loadOf, ws_M2_loadOf, _, rfl, rfl⟩
theorem lm_L_64 : z_MV "RoadCountsLaw" 64 M7_balances 1 7 := ⟨⟨wc_M7_balances, wi_7, ⟨by decide +kernel, by decide +kernel⟩, by decide +kernel, Or.inl (z_inT (List.mem_append_right _ (List.mem_of_getElem? (i := 382) (by decide +kernel))) rfl)⟩, wv_M7_balances, ws_M7_balances, _, rfl, rfl⟩
theorem lm_7_122 : z_MV "RoadCounts" 122 M2_isAllToldAt 1 2 := ⟨⟨wc_M2_isAllToldAt, wi_2, ⟨by decide +kernel, by decide +kernel⟩, by decide +kernel, Or.inl (z_inT (List.mem_append_right _ (List.mem_of_getElem? (i := 386) (by decide +kernel))) rfl)⟩, wv_M2_isAllToldAt, ws_M2_isAllToldAt, _, rfl, rfl⟩
theorem lm_L_68 : z_MV "RoadCountsLaw" 68 M7_balance 1 7 := ⟨⟨wc_M7_balance, wi_7, ⟨by decide +kernel, by decide +kernel⟩, by decide +kernel, Or.inl (z_inT (List.mem_append_right _ (List.mem_of_getElem? (i := 390) (by decide +kernel))) rfl)⟩, wv_M7_balance, ws_M7_balance, _, rfl, rfl⟩
theorem lm_7_125 : z_MV "RoadCounts" 125 M2_surplus 1 2 := ⟨⟨wc_M2_surplus, wi_2, ⟨by decide +kernel, by decide +kernel⟩, by decide +kernel, Or.inl (z_inT (List.mem_append_right _ (List.mem_of_getElem? (i := 394) (by decide +kernel))) rfl)⟩, wv_M2_surplus, ws_M2_surplus, _, rfl, rfl⟩
theorem lm_L_72 : z_MV "RoadCountsLaw" 72 M7_does 1 7 := ⟨⟨wc_M7_does, wi_7, ⟨by decide +kernel, by decide +kernel⟩, by decide +kernel, Or.inl (z_inT (List.mem_append_right _ (List.mem_of_getElem? (i := 395) (by decide +kernel))) rfl)⟩, wv_M7_does, ws_M7_does, _, rfl, rfl⟩
theorem lm_7_128 : z_MV "RoadCounts" 128 M2_hasAll 1 2 := ⟨⟨wc_M2_hasAll, wi_2, ⟨by decide +kernel, by decide +kernel⟩, by decide +kernel, Or.inl (z_inT (List.mem_append_right _ (List.mem_of_getElem? (i := 399) (by decide +kernel))) rfl)⟩, wv_M2_hasAll, ws_M2_hasAll, _, rfl, rfl⟩
theorem lm_7_131 : z_MV "RoadCounts" 131 M2_isEnough 1 2 := ⟨⟨wc_M2_isEnough, wi_2, ⟨by decide +kernel, by decide +kernel⟩, by decide +kernel, Or.inl (z_inT (List.mem_append_right _ (List.mem_of_getElem? (i := 403) (by decide +kernel))) rfl)⟩, wv_M2_isEnough, ws_M2_isEnough, _, rfl, rfl⟩
theorem lm_L_76 : z_MV "RoadCountsLaw" 76 M7_plan 0 7 := ⟨⟨wc_M7_plan, wi_7, ⟨by decide +kernel, by decide +kernel⟩, by decide +kernel, Or.inl (z_inT (List.mem_append_right _ (List.mem_of_getElem? (i := 407) (by decide +kernel))) rfl)⟩, wv_M7_plan, ws_M7_plan, _, rfl, rfl⟩
theorem lm_7_134 : z_MV "RoadCounts" 134 M2_cheapestEnough 0 2 := ⟨⟨wc_M2_cheapestEnough, wi_2, ⟨by decide +kernel, by decide +kernel⟩, by decide +kernel, Or.inl (z_inT (List.mem_append_right _ (List.mem_of_getElem? (i := 411) (by decide +kernel))) rfl)⟩, wv_M2_cheapestEnough, ws_M2_cheapestEnough, _, rfl, rfl⟩
theorem lm_2_81 : z_MV "RoadCounts$Network" 81 M2_dearestOutside 1 2 := ⟨⟨wc_M2_dearestOutside, wi_2, ⟨by decide +kernel, by decide +kernel⟩, by decide +kernel, Or.inl (z_inT (List.mem_append_right _ (List.mem_of_getElem? (i := 415) (by decide +kernel))) rfl)⟩, wv_M2_dearestOutside, ws_M2_dearestOutside, _, rfl, rfl⟩
theorem lm_2_84 : z_MV "RoadCounts$Network" 84 M2_isEnough 1 2 := ⟨⟨wc_M2_isEnough, wi_2, ⟨by decide +kernel, by decide +kernel⟩, by decide +kernel, Or.inl (z_inT (List.mem_append_right _ (List.mem_of_getElem? (i := 419) (by decide +kernel))) rfl)⟩, wv_M2_isEnough, ws_M2_isEnough, _, rfl, rfl⟩
theorem lm_L_81 : z_MV "RoadCountsLaw" 81 M7_feed 5 7 := ⟨⟨wc_M7_feed, wi_7, ⟨by decide +kernel, by decide +kernel⟩, by decide +kernel, Or.inl (z_inT (List.mem_append_right _ (List.mem_of_getElem? (i := 420) (by decide +kernel))) rfl)⟩, wv_M7_feed, ws_M7_feed, _, rfl, rfl⟩
theorem lm_7_141 : z_MV "RoadCounts" 141 M6_append 1 6 := ⟨⟨wc_M6_append, wi_6, ⟨by decide +kernel, by decide +kernel⟩, by decide +kernel, Or.inl (z_inT (List.mem_append_right _ (List.mem_of_getElem? (i := 424) (by decide +kernel))) rfl)⟩, wv_M6_append, ws_M6_append, _, rfl, rfl⟩
theorem lm_L_86 : z_MV "RoadCountsLaw" 86 M7_rules 1 7 := ⟨⟨wc_M7_rules, wi_7, ⟨by decide +kernel, by decide +kernel⟩, by decide +kernel, Or.inl (z_inT (List.mem_append_right _ (List.mem_of_getElem? (i := 428) (by decide +kernel))) rfl)⟩, wv_M7_rules, ws_M7_rules, _, rfl, rfl⟩
theorem lm_7_145 : z_MV "RoadCounts" 145 M5_read 2 5 := ⟨⟨wc_M5_read, wi_5, ⟨by decide +kernel, by decide +kernel⟩, by decide +kernel, Or.inl (z_inT (List.mem_append_right _ (List.mem_of_getElem? (i := 432) (by decide +kernel))) rfl)⟩, wv_M5_read, ws_M5_read, _, rfl, rfl⟩
theorem lm_5_27 : z_MV "RoadCounts$RulesReader" 27 M5_readClause 1 5 := ⟨⟨wc_M5_readClause, wi_5, ⟨by decide +kernel, by decide +kernel⟩, by decide +kernel, Or.inl (z_inT (List.mem_append_right _ (List.mem_of_getElem? (i := 436) (by decide +kernel))) rfl)⟩, wv_M5_readClause, ws_M5_readClause, _, rfl, rfl⟩
theorem lm_5_31 : z_MV "RoadCounts$RulesReader" 31 M5_sign 0 5 := ⟨⟨wc_M5_sign, wi_5, ⟨by decide +kernel, by decide +kernel⟩, by decide +kernel, Or.inl (z_inT (List.mem_append_right _ (List.mem_of_getElem? (i := 440) (by decide +kernel))) rfl)⟩, wv_M5_sign, ws_M5_sign, _, rfl, rfl⟩
theorem lm_5_60 : z_MV "RoadCounts$RulesReader" 60 M6_at 1 6 := ⟨⟨wc_M6_at, wi_6, ⟨by decide +kernel, by decide +kernel⟩, by decide +kernel, Or.inl (z_inT (List.mem_append_right _ (List.mem_of_getElem? (i := 444) (by decide +kernel))) rfl)⟩, wv_M6_at, ws_M6_at, _, rfl, rfl⟩
theorem lm_5_35 : z_MS "RoadCounts$RulesReader" 35 M5_isDigit 1 := ⟨⟨wc_M5_isDigit, wi_5, ⟨by decide +kernel, by decide +kernel⟩, by decide +kernel, Or.inl (z_inT (List.mem_append_right _ (List.mem_of_getElem? (i := 448) (by decide +kernel))) rfl)⟩, wt_M5_isDigit⟩
theorem lm_5_39 : z_MV "RoadCounts$RulesReader" 39 M4_addClause 1 4 := ⟨⟨wc_M4_addClause, wi_4, ⟨by decide +kernel, by decide +kernel⟩, by decide +kernel, Or.inl (z_inT (List.mem_append_right _ (List.mem_of_getElem? (i := 451) (by decide +kernel))) rfl)⟩, wv_M4_addClause, ws_M4_addClause, _, rfl, rfl⟩
theorem lm_5_43 : z_MV "RoadCounts$RulesReader" 43 M5_readSpans 1 5 := ⟨⟨wc_M5_readSpans, wi_5, ⟨by decide +kernel, by decide +kernel⟩, by decide +kernel, Or.inl (z_inT (List.mem_append_right _ (List.mem_of_getElem? (i := 455) (by decide +kernel))) rfl)⟩, wv_M5_readSpans, ws_M5_readSpans, _, rfl, rfl⟩
theorem lm_5_46 : z_MV "RoadCounts$RulesReader" 46 M5_readSpan 1 5 := ⟨⟨wc_M5_readSpan, wi_5, ⟨by decide +kernel, by decide +kernel⟩, by decide +kernel, Or.inl (z_inT (List.mem_append_right _ (List.mem_of_getElem? (i := 459) (by decide +kernel))) rfl)⟩, wv_M5_readSpan, ws_M5_readSpan, _, rfl, rfl⟩
theorem lm_5_49 : z_MV "RoadCounts$RulesReader" 49 M5_readNumber 1 5 := ⟨⟨wc_M5_readNumber, wi_5, ⟨by decide +kernel, by decide +kernel⟩, by decide +kernel, Or.inl (z_inT (List.mem_append_right _ (List.mem_of_getElem? (i := 463) (by decide +kernel))) rfl)⟩, wv_M5_readNumber, ws_M5_readNumber, _, rfl, rfl⟩
theorem lm_5_56 : z_MV "RoadCounts$RulesReader" 56 M4_addSpanToLast 2 4 := ⟨⟨wc_M4_addSpanToLast, wi_4, ⟨by decide +kernel, by decide +kernel⟩, by decide +kernel, Or.inl (z_inT (List.mem_append_right _ (List.mem_of_getElem? (i := 467) (by decide +kernel))) rfl)⟩, wv_M4_addSpanToLast, ws_M4_addSpanToLast, _, rfl, rfl⟩
theorem lm_L_90 : z_MV "RoadCountsLaw" 90 M7_pass 2 7 := ⟨⟨wc_M7_pass, wi_7, ⟨by decide +kernel, by decide +kernel⟩, by decide +kernel, Or.inl (z_inT (List.mem_append_right _ (List.mem_of_getElem? (i := 471) (by decide +kernel))) rfl)⟩, wv_M7_pass, ws_M7_pass, _, rfl, rfl⟩
theorem lm_7_149 : z_MV "RoadCounts" 149 M6_at 1 6 := ⟨⟨wc_M6_at, wi_6, ⟨by decide +kernel, by decide +kernel⟩, by decide +kernel, Or.inl (z_inT (List.mem_append_right _ (List.mem_of_getElem? (i := 475) (by decide +kernel))) rfl)⟩, wv_M6_at, ws_M6_at, _, rfl, rfl⟩
theorem lm_7_156 : z_MV "RoadCounts" 156 M4_kindOf 3 4 := ⟨⟨wc_M4_kindOf, wi_4, ⟨by decide +kernel, by decide +kernel⟩, by decide +kernel, Or.inl (z_inT (List.mem_append_right _ (List.mem_of_getElem? (i := 476) (by decide +kernel))) rfl)⟩, wv_M4_kindOf, ws_M4_kindOf, _, rfl, rfl⟩
theorem lm_4_30 : z_MV "RoadCounts$Rules" 30 M4_isWithin 3 4 := ⟨⟨wc_M4_isWithin, wi_4, ⟨by decide +kernel, by decide +kernel⟩, by decide +kernel, Or.inl (z_inT (List.mem_append_right _ (List.mem_of_getElem? (i := 480) (by decide +kernel))) rfl)⟩, wv_M4_isWithin, ws_M4_isWithin, _, rfl, rfl⟩
theorem lm_4_34 : z_MV "RoadCounts$Rules" 34 M6_at 1 6 := ⟨⟨wc_M6_at, wi_6, ⟨by decide +kernel, by decide +kernel⟩, by decide +kernel, Or.inl (z_inT (List.mem_append_right _ (List.mem_of_getElem? (i := 484) (by decide +kernel))) rfl)⟩, wv_M6_at, ws_M6_at, _, rfl, rfl⟩
theorem lm_L_95 : z_MV "RoadCountsLaw" 95 M7_kinds 2 7 := ⟨⟨wc_M7_kinds, wi_7, ⟨by decide +kernel, by decide +kernel⟩, by decide +kernel, Or.inl (z_inT (List.mem_append_right _ (List.mem_of_getElem? (i := 485) (by decide +kernel))) rfl)⟩, wv_M7_kinds, ws_M7_kinds, _, rfl, rfl⟩
theorem lm_L_99 : z_MV "RoadCountsLaw" 99 M7_whole 1 7 := ⟨⟨wc_M7_whole, wi_7, ⟨by decide +kernel, by decide +kernel⟩, by decide +kernel, Or.inl (z_inT (List.mem_append_right _ (List.mem_of_getElem? (i := 489) (by decide +kernel))) rfl)⟩, wv_M7_whole, ws_M7_whole, _, rfl, rfl⟩
theorem lm_7_160 : z_MV "RoadCounts" 160 M0_wholeOf 1 0 := ⟨⟨wc_M0_wholeOf, wi_0, ⟨by decide +kernel, by decide +kernel⟩, by decide +kernel, Or.inl (z_inT (List.mem_append_right _ (List.mem_of_getElem? (i := 493) (by decide +kernel))) rfl)⟩, wv_M0_wholeOf, ws_M0_wholeOf, _, rfl, rfl⟩
theorem lm_L_103 : z_MV "RoadCountsLaw" 103 M7_look 2 7 := ⟨⟨wc_M7_look, wi_7, ⟨by decide +kernel, by decide +kernel⟩, by decide +kernel, Or.inl (z_inT (List.mem_append_right _ (List.mem_of_getElem? (i := 494) (by decide +kernel))) rfl)⟩, wv_M7_look, ws_M7_look, _, rfl, rfl⟩
theorem lm_7_175 : z_MV "RoadCounts" 175 M1_used 1 1 := ⟨⟨wc_M1_used, wi_1, ⟨by decide +kernel, by decide +kernel⟩, by decide +kernel, Or.inl (z_inT (List.mem_append_right _ (List.mem_of_getElem? (i := 498) (by decide +kernel))) rfl)⟩, wv_M1_used, ws_M1_used, _, rfl, rfl⟩
theorem lm_7_178 : z_MV "RoadCounts" 178 M1_on 1 1 := ⟨⟨wc_M1_on, wi_1, ⟨by decide +kernel, by decide +kernel⟩, by decide +kernel, Or.inl (z_inT (List.mem_append_right _ (List.mem_of_getElem? (i := 499) (by decide +kernel))) rfl)⟩, wv_M1_on, ws_M1_on, _, rfl, rfl⟩
theorem lm_L_107 : z_MV "RoadCountsLaw" 107 M7_tell 1 7 := ⟨⟨wc_M7_tell, wi_7, ⟨by decide +kernel, by decide +kernel⟩, by decide +kernel, Or.inl (z_inT (List.mem_append_right _ (List.mem_of_getElem? (i := 503) (by decide +kernel))) rfl)⟩, wv_M7_tell, ws_M7_tell, _, rfl, rfl⟩
theorem lm_7_189 : z_MS "RoadCounts" 189 MI_bitCount 1 := ⟨⟨wc_MI_bitCount, wi_I, ⟨by decide +kernel, by decide +kernel⟩, by decide +kernel, Or.inl (z_inT (List.mem_append_right _ (List.mem_of_getElem? (i := 507) (by decide +kernel))) rfl)⟩, wt_MI_bitCount⟩
theorem lc_L_10 : Cond.classLink "RoadCountsLaw" 10 "RoadCountsModel" ∈ z_T := (z_inT (List.mem_append_right _ (List.mem_of_getElem? (i := 508) (by decide +kernel))) rfl)
theorem wn_8 : Cond.instantiable "RoadCountsModel" 27 ∈ z_T := (z_inT (List.mem_append_right _ (List.mem_of_getElem? (i := 509) (by decide +kernel))) rfl)
theorem lm_L_12 : z_MI "RoadCountsLaw" 12 M8_init 0 := ⟨⟨wc_M8_init, wi_8, ⟨by decide +kernel, by decide +kernel⟩, by decide +kernel, Or.inl (z_inT (List.mem_append_right _ (List.mem_of_getElem? (i := 510) (by decide +kernel))) rfl)⟩, wv_M8_init, rfl, rfl⟩
theorem lo_8_1 : Cond.methodLink "RoadCountsModel" 1 objectInit ∈ z_T := (z_inT (List.mem_append_right _ (List.mem_of_getElem? (i := 513) (by decide +kernel))) rfl)
theorem lf_8_7 : z_Fl "RoadCountsModel" 7 8 0 := ⟨_, rfl, by decide, Or.inl (z_inT (List.mem_append_right _ (List.mem_of_getElem? (i := 514) (by decide +kernel))) rfl)⟩
theorem lf_8_172 : z_Fl "RoadCountsModel" 172 8 1 := ⟨_, rfl, by decide, Or.inl (z_inT (List.mem_append_right _ (List.mem_of_getElem? (i := 515) (by decide +kernel))) rfl)⟩
theorem lf_8_70 : z_Fl "RoadCountsModel" 70 8 2 := ⟨_, rfl, by decide, Or.inl (z_inT (List.mem_append_right _ (List.mem_of_getElem? (i := 516) (by decide +kernel))) rfl)⟩
theorem lf_8_92 : z_Fl "RoadCountsModel" 92 8 3 := ⟨_, rfl, by decide, Or.inl (z_inT (List.mem_append_right _ (List.mem_of_getElem? (i := 517) (by decide +kernel))) rfl)⟩
theorem lf_8_13 : z_Fl "RoadCountsModel" 13 8 4 := ⟨_, rfl, by decide, Or.inl (z_inT (List.mem_append_right _ (List.mem_of_getElem? (i := 518) (by decide +kernel))) rfl)⟩
theorem lf_8_17 : z_Fl "RoadCountsModel" 17 8 5 := ⟨_, rfl, by decide, Or.inl (z_inT (List.mem_append_right _ (List.mem_of_getElem? (i := 519) (by decide +kernel))) rfl)⟩
theorem lf_8_21 : z_Fl "RoadCountsModel" 21 8 6 := ⟨_, rfl, by decide, Or.inl (z_inT (List.mem_append_right _ (List.mem_of_getElem? (i := 520) (by decide +kernel))) rfl)⟩
theorem lf_8_24 : z_Fl "RoadCountsModel" 24 8 7 := ⟨_, rfl, by decide, Or.inl (z_inT (List.mem_append_right _ (List.mem_of_getElem? (i := 521) (by decide +kernel))) rfl)⟩
theorem lf_8_27 : z_Fl "RoadCountsModel" 27 8 8 := ⟨_, rfl, by decide, Or.inl (z_inT (List.mem_append_right _ (List.mem_of_getElem? (i := 522) (by decide +kernel))) rfl)⟩
theorem lf_8_30 : z_Fl "RoadCountsModel" 30 8 9 := ⟨_, rfl, by decide, Or.inl (z_inT (List.mem_append_right _ (List.mem_of_getElem? (i := 523) (by decide +kernel))) rfl)⟩
theorem lf_8_33 : z_Fl "RoadCountsModel" 33 8 10 := ⟨_, rfl, by decide, Or.inl (z_inT (List.mem_append_right _ (List.mem_of_getElem? (i := 524) (by decide +kernel))) rfl)⟩
theorem lf_8_36 : z_Fl "RoadCountsModel" 36 8 11 := ⟨_, rfl, by decide, Or.inl (z_inT (List.mem_append_right _ (List.mem_of_getElem? (i := 525) (by decide +kernel))) rfl)⟩
theorem lf_8_39 : z_Fl "RoadCountsModel" 39 8 12 := ⟨_, rfl, by decide, Or.inl (z_inT (List.mem_append_right _ (List.mem_of_getElem? (i := 526) (by decide +kernel))) rfl)⟩
theorem lf_8_42 : z_Fl "RoadCountsModel" 42 8 13 := ⟨_, rfl, by decide, Or.inl (z_inT (List.mem_append_right _ (List.mem_of_getElem? (i := 527) (by decide +kernel))) rfl)⟩
theorem lf_8_215 : z_Fl "RoadCountsModel" 215 8 14 := ⟨_, rfl, by decide, Or.inl (z_inT (List.mem_append_right _ (List.mem_of_getElem? (i := 528) (by decide +kernel))) rfl)⟩
theorem lf_8_203 : z_Fl "RoadCountsModel" 203 8 15 := ⟨_, rfl, by decide, Or.inl (z_inT (List.mem_append_right _ (List.mem_of_getElem? (i := 529) (by decide +kernel))) rfl)⟩
theorem lf_8_45 : z_Fl "RoadCountsModel" 45 8 16 := ⟨_, rfl, by decide, Or.inl (z_inT (List.mem_append_right _ (List.mem_of_getElem? (i := 530) (by decide +kernel))) rfl)⟩
theorem lf_8_48 : z_Fl "RoadCountsModel" 48 8 17 := ⟨_, rfl, by decide, Or.inl (z_inT (List.mem_append_right _ (List.mem_of_getElem? (i := 531) (by decide +kernel))) rfl)⟩
theorem lf_8_51 : z_Fl "RoadCountsModel" 51 8 18 := ⟨_, rfl, by decide, Or.inl (z_inT (List.mem_append_right _ (List.mem_of_getElem? (i := 532) (by decide +kernel))) rfl)⟩
theorem lf_8_54 : z_Fl "RoadCountsModel" 54 8 19 := ⟨_, rfl, by decide, Or.inl (z_inT (List.mem_append_right _ (List.mem_of_getElem? (i := 533) (by decide +kernel))) rfl)⟩
theorem lf_8_57 : z_Fl "RoadCountsModel" 57 8 20 := ⟨_, rfl, by decide, Or.inl (z_inT (List.mem_append_right _ (List.mem_of_getElem? (i := 534) (by decide +kernel))) rfl)⟩
theorem lf_8_60 : z_Fl "RoadCountsModel" 60 8 21 := ⟨_, rfl, by decide, Or.inl (z_inT (List.mem_append_right _ (List.mem_of_getElem? (i := 535) (by decide +kernel))) rfl)⟩
theorem lf_8_63 : z_Fl "RoadCountsModel" 63 8 22 := ⟨_, rfl, by decide, Or.inl (z_inT (List.mem_append_right _ (List.mem_of_getElem? (i := 536) (by decide +kernel))) rfl)⟩
theorem lf_8_67 : z_Fl "RoadCountsModel" 67 8 23 := ⟨_, rfl, by decide, Or.inl (z_inT (List.mem_append_right _ (List.mem_of_getElem? (i := 537) (by decide +kernel))) rfl)⟩
theorem lf_8_179 : z_Fl "RoadCountsModel" 179 8 24 := ⟨_, rfl, by decide, Or.inl (z_inT (List.mem_append_right _ (List.mem_of_getElem? (i := 538) (by decide +kernel))) rfl)⟩
theorem lf_8_182 : z_Fl "RoadCountsModel" 182 8 25 := ⟨_, rfl, by decide, Or.inl (z_inT (List.mem_append_right _ (List.mem_of_getElem? (i := 539) (by decide +kernel))) rfl)⟩
theorem lf_8_185 : z_Fl "RoadCountsModel" 185 8 26 := ⟨_, rfl, by decide, Or.inl (z_inT (List.mem_append_right _ (List.mem_of_getElem? (i := 540) (by decide +kernel))) rfl)⟩
theorem wa_byte : Cond.arrayClass .byte ∈ z_T := (z_inT (List.mem_append_right _ (List.mem_of_getElem? (i := 596) (by decide +kernel))) rfl)
theorem lm_L_17 : z_MV "RoadCountsLaw" 17 M8_weekday 3 8 := ⟨⟨wc_M8_weekday, wi_8, ⟨by decide +kernel, by decide +kernel⟩, by decide +kernel, Or.inl (z_inT (List.mem_append_right _ (List.mem_of_getElem? (i := 597) (by decide +kernel))) rfl)⟩, wv_M8_weekday, ws_M8_weekday, _, rfl, rfl⟩
theorem lm_8_80 : z_MS "RoadCountsModel" 80 M8_isShape 1 := ⟨⟨wc_M8_isShape, wi_8, ⟨by decide +kernel, by decide +kernel⟩, by decide +kernel, Or.inl (z_inT (List.mem_append_right _ (List.mem_of_getElem? (i := 601) (by decide +kernel))) rfl)⟩, wt_M8_isShape⟩
theorem lk_8_78 : Cond.constantLong "RoadCountsModel" 78 (3) ∈ z_T := (z_inT (List.mem_append_right _ (List.mem_of_getElem? (i := 604) (by decide +kernel))) rfl)
theorem lm_8_74 : z_MS "RoadCountsModel" 74 M8_lies 3 := ⟨⟨wc_M8_lies, wi_8, ⟨by decide +kernel, by decide +kernel⟩, by decide +kernel, Or.inl (z_inT (List.mem_append_right _ (List.mem_of_getElem? (i := 605) (by decide +kernel))) rfl)⟩, wt_M8_lies⟩
theorem lk_8_84 : Cond.constantLong "RoadCountsModel" 84 (6) ∈ z_T := (z_inT (List.mem_append_right _ (List.mem_of_getElem? (i := 608) (by decide +kernel))) rfl)
theorem lk_8_86 : Cond.constantLong "RoadCountsModel" 86 (99) ∈ z_T := (z_inT (List.mem_append_right _ (List.mem_of_getElem? (i := 609) (by decide +kernel))) rfl)
theorem lm_L_21 : z_MV "RoadCountsLaw" 21 M8_month 3 8 := ⟨⟨wc_M8_month, wi_8, ⟨by decide +kernel, by decide +kernel⟩, by decide +kernel, Or.inl (z_inT (List.mem_append_right _ (List.mem_of_getElem? (i := 610) (by decide +kernel))) rfl)⟩, wv_M8_month, ws_M8_month, _, rfl, rfl⟩
theorem lk_8_88 : Cond.constantLong "RoadCountsModel" 88 (12) ∈ z_T := (z_inT (List.mem_append_right _ (List.mem_of_getElem? (i := 614) (by decide +kernel))) rfl)
theorem lm_L_26 : z_MV "RoadCountsLaw" 26 M8_holiday 1 8 := ⟨⟨wc_M8_holiday, wi_8, ⟨by decide +kernel, by decide +kernel⟩, by decide +kernel, Or.inl (z_inT (List.mem_append_right _ (List.mem_of_getElem? (i := 615) (by decide +kernel))) rfl)⟩, wv_M8_holiday, ws_M8_holiday, _, rfl, rfl⟩
theorem lk_8_90 : Cond.constantLong "RoadCountsModel" 90 (363) ∈ z_T := (z_inT (List.mem_append_right _ (List.mem_of_getElem? (i := 619) (by decide +kernel))) rfl)
theorem lm_L_102 : z_MV "RoadCountsLaw" 102 M8_whole 1 8 := ⟨⟨wc_M8_whole, wi_8, ⟨by decide +kernel, by decide +kernel⟩, by decide +kernel, Or.inl (z_inT (List.mem_append_right _ (List.mem_of_getElem? (i := 620) (by decide +kernel))) rfl)⟩, wv_M8_whole, ws_M8_whole, _, rfl, rfl⟩
theorem lm_8_99 : z_MV "RoadCountsModel" 99 M8_wholeOf 1 8 := ⟨⟨wc_M8_wholeOf, wi_8, ⟨by decide +kernel, by decide +kernel⟩, by decide +kernel, Or.inl (z_inT (List.mem_append_right _ (List.mem_of_getElem? (i := 624) (by decide +kernel))) rfl)⟩, wv_M8_wholeOf, ws_M8_wholeOf, _, rfl, rfl⟩
theorem lm_8_95 : z_MV "RoadCountsModel" 95 M8_share 2 8 := ⟨⟨wc_M8_share, wi_8, ⟨by decide +kernel, by decide +kernel⟩, by decide +kernel, Or.inl (z_inT (List.mem_append_right _ (List.mem_of_getElem? (i := 628) (by decide +kernel))) rfl)⟩, wv_M8_share, ws_M8_share, _, rfl, rfl⟩
theorem lk_8_103 : Cond.constantLong "RoadCountsModel" 103 (-1) ∈ z_T := (z_inT (List.mem_append_right _ (List.mem_of_getElem? (i := 632) (by decide +kernel))) rfl)
theorem lm_L_31 : z_MV "RoadCountsLaw" 31 M8_road 3 8 := ⟨⟨wc_M8_road, wi_8, ⟨by decide +kernel, by decide +kernel⟩, by decide +kernel, Or.inl (z_inT (List.mem_append_right _ (List.mem_of_getElem? (i := 633) (by decide +kernel))) rfl)⟩, wv_M8_road, ws_M8_road, _, rfl, rfl⟩
theorem lm_8_107 : z_MS "RoadCountsModel" 107 M8_isEnd 1 := ⟨⟨wc_M8_isEnd, wi_8, ⟨by decide +kernel, by decide +kernel⟩, by decide +kernel, Or.inl (z_inT (List.mem_append_right _ (List.mem_of_getElem? (i := 637) (by decide +kernel))) rfl)⟩, wt_M8_isEnd⟩
theorem lk_8_105 : Cond.constantLong "RoadCountsModel" 105 (7) ∈ z_T := (z_inT (List.mem_append_right _ (List.mem_of_getElem? (i := 640) (by decide +kernel))) rfl)
theorem lk_8_110 : Cond.constantLong "RoadCountsModel" 110 (9999) ∈ z_T := (z_inT (List.mem_append_right _ (List.mem_of_getElem? (i := 641) (by decide +kernel))) rfl)
theorem lm_L_36 : z_MV "RoadCountsLaw" 36 M8_shape 2 8 := ⟨⟨wc_M8_shape, wi_8, ⟨by decide +kernel, by decide +kernel⟩, by decide +kernel, Or.inl (z_inT (List.mem_append_right _ (List.mem_of_getElem? (i := 642) (by decide +kernel))) rfl)⟩, wv_M8_shape, ws_M8_shape, _, rfl, rfl⟩
theorem lm_8_112 : z_MV "RoadCountsModel" 112 M8_isRoad 1 8 := ⟨⟨wc_M8_isRoad, wi_8, ⟨by decide +kernel, by decide +kernel⟩, by decide +kernel, Or.inl (z_inT (List.mem_append_right _ (List.mem_of_getElem? (i := 646) (by decide +kernel))) rfl)⟩, wv_M8_isRoad, ws_M8_isRoad, _, rfl, rfl⟩
theorem lm_L_40 : z_MV "RoadCountsLaw" 40 M8_count 3 8 := ⟨⟨wc_M8_count, wi_8, ⟨by decide +kernel, by decide +kernel⟩, by decide +kernel, Or.inl (z_inT (List.mem_append_right _ (List.mem_of_getElem? (i := 650) (by decide +kernel))) rfl)⟩, wv_M8_count, ws_M8_count, _, rfl, rfl⟩
theorem lk_8_115 : Cond.constantLong "RoadCountsModel" 115 (100000) ∈ z_T := (z_inT (List.mem_append_right _ (List.mem_of_getElem? (i := 654) (by decide +kernel))) rfl)
theorem lm_L_45 : z_MV "RoadCountsLaw" 45 M8_year 1 8 := ⟨⟨wc_M8_year, wi_8, ⟨by decide +kernel, by decide +kernel⟩, by decide +kernel, Or.inl (z_inT (List.mem_append_right _ (List.mem_of_getElem? (i := 655) (by decide +kernel))) rfl)⟩, wv_M8_year, ws_M8_year, _, rfl, rfl⟩
theorem lm_8_127 : z_MV "RoadCountsModel" 127 M8_usedOf 1 8 := ⟨⟨wc_M8_usedOf, wi_8, ⟨by decide +kernel, by decide +kernel⟩, by decide +kernel, Or.inl (z_inT (List.mem_append_right _ (List.mem_of_getElem? (i := 659) (by decide +kernel))) rfl)⟩, wv_M8_usedOf, ws_M8_usedOf, _, rfl, rfl⟩
theorem lm_8_117 : z_MV "RoadCountsModel" 117 M8_isUsed 2 8 := ⟨⟨wc_M8_isUsed, wi_8, ⟨by decide +kernel, by decide +kernel⟩, by decide +kernel, Or.inl (z_inT (List.mem_append_right _ (List.mem_of_getElem? (i := 663) (by decide +kernel))) rfl)⟩, wv_M8_isUsed, ws_M8_isUsed, _, rfl, rfl⟩
theorem lm_8_131 : z_MV "RoadCountsModel" 131 M8_yearOf 1 8 := ⟨⟨wc_M8_yearOf, wi_8, ⟨by decide +kernel, by decide +kernel⟩, by decide +kernel, Or.inl (z_inT (List.mem_append_right _ (List.mem_of_getElem? (i := 667) (by decide +kernel))) rfl)⟩, wv_M8_yearOf, ws_M8_yearOf, _, rfl, rfl⟩
theorem lm_8_121 : z_MV "RoadCountsModel" 121 M8_countsOf 1 8 := ⟨⟨wc_M8_countsOf, wi_8, ⟨by decide +kernel, by decide +kernel⟩, by decide +kernel, Or.inl (z_inT (List.mem_append_right _ (List.mem_of_getElem? (i := 671) (by decide +kernel))) rfl)⟩, wv_M8_countsOf, ws_M8_countsOf, _, rfl, rfl⟩
theorem lm_8_124 : z_MV "RoadCountsModel" 124 M8_sharesOf 2 8 := ⟨⟨wc_M8_sharesOf, wi_8, ⟨by decide +kernel, by decide +kernel⟩, by decide +kernel, Or.inl (z_inT (List.mem_append_right _ (List.mem_of_getElem? (i := 675) (by decide +kernel))) rfl)⟩, wv_M8_sharesOf, ws_M8_sharesOf, _, rfl, rfl⟩
theorem lm_L_50 : z_MV "RoadCountsLaw" 50 M8_span 2 8 := ⟨⟨wc_M8_span, wi_8, ⟨by decide +kernel, by decide +kernel⟩, by decide +kernel, Or.inl (z_inT (List.mem_append_right _ (List.mem_of_getElem? (i := 679) (by decide +kernel))) rfl)⟩, wv_M8_span, ws_M8_span, _, rfl, rfl⟩
theorem lm_L_55 : z_MV "RoadCountsLaw" 55 M8_best 1 8 := ⟨⟨wc_M8_best, wi_8, ⟨by decide +kernel, by decide +kernel⟩, by decide +kernel, Or.inl (z_inT (List.mem_append_right _ (List.mem_of_getElem? (i := 683) (by decide +kernel))) rfl)⟩, wv_M8_best, ws_M8_best, _, rfl, rfl⟩
theorem lm_8_138 : z_MV "RoadCountsModel" 138 M8_misfit 2 8 := ⟨⟨wc_M8_misfit, wi_8, ⟨by decide +kernel, by decide +kernel⟩, by decide +kernel, Or.inl (z_inT (List.mem_append_right _ (List.mem_of_getElem? (i := 687) (by decide +kernel))) rfl)⟩, wv_M8_misfit, ws_M8_misfit, _, rfl, rfl⟩
theorem lm_8_134 : z_MS "RoadCountsModel" 134 M8_size 1 := ⟨⟨wc_M8_size, wi_8, ⟨by decide +kernel, by decide +kernel⟩, by decide +kernel, Or.inl (z_inT (List.mem_append_right _ (List.mem_of_getElem? (i := 691) (by decide +kernel))) rfl)⟩, wt_M8_size⟩
theorem lm_L_59 : z_MV "RoadCountsLaw" 59 M8_how 1 8 := ⟨⟨wc_M8_how, wi_8, ⟨by decide +kernel, by decide +kernel⟩, by decide +kernel, Or.inl (z_inT (List.mem_append_right _ (List.mem_of_getElem? (i := 694) (by decide +kernel))) rfl)⟩, wv_M8_how, ws_M8_how, _, rfl, rfl⟩
theorem lm_8_153 : z_MV "RoadCountsModel" 153 M8_knownRoads 0 8 := ⟨⟨wc_M8_knownRoads, wi_8, ⟨by decide +kernel, by decide +kernel⟩, by decide +kernel, Or.inl (z_inT (List.mem_append_right _ (List.mem_of_getElem? (i := 698) (by decide +kernel))) rfl)⟩, wv_M8_knownRoads, ws_M8_knownRoads, _, rfl, rfl⟩
theorem lm_8_141 : z_MS "RoadCountsModel" 141 M8_has 2 := ⟨⟨wc_M8_has, wi_8, ⟨by decide +kernel, by decide +kernel⟩, by decide +kernel, Or.inl (z_inT (List.mem_append_right _ (List.mem_of_getElem? (i := 702) (by decide +kernel))) rfl)⟩, wt_M8_has⟩
theorem lm_8_160 : z_MV "RoadCountsModel" 160 M8_works 0 8 := ⟨⟨wc_M8_works, wi_8, ⟨by decide +kernel, by decide +kernel⟩, by decide +kernel, Or.inl (z_inT (List.mem_append_right _ (List.mem_of_getElem? (i := 705) (by decide +kernel))) rfl)⟩, wv_M8_works, ws_M8_works, _, rfl, rfl⟩
theorem lm_8_157 : z_MV "RoadCountsModel" 157 M8_grows 1 8 := ⟨⟨wc_M8_grows, wi_8, ⟨by decide +kernel, by decide +kernel⟩, by decide +kernel, Or.inl (z_inT (List.mem_append_right _ (List.mem_of_getElem? (i := 709) (by decide +kernel))) rfl)⟩, wv_M8_grows, ws_M8_grows, _, rfl, rfl⟩
theorem lm_8_144 : z_MV "RoadCountsModel" 144 M8_roadsAt 1 8 := ⟨⟨wc_M8_roadsAt, wi_8, ⟨by decide +kernel, by decide +kernel⟩, by decide +kernel, Or.inl (z_inT (List.mem_append_right _ (List.mem_of_getElem? (i := 713) (by decide +kernel))) rfl)⟩, wv_M8_roadsAt, ws_M8_roadsAt, _, rfl, rfl⟩
theorem lm_8_147 : z_MS "RoadCountsModel" 147 M8_sizeOf 1 := ⟨⟨wc_M8_sizeOf, wi_8, ⟨by decide +kernel, by decide +kernel⟩, by decide +kernel, Or.inl (z_inT (List.mem_append_right _ (List.mem_of_getElem? (i := 717) (by decide +kernel))) rfl)⟩, wt_M8_sizeOf⟩
theorem lm_8_150 : z_MV "RoadCountsModel" 150 M8_excess 2 8 := ⟨⟨wc_M8_excess, wi_8, ⟨by decide +kernel, by decide +kernel⟩, by decide +kernel, Or.inl (z_inT (List.mem_append_right _ (List.mem_of_getElem? (i := 720) (by decide +kernel))) rfl)⟩, wv_M8_excess, ws_M8_excess, _, rfl, rfl⟩
theorem lm_L_63 : z_MV "RoadCountsLaw" 63 M8_load 1 8 := ⟨⟨wc_M8_load, wi_8, ⟨by decide +kernel, by decide +kernel⟩, by decide +kernel, Or.inl (z_inT (List.mem_append_right _ (List.mem_of_getElem? (i := 724) (by decide +kernel))) rfl)⟩, wv_M8_load, ws_M8_load, _, rfl, rfl⟩
theorem lm_L_67 : z_MV "RoadCountsLaw" 67 M8_balances 1 8 := ⟨⟨wc_M8_balances, wi_8, ⟨by decide +kernel, by decide +kernel⟩, by decide +kernel, Or.inl (z_inT (List.mem_append_right _ (List.mem_of_getElem? (i := 728) (by decide +kernel))) rfl)⟩, wv_M8_balances, ws_M8_balances, _, rfl, rfl⟩
theorem lm_8_163 : z_MV "RoadCountsModel" 163 M8_isBalanced 2 8 := ⟨⟨wc_M8_isBalanced, wi_8, ⟨by decide +kernel, by decide +kernel⟩, by decide +kernel, Or.inl (z_inT (List.mem_append_right _ (List.mem_of_getElem? (i := 732) (by decide +kernel))) rfl)⟩, wv_M8_isBalanced, ws_M8_isBalanced, _, rfl, rfl⟩
theorem lm_L_71 : z_MV "RoadCountsLaw" 71 M8_balance 1 8 := ⟨⟨wc_M8_balance, wi_8, ⟨by decide +kernel, by decide +kernel⟩, by decide +kernel, Or.inl (z_inT (List.mem_append_right _ (List.mem_of_getElem? (i := 736) (by decide +kernel))) rfl)⟩, wv_M8_balance, ws_M8_balance, _, rfl, rfl⟩
theorem lm_L_75 : z_MV "RoadCountsLaw" 75 M8_does 1 8 := ⟨⟨wc_M8_does, wi_8, ⟨by decide +kernel, by decide +kernel⟩, by decide +kernel, Or.inl (z_inT (List.mem_append_right _ (List.mem_of_getElem? (i := 740) (by decide +kernel))) rfl)⟩, wv_M8_does, ws_M8_does, _, rfl, rfl⟩
theorem lm_8_166 : z_MV "RoadCountsModel" 166 M8_lists 0 8 := ⟨⟨wc_M8_lists, wi_8, ⟨by decide +kernel, by decide +kernel⟩, by decide +kernel, Or.inl (z_inT (List.mem_append_right _ (List.mem_of_getElem? (i := 744) (by decide +kernel))) rfl)⟩, wv_M8_lists, ws_M8_lists, _, rfl, rfl⟩
theorem lm_8_169 : z_MV "RoadCountsModel" 169 M8_doAll 1 8 := ⟨⟨wc_M8_doAll, wi_8, ⟨by decide +kernel, by decide +kernel⟩, by decide +kernel, Or.inl (z_inT (List.mem_append_right _ (List.mem_of_getElem? (i := 748) (by decide +kernel))) rfl)⟩, wv_M8_doAll, ws_M8_doAll, _, rfl, rfl⟩
theorem lm_L_80 : z_MV "RoadCountsLaw" 80 M8_plan 0 8 := ⟨⟨wc_M8_plan, wi_8, ⟨by decide +kernel, by decide +kernel⟩, by decide +kernel, Or.inl (z_inT (List.mem_append_right _ (List.mem_of_getElem? (i := 752) (by decide +kernel))) rfl)⟩, wv_M8_plan, ws_M8_plan, _, rfl, rfl⟩
theorem lm_L_85 : z_MV "RoadCountsLaw" 85 M8_feed 5 8 := ⟨⟨wc_M8_feed, wi_8, ⟨by decide +kernel, by decide +kernel⟩, by decide +kernel, Or.inl (z_inT (List.mem_append_right _ (List.mem_of_getElem? (i := 756) (by decide +kernel))) rfl)⟩, wv_M8_feed, ws_M8_feed, _, rfl, rfl⟩
theorem lm_8_175 : z_MV "RoadCountsModel" 175 M8_push 1 8 := ⟨⟨wc_M8_push, wi_8, ⟨by decide +kernel, by decide +kernel⟩, by decide +kernel, Or.inl (z_inT (List.mem_append_right _ (List.mem_of_getElem? (i := 760) (by decide +kernel))) rfl)⟩, wv_M8_push, ws_M8_push, _, rfl, rfl⟩
theorem lm_L_89 : z_MV "RoadCountsLaw" 89 M8_rules 1 8 := ⟨⟨wc_M8_rules, wi_8, ⟨by decide +kernel, by decide +kernel⟩, by decide +kernel, Or.inl (z_inT (List.mem_append_right _ (List.mem_of_getElem? (i := 764) (by decide +kernel))) rfl)⟩, wv_M8_rules, ws_M8_rules, _, rfl, rfl⟩
theorem lm_8_212 : z_MV "RoadCountsModel" 212 M8_clause 0 8 := ⟨⟨wc_M8_clause, wi_8, ⟨by decide +kernel, by decide +kernel⟩, by decide +kernel, Or.inl (z_inT (List.mem_append_right _ (List.mem_of_getElem? (i := 768) (by decide +kernel))) rfl)⟩, wv_M8_clause, ws_M8_clause, _, rfl, rfl⟩
theorem lm_8_195 : z_MV "RoadCountsModel" 195 M8_seesDigit 0 8 := ⟨⟨wc_M8_seesDigit, wi_8, ⟨by decide +kernel, by decide +kernel⟩, by decide +kernel, Or.inl (z_inT (List.mem_append_right _ (List.mem_of_getElem? (i := 772) (by decide +kernel))) rfl)⟩, wv_M8_seesDigit, ws_M8_seesDigit, _, rfl, rfl⟩
theorem lm_8_188 : z_MV "RoadCountsModel" 188 M8_here 0 8 := ⟨⟨wc_M8_here, wi_8, ⟨by decide +kernel, by decide +kernel⟩, by decide +kernel, Or.inl (z_inT (List.mem_append_right _ (List.mem_of_getElem? (i := 776) (by decide +kernel))) rfl)⟩, wv_M8_here, ws_M8_here, _, rfl, rfl⟩
theorem lk_8_191 : Cond.constantLong "RoadCountsModel" 191 (48) ∈ z_T := (z_inT (List.mem_append_right _ (List.mem_of_getElem? (i := 780) (by decide +kernel))) rfl)
theorem lk_8_193 : Cond.constantLong "RoadCountsModel" 193 (57) ∈ z_T := (z_inT (List.mem_append_right _ (List.mem_of_getElem? (i := 781) (by decide +kernel))) rfl)
theorem lm_8_199 : z_MV "RoadCountsModel" 199 M8_fails 2 8 := ⟨⟨wc_M8_fails, wi_8, ⟨by decide +kernel, by decide +kernel⟩, by decide +kernel, Or.inl (z_inT (List.mem_append_right _ (List.mem_of_getElem? (i := 782) (by decide +kernel))) rfl)⟩, wv_M8_fails, ws_M8_fails, _, rfl, rfl⟩
theorem lm_8_206 : z_MV "RoadCountsModel" 206 M8_must 1 8 := ⟨⟨wc_M8_must, wi_8, ⟨by decide +kernel, by decide +kernel⟩, by decide +kernel, Or.inl (z_inT (List.mem_append_right _ (List.mem_of_getElem? (i := 786) (by decide +kernel))) rfl)⟩, wv_M8_must, ws_M8_must, _, rfl, rfl⟩
theorem lm_8_209 : z_MV "RoadCountsModel" 209 M8_number 1 8 := ⟨⟨wc_M8_number, wi_8, ⟨by decide +kernel, by decide +kernel⟩, by decide +kernel, Or.inl (z_inT (List.mem_append_right _ (List.mem_of_getElem? (i := 790) (by decide +kernel))) rfl)⟩, wv_M8_number, ws_M8_number, _, rfl, rfl⟩
theorem lm_L_94 : z_MV "RoadCountsLaw" 94 M8_pass 2 8 := ⟨⟨wc_M8_pass, wi_8, ⟨by decide +kernel, by decide +kernel⟩, by decide +kernel, Or.inl (z_inT (List.mem_append_right _ (List.mem_of_getElem? (i := 794) (by decide +kernel))) rfl)⟩, wv_M8_pass, ws_M8_pass, _, rfl, rfl⟩
theorem lm_8_218 : z_MV "RoadCountsModel" 218 M8_kindOf 2 8 := ⟨⟨wc_M8_kindOf, wi_8, ⟨by decide +kernel, by decide +kernel⟩, by decide +kernel, Or.inl (z_inT (List.mem_append_right _ (List.mem_of_getElem? (i := 798) (by decide +kernel))) rfl)⟩, wv_M8_kindOf, ws_M8_kindOf, _, rfl, rfl⟩
theorem lm_L_98 : z_MV "RoadCountsLaw" 98 M8_kinds 2 8 := ⟨⟨wc_M8_kinds, wi_8, ⟨by decide +kernel, by decide +kernel⟩, by decide +kernel, Or.inl (z_inT (List.mem_append_right _ (List.mem_of_getElem? (i := 802) (by decide +kernel))) rfl)⟩, wv_M8_kinds, ws_M8_kinds, _, rfl, rfl⟩
theorem lk_8_222 : Cond.constantLong "RoadCountsModel" 222 (9) ∈ z_T := (z_inT (List.mem_append_right _ (List.mem_of_getElem? (i := 806) (by decide +kernel))) rfl)
theorem lm_L_106 : z_MV "RoadCountsLaw" 106 M8_look 2 8 := ⟨⟨wc_M8_look, wi_8, ⟨by decide +kernel, by decide +kernel⟩, by decide +kernel, Or.inl (z_inT (List.mem_append_right _ (List.mem_of_getElem? (i := 807) (by decide +kernel))) rfl)⟩, wv_M8_look, ws_M8_look, _, rfl, rfl⟩
theorem lk_8_224 : Cond.constantLong "RoadCountsModel" 224 (100) ∈ z_T := (z_inT (List.mem_append_right _ (List.mem_of_getElem? (i := 811) (by decide +kernel))) rfl)
theorem lk_8_226 : Cond.constantLong "RoadCountsModel" 226 (463) ∈ z_T := (z_inT (List.mem_append_right _ (List.mem_of_getElem? (i := 812) (by decide +kernel))) rfl)
theorem lm_L_110 : z_MV "RoadCountsLaw" 110 M8_tell 1 8 := ⟨⟨wc_M8_tell, wi_8, ⟨by decide +kernel, by decide +kernel⟩, by decide +kernel, Or.inl (z_inT (List.mem_append_right _ (List.mem_of_getElem? (i := 813) (by decide +kernel))) rfl)⟩, wv_M8_tell, ws_M8_tell, _, rfl, rfl⟩
