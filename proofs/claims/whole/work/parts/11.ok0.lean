set_option maxRecDepth 100000 in
theorem q1_J6_bitCount_0f7a4 : mQ1 mt_J6_bitCount_0f7a4 := ⟨by decide +kernel, by decide +kernel, by decide +kernel, by decide +kernel⟩
set_option maxRecDepth 100000 in
theorem q2_J6_bitCount_0f7a4 : mQ2 mt_J6_bitCount_0f7a4 := Or.inr ⟨mGw_of (i := 134) (by decide +kernel) (by decide +kernel), by decide +kernel, Or.inl (by decide +kernel), by decide +kernel, by decide, Or.inl ⟨rfl, mGw_of (i := 531) (by decide +kernel) (by decide +kernel), by decide +kernel⟩⟩
set_option maxRecDepth 100000 in
theorem q1_J9_floorMod_7cf53 : mQ1 mt_J9_floorMod_7cf53 := ⟨by decide +kernel, by decide +kernel, by decide +kernel, by decide +kernel⟩
set_option maxRecDepth 100000 in
theorem q2_J9_floorMod_7cf53 : mQ2 mt_J9_floorMod_7cf53 := Or.inr ⟨mGw_of (i := 142) (by decide +kernel) (by decide +kernel), by decide +kernel, Or.inr rfl, by decide +kernel, by decide, Or.inl ⟨rfl, mGw_of (i := 1485) (by decide +kernel) (by decide +kernel), by decide +kernel⟩⟩
set_option maxRecDepth 100000 in
theorem q1_X0_copyFrom : mQ1 mt_X0_copyFrom := ⟨by decide +kernel, by decide +kernel, by decide +kernel, by decide +kernel⟩
set_option maxRecDepth 100000 in
theorem q2_X0_copyFrom : mQ2 mt_X0_copyFrom := Or.inr ⟨mGw_of (i := 122) (by decide +kernel) (by decide +kernel), by decide +kernel, Or.inl (by decide +kernel), by decide +kernel, by decide, Or.inr ⟨by decide, mGw_of (i := 732) (by decide +kernel) (by decide +kernel), mGw_of (i := 733) (by decide +kernel) (by decide +kernel), by decide +kernel, by decide +kernel⟩⟩
set_option maxRecDepth 100000 in
theorem q1_X0_clear : mQ1 mt_X0_clear := ⟨by decide +kernel, by decide +kernel, by decide +kernel, by decide +kernel⟩
set_option maxRecDepth 100000 in
theorem q2_X0_clear : mQ2 mt_X0_clear := Or.inr ⟨mGw_of (i := 122) (by decide +kernel) (by decide +kernel), by decide +kernel, Or.inl (by decide +kernel), by decide +kernel, by decide, Or.inr ⟨by decide, mGw_of (i := 1005) (by decide +kernel) (by decide +kernel), mGw_of (i := 1006) (by decide +kernel) (by decide +kernel), by decide +kernel, by decide +kernel⟩⟩
set_option maxRecDepth 100000 in
theorem q1_X0_addStep : mQ1 mt_X0_addStep := ⟨by decide +kernel, by decide +kernel, by decide +kernel, by decide +kernel⟩
set_option maxRecDepth 100000 in
theorem q2_X0_addStep : mQ2 mt_X0_addStep := Or.inr ⟨mGw_of (i := 122) (by decide +kernel) (by decide +kernel), by decide +kernel, Or.inl (by decide +kernel), by decide +kernel, by decide, Or.inr ⟨by decide, mGw_of (i := 1030) (by decide +kernel) (by decide +kernel), mGw_of (i := 1031) (by decide +kernel) (by decide +kernel), by decide +kernel, by decide +kernel⟩⟩
set_option maxRecDepth 100000 in
theorem q1_X0_endLine : mQ1 mt_X0_endLine := ⟨by decide +kernel, by decide +kernel, by decide +kernel, by decide +kernel⟩
set_option maxRecDepth 100000 in
theorem q2_X0_endLine : mQ2 mt_X0_endLine := Or.inr ⟨mGw_of (i := 122) (by decide +kernel) (by decide +kernel), by decide +kernel, Or.inl (by decide +kernel), by decide +kernel, by decide, Or.inr ⟨by decide, mGw_of (i := 1054) (by decide +kernel) (by decide +kernel), mGw_of (i := 1055) (by decide +kernel) (by decide +kernel), by decide +kernel, by decide +kernel⟩⟩
set_option maxRecDepth 100000 in
theorem q1_X0_amountOf : mQ1 mt_X0_amountOf := ⟨by decide +kernel, by decide +kernel, by decide +kernel, by decide +kernel⟩
set_option maxRecDepth 100000 in
theorem q2_X0_amountOf : mQ2 mt_X0_amountOf := Or.inr ⟨mGw_of (i := 122) (by decide +kernel) (by decide +kernel), by decide +kernel, Or.inl (by decide +kernel), by decide +kernel, by decide, Or.inr ⟨by decide, mGw_of (i := 681) (by decide +kernel) (by decide +kernel), mGw_of (i := 682) (by decide +kernel) (by decide +kernel), by decide +kernel, by decide +kernel⟩⟩
set_option maxRecDepth 100000 in
theorem q1_X0_untold : mQ1 mt_X0_untold := ⟨by decide +kernel, by decide +kernel, by decide +kernel, by decide +kernel⟩
set_option maxRecDepth 100000 in
theorem q2_X0_untold : mQ2 mt_X0_untold := Or.inr ⟨mGw_of (i := 122) (by decide +kernel) (by decide +kernel), by decide +kernel, Or.inl (by decide +kernel), by decide +kernel, by decide, Or.inl ⟨rfl, mGw_of (i := 685) (by decide +kernel) (by decide +kernel), by decide +kernel⟩⟩
set_option maxRecDepth 100000 in
theorem q1_X0_holdsFor : mQ1 mt_X0_holdsFor := ⟨by decide +kernel, by decide +kernel, by decide +kernel, by decide +kernel⟩
set_option maxRecDepth 100000 in
theorem q2_X0_holdsFor : mQ2 mt_X0_holdsFor := Or.inr ⟨mGw_of (i := 122) (by decide +kernel) (by decide +kernel), by decide +kernel, Or.inl (by decide +kernel), by decide +kernel, by decide, Or.inr ⟨by decide, mGw_of (i := 691) (by decide +kernel) (by decide +kernel), mGw_of (i := 8) (by decide +kernel) (by decide +kernel), by decide +kernel, by decide +kernel⟩⟩
set_option maxRecDepth 100000 in
theorem q1_X0_ofTwo : mQ1 mt_X0_ofTwo := ⟨by decide +kernel, by decide +kernel, by decide +kernel, by decide +kernel⟩
set_option maxRecDepth 100000 in
theorem q2_X0_ofTwo : mQ2 mt_X0_ofTwo := Or.inr ⟨mGw_of (i := 122) (by decide +kernel) (by decide +kernel), by decide +kernel, Or.inl (by decide +kernel), by decide +kernel, by decide, Or.inl ⟨rfl, mGw_of (i := 697) (by decide +kernel) (by decide +kernel), by decide +kernel⟩⟩
set_option maxRecDepth 100000 in
theorem q1_X0_ofOne : mQ1 mt_X0_ofOne := ⟨by decide +kernel, by decide +kernel, by decide +kernel, by decide +kernel⟩
set_option maxRecDepth 100000 in
theorem q2_X0_ofOne : mQ2 mt_X0_ofOne := Or.inr ⟨mGw_of (i := 122) (by decide +kernel) (by decide +kernel), by decide +kernel, Or.inl (by decide +kernel), by decide +kernel, by decide, Or.inl ⟨rfl, mGw_of (i := 700) (by decide +kernel) (by decide +kernel), by decide +kernel⟩⟩
set_option maxRecDepth 100000 in
theorem q1_X1_read : mQ1 mt_X1_read := ⟨by decide +kernel, by decide +kernel, by decide +kernel, by decide +kernel⟩
set_option maxRecDepth 100000 in
theorem q2_X1_read : mQ2 mt_X1_read := Or.inr ⟨mGw_of (i := 140) (by decide +kernel) (by decide +kernel), by decide +kernel, Or.inl (by decide +kernel), by decide +kernel, by decide, Or.inl ⟨rfl, mGw_of (i := 1001) (by decide +kernel) (by decide +kernel), by decide +kernel⟩⟩
set_option maxRecDepth 100000 in
theorem q1_X1_readLine : mQ1 mt_X1_readLine := ⟨by decide +kernel, by decide +kernel, by decide +kernel, by decide +kernel⟩
set_option maxRecDepth 100000 in
theorem q2_X1_readLine : mQ2 mt_X1_readLine := Or.inr ⟨mGw_of (i := 140) (by decide +kernel) (by decide +kernel), by decide +kernel, Or.inl (by decide +kernel), by decide +kernel, by decide, Or.inl ⟨rfl, mGw_of (i := 1010) (by decide +kernel) (by decide +kernel), by decide +kernel⟩⟩
set_option maxRecDepth 100000 in
theorem q1_X1_readAny : mQ1 mt_X1_readAny := ⟨by decide +kernel, by decide +kernel, by decide +kernel, by decide +kernel⟩
set_option maxRecDepth 100000 in
theorem q2_X1_readAny : mQ2 mt_X1_readAny := Or.inr ⟨mGw_of (i := 140) (by decide +kernel) (by decide +kernel), by decide +kernel, Or.inl (by decide +kernel), by decide +kernel, by decide, Or.inl ⟨rfl, mGw_of (i := 1020) (by decide +kernel) (by decide +kernel), by decide +kernel⟩⟩
set_option maxRecDepth 100000 in
theorem q1_X1_readAll : mQ1 mt_X1_readAll := ⟨by decide +kernel, by decide +kernel, by decide +kernel, by decide +kernel⟩
set_option maxRecDepth 100000 in
theorem q2_X1_readAll : mQ2 mt_X1_readAll := Or.inr ⟨mGw_of (i := 140) (by decide +kernel) (by decide +kernel), by decide +kernel, Or.inl (by decide +kernel), by decide +kernel, by decide, Or.inl ⟨rfl, mGw_of (i := 1023) (by decide +kernel) (by decide +kernel), by decide +kernel⟩⟩
set_option maxRecDepth 100000 in
theorem q1_X1_readAtom : mQ1 mt_X1_readAtom := ⟨by decide +kernel, by decide +kernel, by decide +kernel, by decide +kernel⟩
set_option maxRecDepth 100000 in
theorem q2_X1_readAtom : mQ2 mt_X1_readAtom := Or.inr ⟨mGw_of (i := 140) (by decide +kernel) (by decide +kernel), by decide +kernel, Or.inl (by decide +kernel), by decide +kernel, by decide, Or.inl ⟨rfl, mGw_of (i := 1026) (by decide +kernel) (by decide +kernel), by decide +kernel⟩⟩
set_option maxRecDepth 100000 in
theorem q1_X1_readSum : mQ1 mt_X1_readSum := ⟨by decide +kernel, by decide +kernel, by decide +kernel, by decide +kernel⟩
set_option maxRecDepth 100000 in
theorem q2_X1_readSum : mQ2 mt_X1_readSum := Or.inr ⟨mGw_of (i := 140) (by decide +kernel) (by decide +kernel), by decide +kernel, Or.inl (by decide +kernel), by decide +kernel, by decide, Or.inl ⟨rfl, mGw_of (i := 1039) (by decide +kernel) (by decide +kernel), by decide +kernel⟩⟩
set_option maxRecDepth 100000 in
theorem q1_X1_readPart : mQ1 mt_X1_readPart := ⟨by decide +kernel, by decide +kernel, by decide +kernel, by decide +kernel⟩
set_option maxRecDepth 100000 in
theorem q2_X1_readPart : mQ2 mt_X1_readPart := Or.inr ⟨mGw_of (i := 140) (by decide +kernel) (by decide +kernel), by decide +kernel, Or.inl (by decide +kernel), by decide +kernel, by decide, Or.inl ⟨rfl, mGw_of (i := 1042) (by decide +kernel) (by decide +kernel), by decide +kernel⟩⟩
set_option maxRecDepth 100000 in
theorem q1_X2_copyFrom : mQ1 mt_X2_copyFrom := ⟨by decide +kernel, by decide +kernel, by decide +kernel, by decide +kernel⟩
set_option maxRecDepth 100000 in
theorem q2_X2_copyFrom : mQ2 mt_X2_copyFrom := Or.inr ⟨mGw_of (i := 121) (by decide +kernel) (by decide +kernel), by decide +kernel, Or.inl (by decide +kernel), by decide +kernel, by decide, Or.inr ⟨by decide, mGw_of (i := 560) (by decide +kernel) (by decide +kernel), mGw_of (i := 561) (by decide +kernel) (by decide +kernel), by decide +kernel, by decide +kernel⟩⟩
set_option maxRecDepth 100000 in
theorem q1_X2_add : mQ1 mt_X2_add := ⟨by decide +kernel, by decide +kernel, by decide +kernel, by decide +kernel⟩
set_option maxRecDepth 100000 in
theorem q2_X2_add : mQ2 mt_X2_add := Or.inr ⟨mGw_of (i := 121) (by decide +kernel) (by decide +kernel), by decide +kernel, Or.inl (by decide +kernel), by decide +kernel, by decide, Or.inr ⟨by decide, mGw_of (i := 578) (by decide +kernel) (by decide +kernel), mGw_of (i := 579) (by decide +kernel) (by decide +kernel), by decide +kernel, by decide +kernel⟩⟩
set_option maxRecDepth 100000 in
theorem q1_X2_at : mQ1 mt_X2_at := ⟨by decide +kernel, by decide +kernel, by decide +kernel, by decide +kernel⟩
set_option maxRecDepth 100000 in
theorem q2_X2_at : mQ2 mt_X2_at := Or.inr ⟨mGw_of (i := 121) (by decide +kernel) (by decide +kernel), by decide +kernel, Or.inl (by decide +kernel), by decide +kernel, by decide, Or.inr ⟨by decide, mGw_of (i := 1481) (by decide +kernel) (by decide +kernel), mGw_of (i := 1482) (by decide +kernel) (by decide +kernel), by decide +kernel, by decide +kernel⟩⟩
set_option maxRecDepth 100000 in
theorem q1_X2_rowsOf : mQ1 mt_X2_rowsOf := ⟨by decide +kernel, by decide +kernel, by decide +kernel, by decide +kernel⟩
set_option maxRecDepth 100000 in
theorem q2_X2_rowsOf : mQ2 mt_X2_rowsOf := Or.inr ⟨mGw_of (i := 121) (by decide +kernel) (by decide +kernel), by decide +kernel, Or.inl (by decide +kernel), by decide +kernel, by decide, Or.inr ⟨by decide, mGw_of (i := 1488) (by decide +kernel) (by decide +kernel), mGw_of (i := 1489) (by decide +kernel) (by decide +kernel), by decide +kernel, by decide +kernel⟩⟩
set_option maxRecDepth 100000 in
theorem q1_X2_latestDay : mQ1 mt_X2_latestDay := ⟨by decide +kernel, by decide +kernel, by decide +kernel, by decide +kernel⟩
set_option maxRecDepth 100000 in
theorem q2_X2_latestDay : mQ2 mt_X2_latestDay := Or.inr ⟨mGw_of (i := 121) (by decide +kernel) (by decide +kernel), by decide +kernel, Or.inl (by decide +kernel), by decide +kernel, by decide, Or.inr ⟨by decide, mGw_of (i := 1477) (by decide +kernel) (by decide +kernel), mGw_of (i := 1478) (by decide +kernel) (by decide +kernel), by decide +kernel, by decide +kernel⟩⟩
set_option maxRecDepth 100000 in
theorem q1_X3_forget : mQ1 mt_X3_forget := ⟨by decide +kernel, by decide +kernel, by decide +kernel, by decide +kernel⟩
set_option maxRecDepth 100000 in
theorem q2_X3_forget : mQ2 mt_X3_forget := Or.inr ⟨mGw_of (i := 123) (by decide +kernel) (by decide +kernel), by decide +kernel, Or.inl (by decide +kernel), by decide +kernel, by decide, Or.inr ⟨by decide, mGw_of (i := 741) (by decide +kernel) (by decide +kernel), mGw_of (i := 742) (by decide +kernel) (by decide +kernel), by decide +kernel, by decide +kernel⟩⟩
set_option maxRecDepth 100000 in
theorem q1_X3_remember : mQ1 mt_X3_remember := ⟨by decide +kernel, by decide +kernel, by decide +kernel, by decide +kernel⟩
set_option maxRecDepth 100000 in
theorem q2_X3_remember : mQ2 mt_X3_remember := Or.inr ⟨mGw_of (i := 123) (by decide +kernel) (by decide +kernel), by decide +kernel, Or.inl (by decide +kernel), by decide +kernel, by decide, Or.inr ⟨by decide, mGw_of (i := 1120) (by decide +kernel) (by decide +kernel), mGw_of (i := 1121) (by decide +kernel) (by decide +kernel), by decide +kernel, by decide +kernel⟩⟩
set_option maxRecDepth 100000 in
theorem q1_X3_recall : mQ1 mt_X3_recall := ⟨by decide +kernel, by decide +kernel, by decide +kernel, by decide +kernel⟩
set_option maxRecDepth 100000 in
theorem q2_X3_recall : mQ2 mt_X3_recall := Or.inr ⟨mGw_of (i := 123) (by decide +kernel) (by decide +kernel), by decide +kernel, Or.inl (by decide +kernel), by decide +kernel, by decide, Or.inr ⟨by decide, mGw_of (i := 723) (by decide +kernel) (by decide +kernel), mGw_of (i := 724) (by decide +kernel) (by decide +kernel), by decide +kernel, by decide +kernel⟩⟩
set_option maxRecDepth 100000 in
theorem q1_X4_read : mQ1 mt_X4_read := ⟨by decide +kernel, by decide +kernel, by decide +kernel, by decide +kernel⟩
set_option maxRecDepth 100000 in
theorem q2_X4_read : mQ2 mt_X4_read := Or.inr ⟨mGw_of (i := 126) (by decide +kernel) (by decide +kernel), by decide +kernel, Or.inl (by decide +kernel), by decide +kernel, by decide, Or.inr ⟨by decide, mGw_of (i := 1258) (by decide +kernel) (by decide +kernel), mGw_of (i := 1259) (by decide +kernel) (by decide +kernel), by decide +kernel, by decide +kernel⟩⟩
set_option maxRecDepth 100000 in
theorem q1_X4_tellOne : mQ1 mt_X4_tellOne := ⟨by decide +kernel, by decide +kernel, by decide +kernel, by decide +kernel⟩
set_option maxRecDepth 100000 in
theorem q2_X4_tellOne : mQ2 mt_X4_tellOne := Or.inr ⟨mGw_of (i := 126) (by decide +kernel) (by decide +kernel), by decide +kernel, Or.inl (by decide +kernel), by decide +kernel, by decide, Or.inr ⟨by decide, mGw_of (i := 1266) (by decide +kernel) (by decide +kernel), mGw_of (i := 18) (by decide +kernel) (by decide +kernel), by decide +kernel, by decide +kernel⟩⟩
set_option maxRecDepth 100000 in
theorem q1_X4_standsAfter : mQ1 mt_X4_standsAfter := ⟨by decide +kernel, by decide +kernel, by decide +kernel, by decide +kernel⟩
set_option maxRecDepth 100000 in
theorem q2_X4_standsAfter : mQ2 mt_X4_standsAfter := Or.inr ⟨mGw_of (i := 126) (by decide +kernel) (by decide +kernel), by decide +kernel, Or.inl (by decide +kernel), by decide +kernel, by decide, Or.inr ⟨by decide, mGw_of (i := 1283) (by decide +kernel) (by decide +kernel), mGw_of (i := 21) (by decide +kernel) (by decide +kernel), by decide +kernel, by decide +kernel⟩⟩
set_option maxRecDepth 100000 in
theorem q1_X4_firstRows : mQ1 mt_X4_firstRows := ⟨by decide +kernel, by decide +kernel, by decide +kernel, by decide +kernel⟩
set_option maxRecDepth 100000 in
theorem q2_X4_firstRows : mQ2 mt_X4_firstRows := Or.inr ⟨mGw_of (i := 126) (by decide +kernel) (by decide +kernel), by decide +kernel, Or.inl (by decide +kernel), by decide +kernel, by decide, Or.inr ⟨by decide, mGw_of (i := 1297) (by decide +kernel) (by decide +kernel), mGw_of (i := 1298) (by decide +kernel) (by decide +kernel), by decide +kernel, by decide +kernel⟩⟩
set_option maxRecDepth 100000 in
theorem q1_X4_rowOf : mQ1 mt_X4_rowOf := ⟨by decide +kernel, by decide +kernel, by decide +kernel, by decide +kernel⟩
set_option maxRecDepth 100000 in
theorem q2_X4_rowOf : mQ2 mt_X4_rowOf := Or.inr ⟨mGw_of (i := 126) (by decide +kernel) (by decide +kernel), by decide +kernel, Or.inl (by decide +kernel), by decide +kernel, by decide, Or.inr ⟨by decide, mGw_of (i := 1269) (by decide +kernel) (by decide +kernel), mGw_of (i := 1270) (by decide +kernel) (by decide +kernel), by decide +kernel, by decide +kernel⟩⟩
set_option maxRecDepth 100000 in
theorem q1_X4_findGoesOn : mQ1 mt_X4_findGoesOn := ⟨by decide +kernel, by decide +kernel, by decide +kernel, by decide +kernel⟩
set_option maxRecDepth 100000 in
theorem q2_X4_findGoesOn : mQ2 mt_X4_findGoesOn := Or.inr ⟨mGw_of (i := 126) (by decide +kernel) (by decide +kernel), by decide +kernel, Or.inl (by decide +kernel), by decide +kernel, by decide, Or.inr ⟨by decide, mGw_of (i := 1274) (by decide +kernel) (by decide +kernel), mGw_of (i := 19) (by decide +kernel) (by decide +kernel), by decide +kernel, by decide +kernel⟩⟩
set_option maxRecDepth 100000 in
theorem q1_X4_nextRow : mQ1 mt_X4_nextRow := ⟨by decide +kernel, by decide +kernel, by decide +kernel, by decide +kernel⟩
set_option maxRecDepth 100000 in
theorem q2_X4_nextRow : mQ2 mt_X4_nextRow := Or.inr ⟨mGw_of (i := 126) (by decide +kernel) (by decide +kernel), by decide +kernel, Or.inl (by decide +kernel), by decide +kernel, by decide, Or.inr ⟨by decide, mGw_of (i := 1279) (by decide +kernel) (by decide +kernel), mGw_of (i := 20) (by decide +kernel) (by decide +kernel), by decide +kernel, by decide +kernel⟩⟩
set_option maxRecDepth 100000 in
theorem q1_X5_places : mQ1 mt_X5_places := ⟨by decide +kernel, by decide +kernel, by decide +kernel, by decide +kernel⟩
set_option maxRecDepth 100000 in
theorem q2_X5_places : mQ2 mt_X5_places := Or.inr ⟨mGw_of (i := 125) (by decide +kernel) (by decide +kernel), by decide +kernel, Or.inl (by decide +kernel), by decide +kernel, by decide, Or.inr ⟨by decide, mGw_of (i := 620) (by decide +kernel) (by decide +kernel), mGw_of (i := 621) (by decide +kernel) (by decide +kernel), by decide +kernel, by decide +kernel⟩⟩
set_option maxRecDepth 100000 in
theorem q1_X5_sumUp : mQ1 mt_X5_sumUp := ⟨by decide +kernel, by decide +kernel, by decide +kernel, by decide +kernel⟩
set_option maxRecDepth 100000 in
theorem q2_X5_sumUp : mQ2 mt_X5_sumUp := Or.inr ⟨mGw_of (i := 125) (by decide +kernel) (by decide +kernel), by decide +kernel, Or.inl (by decide +kernel), by decide +kernel, by decide, Or.inr ⟨by decide, mGw_of (i := 625) (by decide +kernel) (by decide +kernel), mGw_of (i := 2) (by decide +kernel) (by decide +kernel), by decide +kernel, by decide +kernel⟩⟩
set_option maxRecDepth 100000 in
theorem q1_X5_fillHour : mQ1 mt_X5_fillHour := ⟨by decide +kernel, by decide +kernel, by decide +kernel, by decide +kernel⟩
set_option maxRecDepth 100000 in
theorem q2_X5_fillHour : mQ2 mt_X5_fillHour := Or.inr ⟨mGw_of (i := 125) (by decide +kernel) (by decide +kernel), by decide +kernel, Or.inl (by decide +kernel), by decide +kernel, by decide, Or.inr ⟨by decide, mGw_of (i := 630) (by decide +kernel) (by decide +kernel), mGw_of (i := 3) (by decide +kernel) (by decide +kernel), by decide +kernel, by decide +kernel⟩⟩
set_option maxRecDepth 100000 in
theorem q1_X5_fewestOf : mQ1 mt_X5_fewestOf := ⟨by decide +kernel, by decide +kernel, by decide +kernel, by decide +kernel⟩
set_option maxRecDepth 100000 in
theorem q2_X5_fewestOf : mQ2 mt_X5_fewestOf := Or.inr ⟨mGw_of (i := 125) (by decide +kernel) (by decide +kernel), by decide +kernel, Or.inl (by decide +kernel), by decide +kernel, by decide, Or.inr ⟨by decide, mGw_of (i := 640) (by decide +kernel) (by decide +kernel), mGw_of (i := 5) (by decide +kernel) (by decide +kernel), by decide +kernel, by decide +kernel⟩⟩
set_option maxRecDepth 100000 in
theorem q1_X5_costOf : mQ1 mt_X5_costOf := ⟨by decide +kernel, by decide +kernel, by decide +kernel, by decide +kernel⟩
set_option maxRecDepth 100000 in
theorem q2_X5_costOf : mQ2 mt_X5_costOf := Or.inr ⟨mGw_of (i := 125) (by decide +kernel) (by decide +kernel), by decide +kernel, Or.inl (by decide +kernel), by decide +kernel, by decide, Or.inr ⟨by decide, mGw_of (i := 634) (by decide +kernel) (by decide +kernel), mGw_of (i := 4) (by decide +kernel) (by decide +kernel), by decide +kernel, by decide +kernel⟩⟩
set_option maxRecDepth 100000 in
theorem q1_X5_setOf : mQ1 mt_X5_setOf := ⟨by decide +kernel, by decide +kernel, by decide +kernel, by decide +kernel⟩
set_option maxRecDepth 100000 in
theorem q2_X5_setOf : mQ2 mt_X5_setOf := Or.inr ⟨mGw_of (i := 125) (by decide +kernel) (by decide +kernel), by decide +kernel, Or.inl (by decide +kernel), by decide +kernel, by decide, Or.inr ⟨by decide, mGw_of (i := 1402) (by decide +kernel) (by decide +kernel), mGw_of (i := 1403) (by decide +kernel) (by decide +kernel), by decide +kernel, by decide +kernel⟩⟩
set_option maxRecDepth 100000 in
theorem q1_X5_leastSet : mQ1 mt_X5_leastSet := ⟨by decide +kernel, by decide +kernel, by decide +kernel, by decide +kernel⟩
set_option maxRecDepth 100000 in
theorem q2_X5_leastSet : mQ2 mt_X5_leastSet := Or.inr ⟨mGw_of (i := 125) (by decide +kernel) (by decide +kernel), by decide +kernel, Or.inl (by decide +kernel), by decide +kernel, by decide, Or.inr ⟨by decide, mGw_of (i := 1407) (by decide +kernel) (by decide +kernel), mGw_of (i := 25) (by decide +kernel) (by decide +kernel), by decide +kernel, by decide +kernel⟩⟩
set_option maxRecDepth 100000 in
theorem q1_X6_gather : mQ1 mt_X6_gather := ⟨by decide +kernel, by decide +kernel, by decide +kernel, by decide +kernel⟩
set_option maxRecDepth 100000 in
theorem q2_X6_gather : mQ2 mt_X6_gather := Or.inr ⟨mGw_of (i := 124) (by decide +kernel) (by decide +kernel), by decide +kernel, Or.inl (by decide +kernel), by decide +kernel, by decide, Or.inr ⟨by decide, mGw_of (i := 1312) (by decide +kernel) (by decide +kernel), mGw_of (i := 1313) (by decide +kernel) (by decide +kernel), by decide +kernel, by decide +kernel⟩⟩
set_option maxRecDepth 100000 in
theorem q1_X6_keep : mQ1 mt_X6_keep := ⟨by decide +kernel, by decide +kernel, by decide +kernel, by decide +kernel⟩
set_option maxRecDepth 100000 in
theorem q2_X6_keep : mQ2 mt_X6_keep := Or.inr ⟨mGw_of (i := 124) (by decide +kernel) (by decide +kernel), by decide +kernel, Or.inl (by decide +kernel), by decide +kernel, by decide, Or.inr ⟨by decide, mGw_of (i := 1321) (by decide +kernel) (by decide +kernel), mGw_of (i := 23) (by decide +kernel) (by decide +kernel), by decide +kernel, by decide +kernel⟩⟩
set_option maxRecDepth 100000 in
theorem q1_X6_asleepInAll : mQ1 mt_X6_asleepInAll := ⟨by decide +kernel, by decide +kernel, by decide +kernel, by decide +kernel⟩
set_option maxRecDepth 100000 in
theorem q2_X6_asleepInAll : mQ2 mt_X6_asleepInAll := Or.inr ⟨mGw_of (i := 124) (by decide +kernel) (by decide +kernel), by decide +kernel, Or.inl (by decide +kernel), by decide +kernel, by decide, Or.inr ⟨by decide, mGw_of (i := 1332) (by decide +kernel) (by decide +kernel), mGw_of (i := 1333) (by decide +kernel) (by decide +kernel), by decide +kernel, by decide +kernel⟩⟩
set_option maxRecDepth 100000 in
theorem q1_X6_asleepInSome : mQ1 mt_X6_asleepInSome := ⟨by decide +kernel, by decide +kernel, by decide +kernel, by decide +kernel⟩
set_option maxRecDepth 100000 in
theorem q2_X6_asleepInSome : mQ2 mt_X6_asleepInSome := Or.inr ⟨mGw_of (i := 124) (by decide +kernel) (by decide +kernel), by decide +kernel, Or.inl (by decide +kernel), by decide +kernel, by decide, Or.inr ⟨by decide, mGw_of (i := 1343) (by decide +kernel) (by decide +kernel), mGw_of (i := 1344) (by decide +kernel) (by decide +kernel), by decide +kernel, by decide +kernel⟩⟩
set_option maxRecDepth 100000 in
theorem q1_X6_bestToAsk : mQ1 mt_X6_bestToAsk := ⟨by decide +kernel, by decide +kernel, by decide +kernel, by decide +kernel⟩
set_option maxRecDepth 100000 in
theorem q2_X6_bestToAsk : mQ2 mt_X6_bestToAsk := Or.inr ⟨mGw_of (i := 124) (by decide +kernel) (by decide +kernel), by decide +kernel, Or.inl (by decide +kernel), by decide +kernel, by decide, Or.inr ⟨by decide, mGw_of (i := 1361) (by decide +kernel) (by decide +kernel), mGw_of (i := 1362) (by decide +kernel) (by decide +kernel), by decide +kernel, by decide +kernel⟩⟩
set_option maxRecDepth 100000 in
theorem q1_X6_greatestPart : mQ1 mt_X6_greatestPart := ⟨by decide +kernel, by decide +kernel, by decide +kernel, by decide +kernel⟩
set_option maxRecDepth 100000 in
theorem q2_X6_greatestPart : mQ2 mt_X6_greatestPart := Or.inr ⟨mGw_of (i := 124) (by decide +kernel) (by decide +kernel), by decide +kernel, Or.inl (by decide +kernel), by decide +kernel, by decide, Or.inr ⟨by decide, mGw_of (i := 1367) (by decide +kernel) (by decide +kernel), mGw_of (i := 24) (by decide +kernel) (by decide +kernel), by decide +kernel, by decide +kernel⟩⟩
set_option maxRecDepth 100000 in
theorem q1_X7_hasRoom : mQ1 mt_X7_hasRoom := ⟨by decide +kernel, by decide +kernel, by decide +kernel, by decide +kernel⟩
set_option maxRecDepth 100000 in
theorem q2_X7_hasRoom : mQ2 mt_X7_hasRoom := Or.inr ⟨mGw_of (i := 119) (by decide +kernel) (by decide +kernel), by decide +kernel, Or.inl (by decide +kernel), by decide +kernel, by decide, Or.inr ⟨by decide, mGw_of (i := 456) (by decide +kernel) (by decide +kernel), mGw_of (i := 457) (by decide +kernel) (by decide +kernel), by decide +kernel, by decide +kernel⟩⟩
set_option maxRecDepth 100000 in
theorem q1_X7_append : mQ1 mt_X7_append := ⟨by decide +kernel, by decide +kernel, by decide +kernel, by decide +kernel⟩
set_option maxRecDepth 100000 in
theorem q2_X7_append : mQ2 mt_X7_append := Or.inr ⟨mGw_of (i := 119) (by decide +kernel) (by decide +kernel), by decide +kernel, Or.inl (by decide +kernel), by decide +kernel, by decide, Or.inr ⟨by decide, mGw_of (i := 460) (by decide +kernel) (by decide +kernel), mGw_of (i := 461) (by decide +kernel) (by decide +kernel), by decide +kernel, by decide +kernel⟩⟩
set_option maxRecDepth 100000 in
theorem q1_X7_byteAt : mQ1 mt_X7_byteAt := ⟨by decide +kernel, by decide +kernel, by decide +kernel, by decide +kernel⟩
set_option maxRecDepth 100000 in
theorem q2_X7_byteAt : mQ2 mt_X7_byteAt := Or.inr ⟨mGw_of (i := 119) (by decide +kernel) (by decide +kernel), by decide +kernel, Or.inl (by decide +kernel), by decide +kernel, by decide, Or.inr ⟨by decide, mGw_of (i := 799) (by decide +kernel) (by decide +kernel), mGw_of (i := 800) (by decide +kernel) (by decide +kernel), by decide +kernel, by decide +kernel⟩⟩
set_option maxRecDepth 100000 in
theorem q1_X7_rewind : mQ1 mt_X7_rewind := ⟨by decide +kernel, by decide +kernel, by decide +kernel, by decide +kernel⟩
set_option maxRecDepth 100000 in
theorem q2_X7_rewind : mQ2 mt_X7_rewind := Or.inr ⟨mGw_of (i := 119) (by decide +kernel) (by decide +kernel), by decide +kernel, Or.inl (by decide +kernel), by decide +kernel, by decide, Or.inr ⟨by decide, mGw_of (i := 769) (by decide +kernel) (by decide +kernel), mGw_of (i := 770) (by decide +kernel) (by decide +kernel), by decide +kernel, by decide +kernel⟩⟩
set_option maxRecDepth 100000 in
theorem q1_X7_moveTo : mQ1 mt_X7_moveTo := ⟨by decide +kernel, by decide +kernel, by decide +kernel, by decide +kernel⟩
set_option maxRecDepth 100000 in
theorem q2_X7_moveTo : mQ2 mt_X7_moveTo := Or.inr ⟨mGw_of (i := 119) (by decide +kernel) (by decide +kernel), by decide +kernel, Or.inl (by decide +kernel), by decide +kernel, by decide, Or.inr ⟨by decide, mGw_of (i := 774) (by decide +kernel) (by decide +kernel), mGw_of (i := 11) (by decide +kernel) (by decide +kernel), by decide +kernel, by decide +kernel⟩⟩
set_option maxRecDepth 100000 in
theorem q1_X7_ended : mQ1 mt_X7_ended := ⟨by decide +kernel, by decide +kernel, by decide +kernel, by decide +kernel⟩
set_option maxRecDepth 100000 in
theorem q2_X7_ended : mQ2 mt_X7_ended := Or.inr ⟨mGw_of (i := 119) (by decide +kernel) (by decide +kernel), by decide +kernel, Or.inl (by decide +kernel), by decide +kernel, by decide, Or.inr ⟨by decide, mGw_of (i := 777) (by decide +kernel) (by decide +kernel), mGw_of (i := 778) (by decide +kernel) (by decide +kernel), by decide +kernel, by decide +kernel⟩⟩
set_option maxRecDepth 100000 in
theorem q1_X7_wrong : mQ1 mt_X7_wrong := ⟨by decide +kernel, by decide +kernel, by decide +kernel, by decide +kernel⟩
set_option maxRecDepth 100000 in
theorem q2_X7_wrong : mQ2 mt_X7_wrong := Or.inr ⟨mGw_of (i := 119) (by decide +kernel) (by decide +kernel), by decide +kernel, Or.inl (by decide +kernel), by decide +kernel, by decide, Or.inr ⟨by decide, mGw_of (i := 850) (by decide +kernel) (by decide +kernel), mGw_of (i := 851) (by decide +kernel) (by decide +kernel), by decide +kernel, by decide +kernel⟩⟩
set_option maxRecDepth 100000 in
theorem q1_X7_isLetter : mQ1 mt_X7_isLetter := ⟨by decide +kernel, by decide +kernel, by decide +kernel, by decide +kernel⟩
set_option maxRecDepth 100000 in
theorem q2_X7_isLetter : mQ2 mt_X7_isLetter := Or.inr ⟨mGw_of (i := 119) (by decide +kernel) (by decide +kernel), by decide +kernel, Or.inl (by decide +kernel), by decide +kernel, by decide, Or.inr ⟨by decide, mGw_of (i := 881) (by decide +kernel) (by decide +kernel), mGw_of (i := 12) (by decide +kernel) (by decide +kernel), by decide +kernel, by decide +kernel⟩⟩
set_option maxRecDepth 100000 in
theorem q1_X7_takes : mQ1 mt_X7_takes := ⟨by decide +kernel, by decide +kernel, by decide +kernel, by decide +kernel⟩
set_option maxRecDepth 100000 in
theorem q2_X7_takes : mQ2 mt_X7_takes := Or.inr ⟨mGw_of (i := 119) (by decide +kernel) (by decide +kernel), by decide +kernel, Or.inl (by decide +kernel), by decide +kernel, by decide, Or.inr ⟨by decide, mGw_of (i := 785) (by decide +kernel) (by decide +kernel), mGw_of (i := 786) (by decide +kernel) (by decide +kernel), by decide +kernel, by decide +kernel⟩⟩
set_option maxRecDepth 100000 in
theorem q1_X7_must : mQ1 mt_X7_must := ⟨by decide +kernel, by decide +kernel, by decide +kernel, by decide +kernel⟩
set_option maxRecDepth 100000 in
theorem q2_X7_must : mQ2 mt_X7_must := Or.inr ⟨mGw_of (i := 119) (by decide +kernel) (by decide +kernel), by decide +kernel, Or.inl (by decide +kernel), by decide +kernel, by decide, Or.inr ⟨by decide, mGw_of (i := 845) (by decide +kernel) (by decide +kernel), mGw_of (i := 846) (by decide +kernel) (by decide +kernel), by decide +kernel, by decide +kernel⟩⟩
set_option maxRecDepth 100000 in
theorem q1_X7_takesSign : mQ1 mt_X7_takesSign := ⟨by decide +kernel, by decide +kernel, by decide +kernel, by decide +kernel⟩
set_option maxRecDepth 100000 in
theorem q2_X7_takesSign : mQ2 mt_X7_takesSign := Or.inr ⟨mGw_of (i := 119) (by decide +kernel) (by decide +kernel), by decide +kernel, Or.inl (by decide +kernel), by decide +kernel, by decide, Or.inr ⟨by decide, mGw_of (i := 902) (by decide +kernel) (by decide +kernel), mGw_of (i := 903) (by decide +kernel) (by decide +kernel), by decide +kernel, by decide +kernel⟩⟩
set_option maxRecDepth 100000 in
theorem q1_X7_mustSign : mQ1 mt_X7_mustSign := ⟨by decide +kernel, by decide +kernel, by decide +kernel, by decide +kernel⟩
set_option maxRecDepth 100000 in
theorem q2_X7_mustSign : mQ2 mt_X7_mustSign := Or.inr ⟨mGw_of (i := 119) (by decide +kernel) (by decide +kernel), by decide +kernel, Or.inl (by decide +kernel), by decide +kernel, by decide, Or.inr ⟨by decide, mGw_of (i := 898) (by decide +kernel) (by decide +kernel), mGw_of (i := 899) (by decide +kernel) (by decide +kernel), by decide +kernel, by decide +kernel⟩⟩
set_option maxRecDepth 100000 in
theorem q1_X7_number : mQ1 mt_X7_number := ⟨by decide +kernel, by decide +kernel, by decide +kernel, by decide +kernel⟩
set_option maxRecDepth 100000 in
theorem q2_X7_number : mQ2 mt_X7_number := Or.inr ⟨mGw_of (i := 119) (by decide +kernel) (by decide +kernel), by decide +kernel, Or.inl (by decide +kernel), by decide +kernel, by decide, Or.inr ⟨by decide, mGw_of (i := 854) (by decide +kernel) (by decide +kernel), mGw_of (i := 855) (by decide +kernel) (by decide +kernel), by decide +kernel, by decide +kernel⟩⟩
set_option maxRecDepth 100000 in
theorem q1_X7_letters : mQ1 mt_X7_letters := ⟨by decide +kernel, by decide +kernel, by decide +kernel, by decide +kernel⟩
set_option maxRecDepth 100000 in
theorem q2_X7_letters : mQ2 mt_X7_letters := Or.inr ⟨mGw_of (i := 119) (by decide +kernel) (by decide +kernel), by decide +kernel, Or.inl (by decide +kernel), by decide +kernel, by decide, Or.inr ⟨by decide, mGw_of (i := 876) (by decide +kernel) (by decide +kernel), mGw_of (i := 877) (by decide +kernel) (by decide +kernel), by decide +kernel, by decide +kernel⟩⟩
set_option maxRecDepth 100000 in
theorem q1_X8_touched : mQ1 mt_X8_touched := ⟨by decide +kernel, by decide +kernel, by decide +kernel, by decide +kernel⟩
set_option maxRecDepth 100000 in
theorem q2_X8_touched : mQ2 mt_X8_touched := Or.inr ⟨mGw_of (i := 145) (by decide +kernel) (by decide +kernel), by decide +kernel, Or.inl (by decide +kernel), by decide +kernel, by decide, Or.inl ⟨rfl, mGw_of (i := 608) (by decide +kernel) (by decide +kernel), by decide +kernel⟩⟩
set_option maxRecDepth 100000 in
theorem q1_X8_steps : mQ1 mt_X8_steps := ⟨by decide +kernel, by decide +kernel, by decide +kernel, by decide +kernel⟩
set_option maxRecDepth 100000 in
theorem q2_X8_steps : mQ2 mt_X8_steps := Or.inr ⟨mGw_of (i := 145) (by decide +kernel) (by decide +kernel), by decide +kernel, Or.inl (by decide +kernel), by decide +kernel, by decide, Or.inl ⟨rfl, mGw_of (i := 602) (by decide +kernel) (by decide +kernel), by decide +kernel⟩⟩
set_option maxRecDepth 100000 in
theorem q1_X8_reached : mQ1 mt_X8_reached := ⟨by decide +kernel, by decide +kernel, by decide +kernel, by decide +kernel⟩
set_option maxRecDepth 100000 in
theorem q2_X8_reached : mQ2 mt_X8_reached := Or.inr ⟨mGw_of (i := 145) (by decide +kernel) (by decide +kernel), by decide +kernel, Or.inl (by decide +kernel), by decide +kernel, by decide, Or.inl ⟨rfl, mGw_of (i := 1392) (by decide +kernel) (by decide +kernel), by decide +kernel⟩⟩
set_option maxRecDepth 100000 in
theorem q1_X9_copyFrom : mQ1 mt_X9_copyFrom := ⟨by decide +kernel, by decide +kernel, by decide +kernel, by decide +kernel⟩
set_option maxRecDepth 100000 in
theorem q2_X9_copyFrom : mQ2 mt_X9_copyFrom := Or.inr ⟨mGw_of (i := 120) (by decide +kernel) (by decide +kernel), by decide +kernel, Or.inl (by decide +kernel), by decide +kernel, by decide, Or.inr ⟨by decide, mGw_of (i := 553) (by decide +kernel) (by decide +kernel), mGw_of (i := 554) (by decide +kernel) (by decide +kernel), by decide +kernel, by decide +kernel⟩⟩
set_option maxRecDepth 100000 in
theorem q1_X9_isPerson : mQ1 mt_X9_isPerson := ⟨by decide +kernel, by decide +kernel, by decide +kernel, by decide +kernel⟩
set_option maxRecDepth 100000 in
theorem q2_X9_isPerson : mQ2 mt_X9_isPerson := Or.inr ⟨mGw_of (i := 120) (by decide +kernel) (by decide +kernel), by decide +kernel, Or.inl (by decide +kernel), by decide +kernel, by decide, Or.inr ⟨by decide, mGw_of (i := 868) (by decide +kernel) (by decide +kernel), mGw_of (i := 869) (by decide +kernel) (by decide +kernel), by decide +kernel, by decide +kernel⟩⟩
set_option maxRecDepth 100000 in
theorem q1_X9_everyone : mQ1 mt_X9_everyone := ⟨by decide +kernel, by decide +kernel, by decide +kernel, by decide +kernel⟩
set_option maxRecDepth 100000 in
theorem q2_X9_everyone : mQ2 mt_X9_everyone := Or.inr ⟨mGw_of (i := 120) (by decide +kernel) (by decide +kernel), by decide +kernel, Or.inl (by decide +kernel), by decide +kernel, by decide, Or.inr ⟨by decide, mGw_of (i := 616) (by decide +kernel) (by decide +kernel), mGw_of (i := 617) (by decide +kernel) (by decide +kernel), by decide +kernel, by decide +kernel⟩⟩
set_option maxRecDepth 100000 in
theorem q1_X9_holders : mQ1 mt_X9_holders := ⟨by decide +kernel, by decide +kernel, by decide +kernel, by decide +kernel⟩
set_option maxRecDepth 100000 in
theorem q2_X9_holders : mQ2 mt_X9_holders := Or.inr ⟨mGw_of (i := 120) (by decide +kernel) (by decide +kernel), by decide +kernel, Or.inl (by decide +kernel), by decide +kernel, by decide, Or.inr ⟨by decide, mGw_of (i := 503) (by decide +kernel) (by decide +kernel), mGw_of (i := 504) (by decide +kernel) (by decide +kernel), by decide +kernel, by decide +kernel⟩⟩
set_option maxRecDepth 100000 in
theorem q1_X9_inRing : mQ1 mt_X9_inRing := ⟨by decide +kernel, by decide +kernel, by decide +kernel, by decide +kernel⟩
set_option maxRecDepth 100000 in
theorem q2_X9_inRing : mQ2 mt_X9_inRing := Or.inr ⟨mGw_of (i := 120) (by decide +kernel) (by decide +kernel), by decide +kernel, Or.inl (by decide +kernel), by decide +kernel, by decide, Or.inr ⟨by decide, mGw_of (i := 483) (by decide +kernel) (by decide +kernel), mGw_of (i := 484) (by decide +kernel) (by decide +kernel), by decide +kernel, by decide +kernel⟩⟩
set_option maxRecDepth 100000 in
theorem q1_X9_uppermost : mQ1 mt_X9_uppermost := ⟨by decide +kernel, by decide +kernel, by decide +kernel, by decide +kernel⟩
set_option maxRecDepth 100000 in
theorem q2_X9_uppermost : mQ2 mt_X9_uppermost := Or.inr ⟨mGw_of (i := 120) (by decide +kernel) (by decide +kernel), by decide +kernel, Or.inl (by decide +kernel), by decide +kernel, by decide, Or.inr ⟨by decide, mGw_of (i := 495) (by decide +kernel) (by decide +kernel), mGw_of (i := 496) (by decide +kernel) (by decide +kernel), by decide +kernel, by decide +kernel⟩⟩
set_option maxRecDepth 100000 in
theorem q1_X9_spare : mQ1 mt_X9_spare := ⟨by decide +kernel, by decide +kernel, by decide +kernel, by decide +kernel⟩
set_option maxRecDepth 100000 in
theorem q2_X9_spare : mQ2 mt_X9_spare := Or.inr ⟨mGw_of (i := 120) (by decide +kernel) (by decide +kernel), by decide +kernel, Or.inl (by decide +kernel), by decide +kernel, by decide, Or.inr ⟨by decide, mGw_of (i := 507) (by decide +kernel) (by decide +kernel), mGw_of (i := 508) (by decide +kernel) (by decide +kernel), by decide +kernel, by decide +kernel⟩⟩
set_option maxRecDepth 100000 in
theorem q1_X9_borneByAll : mQ1 mt_X9_borneByAll := ⟨by decide +kernel, by decide +kernel, by decide +kernel, by decide +kernel⟩
set_option maxRecDepth 100000 in
theorem q2_X9_borneByAll : mQ2 mt_X9_borneByAll := Or.inr ⟨mGw_of (i := 120) (by decide +kernel) (by decide +kernel), by decide +kernel, Or.inl (by decide +kernel), by decide +kernel, by decide, Or.inr ⟨by decide, mGw_of (i := 749) (by decide +kernel) (by decide +kernel), mGw_of (i := 750) (by decide +kernel) (by decide +kernel), by decide +kernel, by decide +kernel⟩⟩
set_option maxRecDepth 100000 in
theorem q1_X9_strengthOfAll : mQ1 mt_X9_strengthOfAll := ⟨by decide +kernel, by decide +kernel, by decide +kernel, by decide +kernel⟩
set_option maxRecDepth 100000 in
theorem q2_X9_strengthOfAll : mQ2 mt_X9_strengthOfAll := Or.inr ⟨mGw_of (i := 120) (by decide +kernel) (by decide +kernel), by decide +kernel, Or.inl (by decide +kernel), by decide +kernel, by decide, Or.inr ⟨by decide, mGw_of (i := 753) (by decide +kernel) (by decide +kernel), mGw_of (i := 754) (by decide +kernel) (by decide +kernel), by decide +kernel, by decide +kernel⟩⟩
set_option maxRecDepth 100000 in
theorem q1_X9_addPerson : mQ1 mt_X9_addPerson := ⟨by decide +kernel, by decide +kernel, by decide +kernel, by decide +kernel⟩
set_option maxRecDepth 100000 in
theorem q2_X9_addPerson : mQ2 mt_X9_addPerson := Or.inr ⟨mGw_of (i := 120) (by decide +kernel) (by decide +kernel), by decide +kernel, Or.inl (by decide +kernel), by decide +kernel, by decide, Or.inr ⟨by decide, mGw_of (i := 859) (by decide +kernel) (by decide +kernel), mGw_of (i := 860) (by decide +kernel) (by decide +kernel), by decide +kernel, by decide +kernel⟩⟩
set_option maxRecDepth 100000 in
theorem q1_X9_fitsRing : mQ1 mt_X9_fitsRing := ⟨by decide +kernel, by decide +kernel, by decide +kernel, by decide +kernel⟩
set_option maxRecDepth 100000 in
theorem q2_X9_fitsRing : mQ2 mt_X9_fitsRing := Or.inr ⟨mGw_of (i := 120) (by decide +kernel) (by decide +kernel), by decide +kernel, Or.inl (by decide +kernel), by decide +kernel, by decide, Or.inr ⟨by decide, mGw_of (i := 1137) (by decide +kernel) (by decide +kernel), mGw_of (i := 1138) (by decide +kernel) (by decide +kernel), by decide +kernel, by decide +kernel⟩⟩
set_option maxRecDepth 100000 in
theorem q1_X9_bringUp : mQ1 mt_X9_bringUp := ⟨by decide +kernel, by decide +kernel, by decide +kernel, by decide +kernel⟩
set_option maxRecDepth 100000 in
theorem q2_X9_bringUp : mQ2 mt_X9_bringUp := Or.inr ⟨mGw_of (i := 120) (by decide +kernel) (by decide +kernel), by decide +kernel, Or.inl (by decide +kernel), by decide +kernel, by decide, Or.inr ⟨by decide, mGw_of (i := 886) (by decide +kernel) (by decide +kernel), mGw_of (i := 887) (by decide +kernel) (by decide +kernel), by decide +kernel, by decide +kernel⟩⟩
set_option maxRecDepth 100000 in
theorem q1_X9_takeDown : mQ1 mt_X9_takeDown := ⟨by decide +kernel, by decide +kernel, by decide +kernel, by decide +kernel⟩
set_option maxRecDepth 100000 in
theorem q2_X9_takeDown : mQ2 mt_X9_takeDown := Or.inr ⟨mGw_of (i := 120) (by decide +kernel) (by decide +kernel), by decide +kernel, Or.inl (by decide +kernel), by decide +kernel, by decide, Or.inr ⟨by decide, mGw_of (i := 565) (by decide +kernel) (by decide +kernel), mGw_of (i := 566) (by decide +kernel) (by decide +kernel), by decide +kernel, by decide +kernel⟩⟩
set_option maxRecDepth 100000 in
theorem q1_X9_canSwap : mQ1 mt_X9_canSwap := ⟨by decide +kernel, by decide +kernel, by decide +kernel, by decide +kernel⟩
set_option maxRecDepth 100000 in
theorem q2_X9_canSwap : mQ2 mt_X9_canSwap := Or.inr ⟨mGw_of (i := 120) (by decide +kernel) (by decide +kernel), by decide +kernel, Or.inl (by decide +kernel), by decide +kernel, by decide, Or.inr ⟨by decide, mGw_of (i := 1186) (by decide +kernel) (by decide +kernel), mGw_of (i := 1187) (by decide +kernel) (by decide +kernel), by decide +kernel, by decide +kernel⟩⟩
set_option maxRecDepth 100000 in
theorem q1_X9_swap : mQ1 mt_X9_swap := ⟨by decide +kernel, by decide +kernel, by decide +kernel, by decide +kernel⟩
set_option maxRecDepth 100000 in
theorem q2_X9_swap : mQ2 mt_X9_swap := Or.inr ⟨mGw_of (i := 120) (by decide +kernel) (by decide +kernel), by decide +kernel, Or.inl (by decide +kernel), by decide +kernel, by decide, Or.inr ⟨by decide, mGw_of (i := 1190) (by decide +kernel) (by decide +kernel), mGw_of (i := 1191) (by decide +kernel) (by decide +kernel), by decide +kernel, by decide +kernel⟩⟩
set_option maxRecDepth 100000 in
theorem q1_X9_settle : mQ1 mt_X9_settle := ⟨by decide +kernel, by decide +kernel, by decide +kernel, by decide +kernel⟩
set_option maxRecDepth 100000 in
theorem q2_X9_settle : mQ2 mt_X9_settle := Or.inr ⟨mGw_of (i := 120) (by decide +kernel) (by decide +kernel), by decide +kernel, Or.inl (by decide +kernel), by decide +kernel, by decide, Or.inr ⟨by decide, mGw_of (i := 573) (by decide +kernel) (by decide +kernel), mGw_of (i := 574) (by decide +kernel) (by decide +kernel), by decide +kernel, by decide +kernel⟩⟩
set_option maxRecDepth 100000 in
theorem q1_X9_carry : mQ1 mt_X9_carry := ⟨by decide +kernel, by decide +kernel, by decide +kernel, by decide +kernel⟩
set_option maxRecDepth 100000 in
theorem q2_X9_carry : mQ2 mt_X9_carry := Or.inr ⟨mGw_of (i := 120) (by decide +kernel) (by decide +kernel), by decide +kernel, Or.inl (by decide +kernel), by decide +kernel, by decide, Or.inr ⟨by decide, mGw_of (i := 524) (by decide +kernel) (by decide +kernel), mGw_of (i := 525) (by decide +kernel) (by decide +kernel), by decide +kernel, by decide +kernel⟩⟩
set_option maxRecDepth 100000 in
theorem q1_X9_shareOut : mQ1 mt_X9_shareOut := ⟨by decide +kernel, by decide +kernel, by decide +kernel, by decide +kernel⟩
set_option maxRecDepth 100000 in
theorem q2_X9_shareOut : mQ2 mt_X9_shareOut := Or.inr ⟨mGw_of (i := 120) (by decide +kernel) (by decide +kernel), by decide +kernel, Or.inl (by decide +kernel), by decide +kernel, by decide, Or.inl ⟨rfl, mGw_of (i := 528) (by decide +kernel) (by decide +kernel), by decide +kernel⟩⟩
set_option maxRecDepth 100000 in
theorem q1_X9_hanging : mQ1 mt_X9_hanging := ⟨by decide +kernel, by decide +kernel, by decide +kernel, by decide +kernel⟩
set_option maxRecDepth 100000 in
theorem q2_X9_hanging : mQ2 mt_X9_hanging := Or.inr ⟨mGw_of (i := 120) (by decide +kernel) (by decide +kernel), by decide +kernel, Or.inl (by decide +kernel), by decide +kernel, by decide, Or.inr ⟨by decide, mGw_of (i := 520) (by decide +kernel) (by decide +kernel), mGw_of (i := 521) (by decide +kernel) (by decide +kernel), by decide +kernel, by decide +kernel⟩⟩
set_option maxRecDepth 100000 in
theorem q1_X9_yielding : mQ1 mt_X9_yielding := ⟨by decide +kernel, by decide +kernel, by decide +kernel, by decide +kernel⟩
set_option maxRecDepth 100000 in
theorem q2_X9_yielding : mQ2 mt_X9_yielding := Or.inr ⟨mGw_of (i := 120) (by decide +kernel) (by decide +kernel), by decide +kernel, Or.inl (by decide +kernel), by decide +kernel, by decide, Or.inr ⟨by decide, mGw_of (i := 538) (by decide +kernel) (by decide +kernel), mGw_of (i := 0) (by decide +kernel) (by decide +kernel), by decide +kernel, by decide +kernel⟩⟩
set_option maxRecDepth 100000 in
theorem q1_X9_stands : mQ1 mt_X9_stands := ⟨by decide +kernel, by decide +kernel, by decide +kernel, by decide +kernel⟩
set_option maxRecDepth 100000 in
theorem q2_X9_stands : mQ2 mt_X9_stands := Or.inr ⟨mGw_of (i := 120) (by decide +kernel) (by decide +kernel), by decide +kernel, Or.inl (by decide +kernel), by decide +kernel, by decide, Or.inr ⟨by decide, mGw_of (i := 516) (by decide +kernel) (by decide +kernel), mGw_of (i := 517) (by decide +kernel) (by decide +kernel), by decide +kernel, by decide +kernel⟩⟩
set_option maxRecDepth 100000 in
theorem q1_X9_collapse : mQ1 mt_X9_collapse := ⟨by decide +kernel, by decide +kernel, by decide +kernel, by decide +kernel⟩
set_option maxRecDepth 100000 in
theorem q2_X9_collapse : mQ2 mt_X9_collapse := Or.inr ⟨mGw_of (i := 120) (by decide +kernel) (by decide +kernel), by decide +kernel, Or.inl (by decide +kernel), by decide +kernel, by decide, Or.inr ⟨by decide, mGw_of (i := 569) (by decide +kernel) (by decide +kernel), mGw_of (i := 570) (by decide +kernel) (by decide +kernel), by decide +kernel, by decide +kernel⟩⟩
set_option maxRecDepth 100000 in
theorem q1_X9_passHours : mQ1 mt_X9_passHours := ⟨by decide +kernel, by decide +kernel, by decide +kernel, by decide +kernel⟩
set_option maxRecDepth 100000 in
theorem q2_X9_passHours : mQ2 mt_X9_passHours := Or.inr ⟨mGw_of (i := 120) (by decide +kernel) (by decide +kernel), by decide +kernel, Or.inl (by decide +kernel), by decide +kernel, by decide, Or.inr ⟨by decide, mGw_of (i := 669) (by decide +kernel) (by decide +kernel), mGw_of (i := 670) (by decide +kernel) (by decide +kernel), by decide +kernel, by decide +kernel⟩⟩
set_option maxRecDepth 100000 in
theorem q1_X9_passHour : mQ1 mt_X9_passHour := ⟨by decide +kernel, by decide +kernel, by decide +kernel, by decide +kernel⟩
set_option maxRecDepth 100000 in
theorem q2_X9_passHour : mQ2 mt_X9_passHour := Or.inr ⟨mGw_of (i := 120) (by decide +kernel) (by decide +kernel), by decide +kernel, Or.inl (by decide +kernel), by decide +kernel, by decide, Or.inr ⟨by decide, mGw_of (i := 674) (by decide +kernel) (by decide +kernel), mGw_of (i := 6) (by decide +kernel) (by decide +kernel), by decide +kernel, by decide +kernel⟩⟩
set_option maxRecDepth 100000 in
theorem q1_X9_fadeAndMend : mQ1 mt_X9_fadeAndMend := ⟨by decide +kernel, by decide +kernel, by decide +kernel, by decide +kernel⟩
set_option maxRecDepth 100000 in
theorem q2_X9_fadeAndMend : mQ2 mt_X9_fadeAndMend := Or.inr ⟨mGw_of (i := 120) (by decide +kernel) (by decide +kernel), by decide +kernel, Or.inl (by decide +kernel), by decide +kernel, by decide, Or.inr ⟨by decide, mGw_of (i := 678) (by decide +kernel) (by decide +kernel), mGw_of (i := 7) (by decide +kernel) (by decide +kernel), by decide +kernel, by decide +kernel⟩⟩
set_option maxRecDepth 100000 in
theorem q1_X9_drawSleep : mQ1 mt_X9_drawSleep := ⟨by decide +kernel, by decide +kernel, by decide +kernel, by decide +kernel⟩
set_option maxRecDepth 100000 in
theorem q2_X9_drawSleep : mQ2 mt_X9_drawSleep := Or.inr ⟨mGw_of (i := 120) (by decide +kernel) (by decide +kernel), by decide +kernel, Or.inl (by decide +kernel), by decide +kernel, by decide, Or.inr ⟨by decide, mGw_of (i := 706) (by decide +kernel) (by decide +kernel), mGw_of (i := 9) (by decide +kernel) (by decide +kernel), by decide +kernel, by decide +kernel⟩⟩
set_option maxRecDepth 100000 in
theorem q1_X9_draw : mQ1 mt_X9_draw := ⟨by decide +kernel, by decide +kernel, by decide +kernel, by decide +kernel⟩
set_option maxRecDepth 100000 in
theorem q2_X9_draw : mQ2 mt_X9_draw := Or.inr ⟨mGw_of (i := 120) (by decide +kernel) (by decide +kernel), by decide +kernel, Or.inl (by decide +kernel), by decide +kernel, by decide, Or.inr ⟨by decide, mGw_of (i := 710) (by decide +kernel) (by decide +kernel), mGw_of (i := 10) (by decide +kernel) (by decide +kernel), by decide +kernel, by decide +kernel⟩⟩
set_option maxRecDepth 100000 in
theorem q1_X10_read : mQ1 mt_X10_read := ⟨by decide +kernel, by decide +kernel, by decide +kernel, by decide +kernel⟩
set_option maxRecDepth 100000 in
theorem q2_X10_read : mQ2 mt_X10_read := Or.inr ⟨mGw_of (i := 129) (by decide +kernel) (by decide +kernel), by decide +kernel, Or.inl (by decide +kernel), by decide +kernel, by decide, Or.inl ⟨rfl, mGw_of (i := 766) (by decide +kernel) (by decide +kernel), by decide +kernel⟩⟩
set_option maxRecDepth 100000 in
theorem q1_X10_readLine : mQ1 mt_X10_readLine := ⟨by decide +kernel, by decide +kernel, by decide +kernel, by decide +kernel⟩
set_option maxRecDepth 100000 in
theorem q2_X10_readLine : mQ2 mt_X10_readLine := Or.inr ⟨mGw_of (i := 129) (by decide +kernel) (by decide +kernel), by decide +kernel, Or.inl (by decide +kernel), by decide +kernel, by decide, Or.inl ⟨rfl, mGw_of (i := 781) (by decide +kernel) (by decide +kernel), by decide +kernel⟩⟩
set_option maxRecDepth 100000 in
theorem q1_X10_readPerson : mQ1 mt_X10_readPerson := ⟨by decide +kernel, by decide +kernel, by decide +kernel, by decide +kernel⟩
set_option maxRecDepth 100000 in
theorem q2_X10_readPerson : mQ2 mt_X10_readPerson := Or.inr ⟨mGw_of (i := 129) (by decide +kernel) (by decide +kernel), by decide +kernel, Or.inl (by decide +kernel), by decide +kernel, by decide, Or.inl ⟨rfl, mGw_of (i := 841) (by decide +kernel) (by decide +kernel), by decide +kernel⟩⟩
set_option maxRecDepth 100000 in
theorem q1_X10_readUp : mQ1 mt_X10_readUp := ⟨by decide +kernel, by decide +kernel, by decide +kernel, by decide +kernel⟩
set_option maxRecDepth 100000 in
theorem q2_X10_readUp : mQ2 mt_X10_readUp := Or.inr ⟨mGw_of (i := 129) (by decide +kernel) (by decide +kernel), by decide +kernel, Or.inl (by decide +kernel), by decide +kernel, by decide, Or.inl ⟨rfl, mGw_of (i := 865) (by decide +kernel) (by decide +kernel), by decide +kernel⟩⟩
set_option maxRecDepth 100000 in
theorem q1_X10_readAsleep : mQ1 mt_X10_readAsleep := ⟨by decide +kernel, by decide +kernel, by decide +kernel, by decide +kernel⟩
set_option maxRecDepth 100000 in
theorem q2_X10_readAsleep : mQ2 mt_X10_readAsleep := Or.inr ⟨mGw_of (i := 129) (by decide +kernel) (by decide +kernel), by decide +kernel, Or.inl (by decide +kernel), by decide +kernel, by decide, Or.inl ⟨rfl, mGw_of (i := 891) (by decide +kernel) (by decide +kernel), by decide +kernel⟩⟩
