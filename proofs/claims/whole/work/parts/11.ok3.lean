set_option maxRecDepth 100000 in
theorem q1_X12_feelTo : mQ1 mt_X12_feelTo := ⟨by decide +kernel, by decide +kernel, by decide +kernel, by decide +kernel⟩
set_option maxRecDepth 100000 in
theorem q2_X12_feelTo : mQ2 mt_X12_feelTo := Or.inr ⟨mGw_of (i := 127) (by decide +kernel) (by decide +kernel), by decide +kernel, Or.inl (by decide +kernel), by decide +kernel, by decide, Or.inr ⟨by decide, mGw_of (i := 2067) (by decide +kernel) (by decide +kernel), mGw_of (i := 103) (by decide +kernel) (by decide +kernel), by decide +kernel, by decide +kernel⟩⟩
set_option maxRecDepth 100000 in
theorem q1_X12_feels : mQ1 mt_X12_feels := ⟨by decide +kernel, by decide +kernel, by decide +kernel, by decide +kernel⟩
set_option maxRecDepth 100000 in
theorem q2_X12_feels : mQ2 mt_X12_feels := Or.inr ⟨mGw_of (i := 127) (by decide +kernel) (by decide +kernel), by decide +kernel, Or.inl (by decide +kernel), by decide +kernel, by decide, Or.inr ⟨by decide, mGw_of (i := 2054) (by decide +kernel) (by decide +kernel), mGw_of (i := 2055) (by decide +kernel) (by decide +kernel), by decide +kernel, by decide +kernel⟩⟩
set_option maxRecDepth 100000 in
theorem q1_X12_sure : mQ1 mt_X12_sure := ⟨by decide +kernel, by decide +kernel, by decide +kernel, by decide +kernel⟩
set_option maxRecDepth 100000 in
theorem q2_X12_sure : mQ2 mt_X12_sure := Or.inr ⟨mGw_of (i := 127) (by decide +kernel) (by decide +kernel), by decide +kernel, Or.inl (by decide +kernel), by decide +kernel, by decide, Or.inr ⟨by decide, mGw_of (i := 2082) (by decide +kernel) (by decide +kernel), mGw_of (i := 2083) (by decide +kernel) (by decide +kernel), by decide +kernel, by decide +kernel⟩⟩
set_option maxRecDepth 100000 in
theorem q1_X12_free : mQ1 mt_X12_free := ⟨by decide +kernel, by decide +kernel, by decide +kernel, by decide +kernel⟩
set_option maxRecDepth 100000 in
theorem q2_X12_free : mQ2 mt_X12_free := Or.inr ⟨mGw_of (i := 127) (by decide +kernel) (by decide +kernel), by decide +kernel, Or.inl (by decide +kernel), by decide +kernel, by decide, Or.inr ⟨by decide, mGw_of (i := 2086) (by decide +kernel) (by decide +kernel), mGw_of (i := 2087) (by decide +kernel) (by decide +kernel), by decide +kernel, by decide +kernel⟩⟩
set_option maxRecDepth 100000 in
theorem q1_X12_both : mQ1 mt_X12_both := ⟨by decide +kernel, by decide +kernel, by decide +kernel, by decide +kernel⟩
set_option maxRecDepth 100000 in
theorem q2_X12_both : mQ2 mt_X12_both := Or.inr ⟨mGw_of (i := 127) (by decide +kernel) (by decide +kernel), by decide +kernel, Or.inl (by decide +kernel), by decide +kernel, by decide, Or.inr ⟨by decide, mGw_of (i := 2090) (by decide +kernel) (by decide +kernel), mGw_of (i := 2091) (by decide +kernel) (by decide +kernel), by decide +kernel, by decide +kernel⟩⟩
set_option maxRecDepth 100000 in
theorem q1_X12_partBy : mQ1 mt_X12_partBy := ⟨by decide +kernel, by decide +kernel, by decide +kernel, by decide +kernel⟩
set_option maxRecDepth 100000 in
theorem q2_X12_partBy : mQ2 mt_X12_partBy := Or.inr ⟨mGw_of (i := 127) (by decide +kernel) (by decide +kernel), by decide +kernel, Or.inl (by decide +kernel), by decide +kernel, by decide, Or.inr ⟨by decide, mGw_of (i := 2099) (by decide +kernel) (by decide +kernel), mGw_of (i := 107) (by decide +kernel) (by decide +kernel), by decide +kernel, by decide +kernel⟩⟩
set_option maxRecDepth 100000 in
theorem q1_X12_ask : mQ1 mt_X12_ask := ⟨by decide +kernel, by decide +kernel, by decide +kernel, by decide +kernel⟩
set_option maxRecDepth 100000 in
theorem q2_X12_ask : mQ2 mt_X12_ask := Or.inr ⟨mGw_of (i := 127) (by decide +kernel) (by decide +kernel), by decide +kernel, Or.inl (by decide +kernel), by decide +kernel, by decide, Or.inr ⟨by decide, mGw_of (i := 2094) (by decide +kernel) (by decide +kernel), mGw_of (i := 2095) (by decide +kernel) (by decide +kernel), by decide +kernel, by decide +kernel⟩⟩
set_option maxRecDepth 100000 in
theorem q1_X12_touches : mQ1 mt_X12_touches := ⟨by decide +kernel, by decide +kernel, by decide +kernel, by decide +kernel⟩
set_option maxRecDepth 100000 in
theorem q2_X12_touches : mQ2 mt_X12_touches := Or.inr ⟨mGw_of (i := 127) (by decide +kernel) (by decide +kernel), by decide +kernel, Or.inl (by decide +kernel), by decide +kernel, by decide, Or.inr ⟨by decide, mGw_of (i := 2111) (by decide +kernel) (by decide +kernel), mGw_of (i := 109) (by decide +kernel) (by decide +kernel), by decide +kernel, by decide +kernel⟩⟩
set_option maxRecDepth 100000 in
theorem q1_X12_touchedBy : mQ1 mt_X12_touchedBy := ⟨by decide +kernel, by decide +kernel, by decide +kernel, by decide +kernel⟩
set_option maxRecDepth 100000 in
theorem q2_X12_touchedBy : mQ2 mt_X12_touchedBy := Or.inr ⟨mGw_of (i := 127) (by decide +kernel) (by decide +kernel), by decide +kernel, Or.inl (by decide +kernel), by decide +kernel, by decide, Or.inr ⟨by decide, mGw_of (i := 2107) (by decide +kernel) (by decide +kernel), mGw_of (i := 108) (by decide +kernel) (by decide +kernel), by decide +kernel, by decide +kernel⟩⟩
set_option maxRecDepth 100000 in
theorem q1_X12_reachedFrom : mQ1 mt_X12_reachedFrom := ⟨by decide +kernel, by decide +kernel, by decide +kernel, by decide +kernel⟩
set_option maxRecDepth 100000 in
theorem q2_X12_reachedFrom : mQ2 mt_X12_reachedFrom := Or.inr ⟨mGw_of (i := 127) (by decide +kernel) (by decide +kernel), by decide +kernel, Or.inl (by decide +kernel), by decide +kernel, by decide, Or.inr ⟨by decide, mGw_of (i := 2135) (by decide +kernel) (by decide +kernel), mGw_of (i := 112) (by decide +kernel) (by decide +kernel), by decide +kernel, by decide +kernel⟩⟩
set_option maxRecDepth 100000 in
theorem q1_X12_pushes : mQ1 mt_X12_pushes := ⟨by decide +kernel, by decide +kernel, by decide +kernel, by decide +kernel⟩
set_option maxRecDepth 100000 in
theorem q2_X12_pushes : mQ2 mt_X12_pushes := Or.inr ⟨mGw_of (i := 127) (by decide +kernel) (by decide +kernel), by decide +kernel, Or.inl (by decide +kernel), by decide +kernel, by decide, Or.inr ⟨by decide, mGw_of (i := 2102) (by decide +kernel) (by decide +kernel), mGw_of (i := 2103) (by decide +kernel) (by decide +kernel), by decide +kernel, by decide +kernel⟩⟩
set_option maxRecDepth 100000 in
theorem q1_X12_tellOf : mQ1 mt_X12_tellOf := ⟨by decide +kernel, by decide +kernel, by decide +kernel, by decide +kernel⟩
set_option maxRecDepth 100000 in
theorem q2_X12_tellOf : mQ2 mt_X12_tellOf := Or.inr ⟨mGw_of (i := 127) (by decide +kernel) (by decide +kernel), by decide +kernel, Or.inl (by decide +kernel), by decide +kernel, by decide, Or.inr ⟨by decide, mGw_of (i := 2119) (by decide +kernel) (by decide +kernel), mGw_of (i := 110) (by decide +kernel) (by decide +kernel), by decide +kernel, by decide +kernel⟩⟩
set_option maxRecDepth 100000 in
theorem q1_X12_tell : mQ1 mt_X12_tell := ⟨by decide +kernel, by decide +kernel, by decide +kernel, by decide +kernel⟩
set_option maxRecDepth 100000 in
theorem q2_X12_tell : mQ2 mt_X12_tell := Or.inr ⟨mGw_of (i := 127) (by decide +kernel) (by decide +kernel), by decide +kernel, Or.inl (by decide +kernel), by decide +kernel, by decide, Or.inr ⟨by decide, mGw_of (i := 2114) (by decide +kernel) (by decide +kernel), mGw_of (i := 2115) (by decide +kernel) (by decide +kernel), by decide +kernel, by decide +kernel⟩⟩
set_option maxRecDepth 100000 in
theorem q1_X12_herald : mQ1 mt_X12_herald := ⟨by decide +kernel, by decide +kernel, by decide +kernel, by decide +kernel⟩
set_option maxRecDepth 100000 in
theorem q2_X12_herald : mQ2 mt_X12_herald := Or.inr ⟨mGw_of (i := 127) (by decide +kernel) (by decide +kernel), by decide +kernel, Or.inl (by decide +kernel), by decide +kernel, by decide, Or.inr ⟨by decide, mGw_of (i := 2122) (by decide +kernel) (by decide +kernel), mGw_of (i := 2123) (by decide +kernel) (by decide +kernel), by decide +kernel, by decide +kernel⟩⟩
set_option maxRecDepth 100000 in
theorem q1_X12_pairsAmong : mQ1 mt_X12_pairsAmong := ⟨by decide +kernel, by decide +kernel, by decide +kernel, by decide +kernel⟩
set_option maxRecDepth 100000 in
theorem q2_X12_pairsAmong : mQ2 mt_X12_pairsAmong := Or.inr ⟨mGw_of (i := 127) (by decide +kernel) (by decide +kernel), by decide +kernel, Or.inl (by decide +kernel), by decide +kernel, by decide, Or.inr ⟨by decide, mGw_of (i := 2131) (by decide +kernel) (by decide +kernel), mGw_of (i := 111) (by decide +kernel) (by decide +kernel), by decide +kernel, by decide +kernel⟩⟩
set_option maxRecDepth 100000 in
theorem q1_X12_cuts : mQ1 mt_X12_cuts := ⟨by decide +kernel, by decide +kernel, by decide +kernel, by decide +kernel⟩
set_option maxRecDepth 100000 in
theorem q2_X12_cuts : mQ2 mt_X12_cuts := Or.inr ⟨mGw_of (i := 127) (by decide +kernel) (by decide +kernel), by decide +kernel, Or.inl (by decide +kernel), by decide +kernel, by decide, Or.inr ⟨by decide, mGw_of (i := 2126) (by decide +kernel) (by decide +kernel), mGw_of (i := 2127) (by decide +kernel) (by decide +kernel), by decide +kernel, by decide +kernel⟩⟩
set_option maxRecDepth 100000 in
theorem q1_X12_fullOf : mQ1 mt_X12_fullOf := ⟨by decide +kernel, by decide +kernel, by decide +kernel, by decide +kernel⟩
set_option maxRecDepth 100000 in
theorem q2_X12_fullOf : mQ2 mt_X12_fullOf := Or.inr ⟨mGw_of (i := 127) (by decide +kernel) (by decide +kernel), by decide +kernel, Or.inl (by decide +kernel), by decide +kernel, by decide, Or.inr ⟨by decide, mGw_of (i := 2147) (by decide +kernel) (by decide +kernel), mGw_of (i := 114) (by decide +kernel) (by decide +kernel), by decide +kernel, by decide +kernel⟩⟩
set_option maxRecDepth 100000 in
theorem q1_X12_laysPlaces : mQ1 mt_X12_laysPlaces := ⟨by decide +kernel, by decide +kernel, by decide +kernel, by decide +kernel⟩
set_option maxRecDepth 100000 in
theorem q2_X12_laysPlaces : mQ2 mt_X12_laysPlaces := Or.inr ⟨mGw_of (i := 127) (by decide +kernel) (by decide +kernel), by decide +kernel, Or.inl (by decide +kernel), by decide +kernel, by decide, Or.inr ⟨by decide, mGw_of (i := 2143) (by decide +kernel) (by decide +kernel), mGw_of (i := 113) (by decide +kernel) (by decide +kernel), by decide +kernel, by decide +kernel⟩⟩
set_option maxRecDepth 100000 in
theorem q1_X12_fewestPlaces : mQ1 mt_X12_fewestPlaces := ⟨by decide +kernel, by decide +kernel, by decide +kernel, by decide +kernel⟩
set_option maxRecDepth 100000 in
theorem q2_X12_fewestPlaces : mQ2 mt_X12_fewestPlaces := Or.inr ⟨mGw_of (i := 127) (by decide +kernel) (by decide +kernel), by decide +kernel, Or.inl (by decide +kernel), by decide +kernel, by decide, Or.inr ⟨by decide, mGw_of (i := 2151) (by decide +kernel) (by decide +kernel), mGw_of (i := 115) (by decide +kernel) (by decide +kernel), by decide +kernel, by decide +kernel⟩⟩
set_option maxRecDepth 100000 in
theorem q1_X12_roster : mQ1 mt_X12_roster := ⟨by decide +kernel, by decide +kernel, by decide +kernel, by decide +kernel⟩
set_option maxRecDepth 100000 in
theorem q2_X12_roster : mQ2 mt_X12_roster := Or.inr ⟨mGw_of (i := 127) (by decide +kernel) (by decide +kernel), by decide +kernel, Or.inl (by decide +kernel), by decide +kernel, by decide, Or.inr ⟨by decide, mGw_of (i := 2138) (by decide +kernel) (by decide +kernel), mGw_of (i := 2139) (by decide +kernel) (by decide +kernel), by decide +kernel, by decide +kernel⟩⟩
set_option maxRecDepth 100000 in
theorem q1_X12_pairs : mQ1 mt_X12_pairs := ⟨by decide +kernel, by decide +kernel, by decide +kernel, by decide +kernel⟩
set_option maxRecDepth 100000 in
theorem q2_X12_pairs : mQ2 mt_X12_pairs := Or.inr ⟨mGw_of (i := 127) (by decide +kernel) (by decide +kernel), by decide +kernel, Or.inl (by decide +kernel), by decide +kernel, by decide, Or.inr ⟨by decide, mGw_of (i := 2154) (by decide +kernel) (by decide +kernel), mGw_of (i := 2155) (by decide +kernel) (by decide +kernel), by decide +kernel, by decide +kernel⟩⟩
set_option maxRecDepth 100000 in
theorem q1_X12_dearest : mQ1 mt_X12_dearest := ⟨by decide +kernel, by decide +kernel, by decide +kernel, by decide +kernel⟩
set_option maxRecDepth 100000 in
theorem q2_X12_dearest : mQ2 mt_X12_dearest := Or.inr ⟨mGw_of (i := 127) (by decide +kernel) (by decide +kernel), by decide +kernel, Or.inl (by decide +kernel), by decide +kernel, by decide, Or.inr ⟨by decide, mGw_of (i := 2158) (by decide +kernel) (by decide +kernel), mGw_of (i := 2159) (by decide +kernel) (by decide +kernel), by decide +kernel, by decide +kernel⟩⟩
set_option maxRecDepth 100000 in
theorem q1_X12_firstHas : mQ1 mt_X12_firstHas := ⟨by decide +kernel, by decide +kernel, by decide +kernel, by decide +kernel⟩
set_option maxRecDepth 100000 in
theorem q2_X12_firstHas : mQ2 mt_X12_firstHas := Or.inr ⟨mGw_of (i := 127) (by decide +kernel) (by decide +kernel), by decide +kernel, Or.inl (by decide +kernel), by decide +kernel, by decide, Or.inl ⟨rfl, mGw_of (i := 2166) (by decide +kernel) (by decide +kernel), by decide +kernel⟩⟩
set_option maxRecDepth 100000 in
theorem q1_X12_otherHas : mQ1 mt_X12_otherHas := ⟨by decide +kernel, by decide +kernel, by decide +kernel, by decide +kernel⟩
set_option maxRecDepth 100000 in
theorem q2_X12_otherHas : mQ2 mt_X12_otherHas := Or.inr ⟨mGw_of (i := 127) (by decide +kernel) (by decide +kernel), by decide +kernel, Or.inl (by decide +kernel), by decide +kernel, by decide, Or.inl ⟨rfl, mGw_of (i := 2169) (by decide +kernel) (by decide +kernel), by decide +kernel⟩⟩
set_option maxRecDepth 100000 in
theorem q1_X12_rests : mQ1 mt_X12_rests := ⟨by decide +kernel, by decide +kernel, by decide +kernel, by decide +kernel⟩
set_option maxRecDepth 100000 in
theorem q2_X12_rests : mQ2 mt_X12_rests := Or.inr ⟨mGw_of (i := 127) (by decide +kernel) (by decide +kernel), by decide +kernel, Or.inl (by decide +kernel), by decide +kernel, by decide, Or.inr ⟨by decide, mGw_of (i := 2162) (by decide +kernel) (by decide +kernel), mGw_of (i := 2163) (by decide +kernel) (by decide +kernel), by decide +kernel, by decide +kernel⟩⟩
set_option maxRecDepth 100000 in
theorem q1_X12_odds : mQ1 mt_X12_odds := ⟨by decide +kernel, by decide +kernel, by decide +kernel, by decide +kernel⟩
set_option maxRecDepth 100000 in
theorem q2_X12_odds : mQ2 mt_X12_odds := Or.inr ⟨mGw_of (i := 127) (by decide +kernel) (by decide +kernel), by decide +kernel, Or.inl (by decide +kernel), by decide +kernel, by decide, Or.inr ⟨by decide, mGw_of (i := 2172) (by decide +kernel) (by decide +kernel), mGw_of (i := 2173) (by decide +kernel) (by decide +kernel), by decide +kernel, by decide +kernel⟩⟩
set_option maxRecDepth 100000 in
theorem q1_X12_alone : mQ1 mt_X12_alone := ⟨by decide +kernel, by decide +kernel, by decide +kernel, by decide +kernel⟩
set_option maxRecDepth 100000 in
theorem q2_X12_alone : mQ2 mt_X12_alone := Or.inr ⟨mGw_of (i := 127) (by decide +kernel) (by decide +kernel), by decide +kernel, Or.inl (by decide +kernel), by decide +kernel, by decide, Or.inr ⟨by decide, mGw_of (i := 2176) (by decide +kernel) (by decide +kernel), mGw_of (i := 2177) (by decide +kernel) (by decide +kernel), by decide +kernel, by decide +kernel⟩⟩
set_option maxRecDepth 100000 in
theorem q1_X12_tired : mQ1 mt_X12_tired := ⟨by decide +kernel, by decide +kernel, by decide +kernel, by decide +kernel⟩
set_option maxRecDepth 100000 in
theorem q2_X12_tired : mQ2 mt_X12_tired := Or.inr ⟨mGw_of (i := 127) (by decide +kernel) (by decide +kernel), by decide +kernel, Or.inl (by decide +kernel), by decide +kernel, by decide, Or.inr ⟨by decide, mGw_of (i := 2180) (by decide +kernel) (by decide +kernel), mGw_of (i := 2181) (by decide +kernel) (by decide +kernel), by decide +kernel, by decide +kernel⟩⟩
set_option maxRecDepth 100000 in
theorem q1_X12_twins : mQ1 mt_X12_twins := ⟨by decide +kernel, by decide +kernel, by decide +kernel, by decide +kernel⟩
set_option maxRecDepth 100000 in
theorem q2_X12_twins : mQ2 mt_X12_twins := Or.inr ⟨mGw_of (i := 127) (by decide +kernel) (by decide +kernel), by decide +kernel, Or.inl (by decide +kernel), by decide +kernel, by decide, Or.inr ⟨by decide, mGw_of (i := 2184) (by decide +kernel) (by decide +kernel), mGw_of (i := 2185) (by decide +kernel) (by decide +kernel), by decide +kernel, by decide +kernel⟩⟩
set_option maxRecDepth 100000 in
theorem q1_X12_ring : mQ1 mt_X12_ring := ⟨by decide +kernel, by decide +kernel, by decide +kernel, by decide +kernel⟩
set_option maxRecDepth 100000 in
theorem q2_X12_ring : mQ2 mt_X12_ring := Or.inr ⟨mGw_of (i := 127) (by decide +kernel) (by decide +kernel), by decide +kernel, Or.inl (by decide +kernel), by decide +kernel, by decide, Or.inr ⟨by decide, mGw_of (i := 2188) (by decide +kernel) (by decide +kernel), mGw_of (i := 2189) (by decide +kernel) (by decide +kernel), by decide +kernel, by decide +kernel⟩⟩
set_option maxRecDepth 100000 in
theorem q1_X12_reserves : mQ1 mt_X12_reserves := ⟨by decide +kernel, by decide +kernel, by decide +kernel, by decide +kernel⟩
set_option maxRecDepth 100000 in
theorem q2_X12_reserves : mQ2 mt_X12_reserves := Or.inr ⟨mGw_of (i := 127) (by decide +kernel) (by decide +kernel), by decide +kernel, Or.inl (by decide +kernel), by decide +kernel, by decide, Or.inr ⟨by decide, mGw_of (i := 2192) (by decide +kernel) (by decide +kernel), mGw_of (i := 2193) (by decide +kernel) (by decide +kernel), by decide +kernel, by decide +kernel⟩⟩
set_option maxRecDepth 100000 in
theorem q1_X12_sleepers : mQ1 mt_X12_sleepers := ⟨by decide +kernel, by decide +kernel, by decide +kernel, by decide +kernel⟩
set_option maxRecDepth 100000 in
theorem q2_X12_sleepers : mQ2 mt_X12_sleepers := Or.inr ⟨mGw_of (i := 127) (by decide +kernel) (by decide +kernel), by decide +kernel, Or.inl (by decide +kernel), by decide +kernel, by decide, Or.inr ⟨by decide, mGw_of (i := 2196) (by decide +kernel) (by decide +kernel), mGw_of (i := 2197) (by decide +kernel) (by decide +kernel), by decide +kernel, by decide +kernel⟩⟩
set_option maxRecDepth 100000 in
theorem q1_X12_noAhead : mQ1 mt_X12_noAhead := ⟨by decide +kernel, by decide +kernel, by decide +kernel, by decide +kernel⟩
set_option maxRecDepth 100000 in
theorem q2_X12_noAhead : mQ2 mt_X12_noAhead := Or.inr ⟨mGw_of (i := 127) (by decide +kernel) (by decide +kernel), by decide +kernel, Or.inl (by decide +kernel), by decide +kernel, by decide, Or.inl ⟨rfl, mGw_of (i := 2208) (by decide +kernel) (by decide +kernel), by decide +kernel⟩⟩
set_option maxRecDepth 100000 in
theorem q1_X12_soon : mQ1 mt_X12_soon := ⟨by decide +kernel, by decide +kernel, by decide +kernel, by decide +kernel⟩
set_option maxRecDepth 100000 in
theorem q2_X12_soon : mQ2 mt_X12_soon := Or.inr ⟨mGw_of (i := 127) (by decide +kernel) (by decide +kernel), by decide +kernel, Or.inl (by decide +kernel), by decide +kernel, by decide, Or.inr ⟨by decide, mGw_of (i := 2200) (by decide +kernel) (by decide +kernel), mGw_of (i := 2201) (by decide +kernel) (by decide +kernel), by decide +kernel, by decide +kernel⟩⟩
set_option maxRecDepth 100000 in
theorem q1_X12_ahead : mQ1 mt_X12_ahead := ⟨by decide +kernel, by decide +kernel, by decide +kernel, by decide +kernel⟩
set_option maxRecDepth 100000 in
theorem q2_X12_ahead : mQ2 mt_X12_ahead := Or.inr ⟨mGw_of (i := 127) (by decide +kernel) (by decide +kernel), by decide +kernel, Or.inl (by decide +kernel), by decide +kernel, by decide, Or.inr ⟨by decide, mGw_of (i := 2204) (by decide +kernel) (by decide +kernel), mGw_of (i := 2205) (by decide +kernel) (by decide +kernel), by decide +kernel, by decide +kernel⟩⟩
set_option maxRecDepth 100000 in
theorem q1_X12_trial : mQ1 mt_X12_trial := ⟨by decide +kernel, by decide +kernel, by decide +kernel, by decide +kernel⟩
set_option maxRecDepth 100000 in
theorem q2_X12_trial : mQ2 mt_X12_trial := Or.inr ⟨mGw_of (i := 127) (by decide +kernel) (by decide +kernel), by decide +kernel, Or.inl (by decide +kernel), by decide +kernel, by decide, Or.inr ⟨by decide, mGw_of (i := 2211) (by decide +kernel) (by decide +kernel), mGw_of (i := 2212) (by decide +kernel) (by decide +kernel), by decide +kernel, by decide +kernel⟩⟩
set_option maxRecDepth 100000 in
theorem q1_X12_span : mQ1 mt_X12_span := ⟨by decide +kernel, by decide +kernel, by decide +kernel, by decide +kernel⟩
set_option maxRecDepth 100000 in
theorem q2_X12_span : mQ2 mt_X12_span := Or.inr ⟨mGw_of (i := 127) (by decide +kernel) (by decide +kernel), by decide +kernel, Or.inl (by decide +kernel), by decide +kernel, by decide, Or.inr ⟨by decide, mGw_of (i := 2215) (by decide +kernel) (by decide +kernel), mGw_of (i := 2216) (by decide +kernel) (by decide +kernel), by decide +kernel, by decide +kernel⟩⟩
set_option maxRecDepth 100000 in
theorem q1_X12_ofLog : mQ1 mt_X12_ofLog := ⟨by decide +kernel, by decide +kernel, by decide +kernel, by decide +kernel⟩
set_option maxRecDepth 100000 in
theorem q2_X12_ofLog : mQ2 mt_X12_ofLog := Or.inr ⟨mGw_of (i := 127) (by decide +kernel) (by decide +kernel), by decide +kernel, Or.inl (by decide +kernel), by decide +kernel, by decide, Or.inr ⟨by decide, mGw_of (i := 2224) (by decide +kernel) (by decide +kernel), mGw_of (i := 116) (by decide +kernel) (by decide +kernel), by decide +kernel, by decide +kernel⟩⟩
set_option maxRecDepth 100000 in
theorem q1_X12_led : mQ1 mt_X12_led := ⟨by decide +kernel, by decide +kernel, by decide +kernel, by decide +kernel⟩
set_option maxRecDepth 100000 in
theorem q2_X12_led : mQ2 mt_X12_led := Or.inr ⟨mGw_of (i := 127) (by decide +kernel) (by decide +kernel), by decide +kernel, Or.inl (by decide +kernel), by decide +kernel, by decide, Or.inr ⟨by decide, mGw_of (i := 2219) (by decide +kernel) (by decide +kernel), mGw_of (i := 2220) (by decide +kernel) (by decide +kernel), by decide +kernel, by decide +kernel⟩⟩
set_option maxRecDepth 100000 in
theorem q1_X12_log : mQ1 mt_X12_log := ⟨by decide +kernel, by decide +kernel, by decide +kernel, by decide +kernel⟩
set_option maxRecDepth 100000 in
theorem q2_X12_log : mQ2 mt_X12_log := Or.inr ⟨mGw_of (i := 127) (by decide +kernel) (by decide +kernel), by decide +kernel, Or.inl (by decide +kernel), by decide +kernel, by decide, Or.inr ⟨by decide, mGw_of (i := 2227) (by decide +kernel) (by decide +kernel), mGw_of (i := 2228) (by decide +kernel) (by decide +kernel), by decide +kernel, by decide +kernel⟩⟩
set_option maxRecDepth 100000 in
theorem q1_X12_seed : mQ1 mt_X12_seed := ⟨by decide +kernel, by decide +kernel, by decide +kernel, by decide +kernel⟩
set_option maxRecDepth 100000 in
theorem q2_X12_seed : mQ2 mt_X12_seed := Or.inr ⟨mGw_of (i := 127) (by decide +kernel) (by decide +kernel), by decide +kernel, Or.inl (by decide +kernel), by decide +kernel, by decide, Or.inr ⟨by decide, mGw_of (i := 2231) (by decide +kernel) (by decide +kernel), mGw_of (i := 2232) (by decide +kernel) (by decide +kernel), by decide +kernel, by decide +kernel⟩⟩
set_option maxRecDepth 100000 in
theorem q1_X12_count : mQ1 mt_X12_count := ⟨by decide +kernel, by decide +kernel, by decide +kernel, by decide +kernel⟩
set_option maxRecDepth 100000 in
theorem q2_X12_count : mQ2 mt_X12_count := Or.inr ⟨mGw_of (i := 127) (by decide +kernel) (by decide +kernel), by decide +kernel, Or.inl (by decide +kernel), by decide +kernel, by decide, Or.inr ⟨by decide, mGw_of (i := 2235) (by decide +kernel) (by decide +kernel), mGw_of (i := 2236) (by decide +kernel) (by decide +kernel), by decide +kernel, by decide +kernel⟩⟩
set_option maxRecDepth 100000 in
theorem q1_L_tower : mQ1 mt_L_tower := ⟨by decide +kernel, by decide +kernel, by decide +kernel, by decide +kernel⟩
set_option maxRecDepth 100000 in
theorem q2_L_tower : mQ2 mt_L_tower := Or.inr ⟨mGw_of (i := 117) (by decide +kernel) (by decide +kernel), by decide +kernel, Or.inl (by decide +kernel), by decide +kernel, by decide, Or.inl ⟨rfl, mGw_of (i := 757) (by decide +kernel) (by decide +kernel), by decide +kernel⟩⟩
set_option maxRecDepth 100000 in
theorem q1_L_law : mQ1 mt_L_law := ⟨by decide +kernel, by decide +kernel, by decide +kernel, by decide +kernel⟩
set_option maxRecDepth 100000 in
theorem q2_L_law : mQ2 mt_L_law := Or.inr ⟨mGw_of (i := 117) (by decide +kernel) (by decide +kernel), by decide +kernel, Or.inl (by decide +kernel), by decide +kernel, by decide, Or.inl ⟨rfl, mGw_of (i := 994) (by decide +kernel) (by decide +kernel), by decide +kernel⟩⟩
set_option maxRecDepth 100000 in
theorem q1_L_person : mQ1 mt_L_person := ⟨by decide +kernel, by decide +kernel, by decide +kernel, by decide +kernel⟩
set_option maxRecDepth 100000 in
theorem q2_L_person : mQ2 mt_L_person := Or.inr ⟨mGw_of (i := 117) (by decide +kernel) (by decide +kernel), by decide +kernel, Or.inl (by decide +kernel), by decide +kernel, by decide, Or.inl ⟨rfl, mGw_of (i := 1058) (by decide +kernel) (by decide +kernel), by decide +kernel⟩⟩
set_option maxRecDepth 100000 in
theorem q1_L_hours : mQ1 mt_L_hours := ⟨by decide +kernel, by decide +kernel, by decide +kernel, by decide +kernel⟩
set_option maxRecDepth 100000 in
theorem q2_L_hours : mQ2 mt_L_hours := Or.inr ⟨mGw_of (i := 117) (by decide +kernel) (by decide +kernel), by decide +kernel, Or.inl (by decide +kernel), by decide +kernel, by decide, Or.inl ⟨rfl, mGw_of (i := 1109) (by decide +kernel) (by decide +kernel), by decide +kernel⟩⟩
set_option maxRecDepth 100000 in
theorem q1_L_rise : mQ1 mt_L_rise := ⟨by decide +kernel, by decide +kernel, by decide +kernel, by decide +kernel⟩
set_option maxRecDepth 100000 in
theorem q2_L_rise : mQ2 mt_L_rise := Or.inr ⟨mGw_of (i := 117) (by decide +kernel) (by decide +kernel), by decide +kernel, Or.inl (by decide +kernel), by decide +kernel, by decide, Or.inl ⟨rfl, mGw_of (i := 1125) (by decide +kernel) (by decide +kernel), by decide +kernel⟩⟩
set_option maxRecDepth 100000 in
theorem q1_L_out : mQ1 mt_L_out := ⟨by decide +kernel, by decide +kernel, by decide +kernel, by decide +kernel⟩
set_option maxRecDepth 100000 in
theorem q2_L_out : mQ2 mt_L_out := Or.inr ⟨mGw_of (i := 117) (by decide +kernel) (by decide +kernel), by decide +kernel, Or.inl (by decide +kernel), by decide +kernel, by decide, Or.inl ⟨rfl, mGw_of (i := 1168) (by decide +kernel) (by decide +kernel), by decide +kernel⟩⟩
set_option maxRecDepth 100000 in
theorem q1_L_relieve : mQ1 mt_L_relieve := ⟨by decide +kernel, by decide +kernel, by decide +kernel, by decide +kernel⟩
set_option maxRecDepth 100000 in
theorem q2_L_relieve : mQ2 mt_L_relieve := Or.inr ⟨mGw_of (i := 117) (by decide +kernel) (by decide +kernel), by decide +kernel, Or.inl (by decide +kernel), by decide +kernel, by decide, Or.inl ⟨rfl, mGw_of (i := 1179) (by decide +kernel) (by decide +kernel), by decide +kernel⟩⟩
set_option maxRecDepth 100000 in
theorem q1_L_lean : mQ1 mt_L_lean := ⟨by decide +kernel, by decide +kernel, by decide +kernel, by decide +kernel⟩
set_option maxRecDepth 100000 in
theorem q2_L_lean : mQ2 mt_L_lean := Or.inr ⟨mGw_of (i := 117) (by decide +kernel) (by decide +kernel), by decide +kernel, Or.inl (by decide +kernel), by decide +kernel, by decide, Or.inl ⟨rfl, mGw_of (i := 1195) (by decide +kernel) (by decide +kernel), by decide +kernel⟩⟩
set_option maxRecDepth 100000 in
theorem q1_L_wake : mQ1 mt_L_wake := ⟨by decide +kernel, by decide +kernel, by decide +kernel, by decide +kernel⟩
set_option maxRecDepth 100000 in
theorem q2_L_wake : mQ2 mt_L_wake := Or.inr ⟨mGw_of (i := 117) (by decide +kernel) (by decide +kernel), by decide +kernel, Or.inl (by decide +kernel), by decide +kernel, by decide, Or.inl ⟨rfl, mGw_of (i := 1202) (by decide +kernel) (by decide +kernel), by decide +kernel⟩⟩
set_option maxRecDepth 100000 in
theorem q1_L_sleep : mQ1 mt_L_sleep := ⟨by decide +kernel, by decide +kernel, by decide +kernel, by decide +kernel⟩
set_option maxRecDepth 100000 in
theorem q2_L_sleep : mQ2 mt_L_sleep := Or.inr ⟨mGw_of (i := 117) (by decide +kernel) (by decide +kernel), by decide +kernel, Or.inl (by decide +kernel), by decide +kernel, by decide, Or.inl ⟨rfl, mGw_of (i := 1209) (by decide +kernel) (by decide +kernel), by decide +kernel⟩⟩
set_option maxRecDepth 100000 in
theorem q1_L_need : mQ1 mt_L_need := ⟨by decide +kernel, by decide +kernel, by decide +kernel, by decide +kernel⟩
set_option maxRecDepth 100000 in
theorem q2_L_need : mQ2 mt_L_need := Or.inr ⟨mGw_of (i := 117) (by decide +kernel) (by decide +kernel), by decide +kernel, Or.inl (by decide +kernel), by decide +kernel, by decide, Or.inl ⟨rfl, mGw_of (i := 1216) (by decide +kernel) (by decide +kernel), by decide +kernel⟩⟩
set_option maxRecDepth 100000 in
theorem q1_L_more : mQ1 mt_L_more := ⟨by decide +kernel, by decide +kernel, by decide +kernel, by decide +kernel⟩
set_option maxRecDepth 100000 in
theorem q2_L_more : mQ2 mt_L_more := Or.inr ⟨mGw_of (i := 117) (by decide +kernel) (by decide +kernel), by decide +kernel, Or.inl (by decide +kernel), by decide +kernel, by decide, Or.inl ⟨rfl, mGw_of (i := 1223) (by decide +kernel) (by decide +kernel), by decide +kernel⟩⟩
set_option maxRecDepth 100000 in
theorem q1_L_falls : mQ1 mt_L_falls := ⟨by decide +kernel, by decide +kernel, by decide +kernel, by decide +kernel⟩
set_option maxRecDepth 100000 in
theorem q2_L_falls : mQ2 mt_L_falls := Or.inr ⟨mGw_of (i := 117) (by decide +kernel) (by decide +kernel), by decide +kernel, Or.inl (by decide +kernel), by decide +kernel, by decide, Or.inl ⟨rfl, mGw_of (i := 1230) (by decide +kernel) (by decide +kernel), by decide +kernel⟩⟩
set_option maxRecDepth 100000 in
theorem q1_L_rounds : mQ1 mt_L_rounds := ⟨by decide +kernel, by decide +kernel, by decide +kernel, by decide +kernel⟩
set_option maxRecDepth 100000 in
theorem q2_L_rounds : mQ2 mt_L_rounds := Or.inr ⟨mGw_of (i := 117) (by decide +kernel) (by decide +kernel), by decide +kernel, Or.inl (by decide +kernel), by decide +kernel, by decide, Or.inl ⟨rfl, mGw_of (i := 1237) (by decide +kernel) (by decide +kernel), by decide +kernel⟩⟩
set_option maxRecDepth 100000 in
theorem q1_L_fallen : mQ1 mt_L_fallen := ⟨by decide +kernel, by decide +kernel, by decide +kernel, by decide +kernel⟩
set_option maxRecDepth 100000 in
theorem q2_L_fallen : mQ2 mt_L_fallen := Or.inr ⟨mGw_of (i := 117) (by decide +kernel) (by decide +kernel), by decide +kernel, Or.inl (by decide +kernel), by decide +kernel, by decide, Or.inl ⟨rfl, mGw_of (i := 1244) (by decide +kernel) (by decide +kernel), by decide +kernel⟩⟩
set_option maxRecDepth 100000 in
theorem q1_L_guard : mQ1 mt_L_guard := ⟨by decide +kernel, by decide +kernel, by decide +kernel, by decide +kernel⟩
set_option maxRecDepth 100000 in
theorem q2_L_guard : mQ2 mt_L_guard := Or.inr ⟨mGw_of (i := 117) (by decide +kernel) (by decide +kernel), by decide +kernel, Or.inl (by decide +kernel), by decide +kernel, by decide, Or.inl ⟨rfl, mGw_of (i := 1251) (by decide +kernel) (by decide +kernel), by decide +kernel⟩⟩
set_option maxRecDepth 100000 in
theorem q1_L_solo : mQ1 mt_L_solo := ⟨by decide +kernel, by decide +kernel, by decide +kernel, by decide +kernel⟩
set_option maxRecDepth 100000 in
theorem q2_L_solo : mQ2 mt_L_solo := Or.inr ⟨mGw_of (i := 117) (by decide +kernel) (by decide +kernel), by decide +kernel, Or.inl (by decide +kernel), by decide +kernel, by decide, Or.inl ⟨rfl, mGw_of (i := 1290) (by decide +kernel) (by decide +kernel), by decide +kernel⟩⟩
set_option maxRecDepth 100000 in
theorem q1_L_feels : mQ1 mt_L_feels := ⟨by decide +kernel, by decide +kernel, by decide +kernel, by decide +kernel⟩
set_option maxRecDepth 100000 in
theorem q2_L_feels : mQ2 mt_L_feels := Or.inr ⟨mGw_of (i := 117) (by decide +kernel) (by decide +kernel), by decide +kernel, Or.inl (by decide +kernel), by decide +kernel, by decide, Or.inl ⟨rfl, mGw_of (i := 1301) (by decide +kernel) (by decide +kernel), by decide +kernel⟩⟩
set_option maxRecDepth 100000 in
theorem q1_L_sure : mQ1 mt_L_sure := ⟨by decide +kernel, by decide +kernel, by decide +kernel, by decide +kernel⟩
set_option maxRecDepth 100000 in
theorem q2_L_sure : mQ2 mt_L_sure := Or.inr ⟨mGw_of (i := 117) (by decide +kernel) (by decide +kernel), by decide +kernel, Or.inl (by decide +kernel), by decide +kernel, by decide, Or.inl ⟨rfl, mGw_of (i := 1325) (by decide +kernel) (by decide +kernel), by decide +kernel⟩⟩
set_option maxRecDepth 100000 in
theorem q1_L_free : mQ1 mt_L_free := ⟨by decide +kernel, by decide +kernel, by decide +kernel, by decide +kernel⟩
set_option maxRecDepth 100000 in
theorem q2_L_free : mQ2 mt_L_free := Or.inr ⟨mGw_of (i := 117) (by decide +kernel) (by decide +kernel), by decide +kernel, Or.inl (by decide +kernel), by decide +kernel, by decide, Or.inl ⟨rfl, mGw_of (i := 1336) (by decide +kernel) (by decide +kernel), by decide +kernel⟩⟩
set_option maxRecDepth 100000 in
theorem q1_L_both : mQ1 mt_L_both := ⟨by decide +kernel, by decide +kernel, by decide +kernel, by decide +kernel⟩
set_option maxRecDepth 100000 in
theorem q2_L_both : mQ2 mt_L_both := Or.inr ⟨mGw_of (i := 117) (by decide +kernel) (by decide +kernel), by decide +kernel, Or.inl (by decide +kernel), by decide +kernel, by decide, Or.inl ⟨rfl, mGw_of (i := 1347) (by decide +kernel) (by decide +kernel), by decide +kernel⟩⟩
set_option maxRecDepth 100000 in
theorem q1_L_ask : mQ1 mt_L_ask := ⟨by decide +kernel, by decide +kernel, by decide +kernel, by decide +kernel⟩
set_option maxRecDepth 100000 in
theorem q2_L_ask : mQ2 mt_L_ask := Or.inr ⟨mGw_of (i := 117) (by decide +kernel) (by decide +kernel), by decide +kernel, Or.inl (by decide +kernel), by decide +kernel, by decide, Or.inl ⟨rfl, mGw_of (i := 1354) (by decide +kernel) (by decide +kernel), by decide +kernel⟩⟩
set_option maxRecDepth 100000 in
theorem q1_L_pushes : mQ1 mt_L_pushes := ⟨by decide +kernel, by decide +kernel, by decide +kernel, by decide +kernel⟩
set_option maxRecDepth 100000 in
theorem q2_L_pushes : mQ2 mt_L_pushes := Or.inr ⟨mGw_of (i := 117) (by decide +kernel) (by decide +kernel), by decide +kernel, Or.inl (by decide +kernel), by decide +kernel, by decide, Or.inl ⟨rfl, mGw_of (i := 1371) (by decide +kernel) (by decide +kernel), by decide +kernel⟩⟩
set_option maxRecDepth 100000 in
theorem q1_L_tell : mQ1 mt_L_tell := ⟨by decide +kernel, by decide +kernel, by decide +kernel, by decide +kernel⟩
set_option maxRecDepth 100000 in
theorem q2_L_tell : mQ2 mt_L_tell := Or.inr ⟨mGw_of (i := 117) (by decide +kernel) (by decide +kernel), by decide +kernel, Or.inl (by decide +kernel), by decide +kernel, by decide, Or.inl ⟨rfl, mGw_of (i := 1378) (by decide +kernel) (by decide +kernel), by decide +kernel⟩⟩
set_option maxRecDepth 100000 in
theorem q1_L_cuts : mQ1 mt_L_cuts := ⟨by decide +kernel, by decide +kernel, by decide +kernel, by decide +kernel⟩
set_option maxRecDepth 100000 in
theorem q2_L_cuts : mQ2 mt_L_cuts := Or.inr ⟨mGw_of (i := 117) (by decide +kernel) (by decide +kernel), by decide +kernel, Or.inl (by decide +kernel), by decide +kernel, by decide, Or.inl ⟨rfl, mGw_of (i := 1385) (by decide +kernel) (by decide +kernel), by decide +kernel⟩⟩
set_option maxRecDepth 100000 in
theorem q1_L_roster : mQ1 mt_L_roster := ⟨by decide +kernel, by decide +kernel, by decide +kernel, by decide +kernel⟩
set_option maxRecDepth 100000 in
theorem q2_L_roster : mQ2 mt_L_roster := Or.inr ⟨mGw_of (i := 117) (by decide +kernel) (by decide +kernel), by decide +kernel, Or.inl (by decide +kernel), by decide +kernel, by decide, Or.inl ⟨rfl, mGw_of (i := 1395) (by decide +kernel) (by decide +kernel), by decide +kernel⟩⟩
set_option maxRecDepth 100000 in
theorem q1_L_pairs : mQ1 mt_L_pairs := ⟨by decide +kernel, by decide +kernel, by decide +kernel, by decide +kernel⟩
set_option maxRecDepth 100000 in
theorem q2_L_pairs : mQ2 mt_L_pairs := Or.inr ⟨mGw_of (i := 117) (by decide +kernel) (by decide +kernel), by decide +kernel, Or.inl (by decide +kernel), by decide +kernel, by decide, Or.inl ⟨rfl, mGw_of (i := 1410) (by decide +kernel) (by decide +kernel), by decide +kernel⟩⟩
set_option maxRecDepth 100000 in
theorem q1_L_rests : mQ1 mt_L_rests := ⟨by decide +kernel, by decide +kernel, by decide +kernel, by decide +kernel⟩
set_option maxRecDepth 100000 in
theorem q2_L_rests : mQ2 mt_L_rests := Or.inr ⟨mGw_of (i := 117) (by decide +kernel) (by decide +kernel), by decide +kernel, Or.inl (by decide +kernel), by decide +kernel, by decide, Or.inl ⟨rfl, mGw_of (i := 1417) (by decide +kernel) (by decide +kernel), by decide +kernel⟩⟩
set_option maxRecDepth 100000 in
theorem q1_L_odds : mQ1 mt_L_odds := ⟨by decide +kernel, by decide +kernel, by decide +kernel, by decide +kernel⟩
set_option maxRecDepth 100000 in
theorem q2_L_odds : mQ2 mt_L_odds := Or.inr ⟨mGw_of (i := 117) (by decide +kernel) (by decide +kernel), by decide +kernel, Or.inl (by decide +kernel), by decide +kernel, by decide, Or.inl ⟨rfl, mGw_of (i := 1431) (by decide +kernel) (by decide +kernel), by decide +kernel⟩⟩
set_option maxRecDepth 100000 in
theorem q1_L_ring : mQ1 mt_L_ring := ⟨by decide +kernel, by decide +kernel, by decide +kernel, by decide +kernel⟩
set_option maxRecDepth 100000 in
theorem q2_L_ring : mQ2 mt_L_ring := Or.inr ⟨mGw_of (i := 117) (by decide +kernel) (by decide +kernel), by decide +kernel, Or.inl (by decide +kernel), by decide +kernel, by decide, Or.inl ⟨rfl, mGw_of (i := 1439) (by decide +kernel) (by decide +kernel), by decide +kernel⟩⟩
set_option maxRecDepth 100000 in
theorem q1_L_ahead : mQ1 mt_L_ahead := ⟨by decide +kernel, by decide +kernel, by decide +kernel, by decide +kernel⟩
set_option maxRecDepth 100000 in
theorem q2_L_ahead : mQ2 mt_L_ahead := Or.inr ⟨mGw_of (i := 117) (by decide +kernel) (by decide +kernel), by decide +kernel, Or.inl (by decide +kernel), by decide +kernel, by decide, Or.inl ⟨rfl, mGw_of (i := 1446) (by decide +kernel) (by decide +kernel), by decide +kernel⟩⟩
set_option maxRecDepth 100000 in
theorem q1_L_trial : mQ1 mt_L_trial := ⟨by decide +kernel, by decide +kernel, by decide +kernel, by decide +kernel⟩
set_option maxRecDepth 100000 in
theorem q2_L_trial : mQ2 mt_L_trial := Or.inr ⟨mGw_of (i := 117) (by decide +kernel) (by decide +kernel), by decide +kernel, Or.inl (by decide +kernel), by decide +kernel, by decide, Or.inl ⟨rfl, mGw_of (i := 1456) (by decide +kernel) (by decide +kernel), by decide +kernel⟩⟩
set_option maxRecDepth 100000 in
theorem q1_L_span : mQ1 mt_L_span := ⟨by decide +kernel, by decide +kernel, by decide +kernel, by decide +kernel⟩
set_option maxRecDepth 100000 in
theorem q2_L_span : mQ2 mt_L_span := Or.inr ⟨mGw_of (i := 117) (by decide +kernel) (by decide +kernel), by decide +kernel, Or.inl (by decide +kernel), by decide +kernel, by decide, Or.inl ⟨rfl, mGw_of (i := 1463) (by decide +kernel) (by decide +kernel), by decide +kernel⟩⟩
set_option maxRecDepth 100000 in
theorem q1_L_led : mQ1 mt_L_led := ⟨by decide +kernel, by decide +kernel, by decide +kernel, by decide +kernel⟩
set_option maxRecDepth 100000 in
theorem q2_L_led : mQ2 mt_L_led := Or.inr ⟨mGw_of (i := 117) (by decide +kernel) (by decide +kernel), by decide +kernel, Or.inl (by decide +kernel), by decide +kernel, by decide, Or.inl ⟨rfl, mGw_of (i := 1470) (by decide +kernel) (by decide +kernel), by decide +kernel⟩⟩
set_option maxRecDepth 100000 in
theorem q1_L_log : mQ1 mt_L_log := ⟨by decide +kernel, by decide +kernel, by decide +kernel, by decide +kernel⟩
set_option maxRecDepth 100000 in
theorem q2_L_log : mQ2 mt_L_log := Or.inr ⟨mGw_of (i := 117) (by decide +kernel) (by decide +kernel), by decide +kernel, Or.inl (by decide +kernel), by decide +kernel, by decide, Or.inl ⟨rfl, mGw_of (i := 1492) (by decide +kernel) (by decide +kernel), by decide +kernel⟩⟩
