set_option maxRecDepth 100000 in
theorem q1_X12_feelTo : mQ1 mt_X12_feelTo := ⟨by decide +kernel, by decide +kernel, by decide +kernel, by decide +kernel⟩
set_option maxRecDepth 100000 in
theorem q2_X12_feelTo : mQ2 mt_X12_feelTo := Or.inr ⟨mGw_of (i := 127) (by decide +kernel) (by decide +kernel), by decide +kernel, Or.inl (by decide +kernel), by decide +kernel, by decide, Or.inr ⟨by decide, mGw_of (i := 2067) (by decide +kernel) (by decide +kernel), mGw_of (i := 103) (by decide +kernel) (by decide +kernel), by decide +kernel, by decide +kernel⟩⟩
set_option maxRecDepth 100000 in
theorem q1_X12_feels : mQ1 mt_X12_feels := ⟨by decide +kernel, by decide +kernel, by decide +kernel, by decide +kernel⟩
set_option maxRecDepth 100000 in
theorem q2_X12_feels : mQ2 mt_X12_feels := Or.inr ⟨mGw_of (i := 127) (by decide +kernel) (by decide +kernel), by decide +kernel, Or.inl (by decide +kernel), by decide +kernel, by decide, Or.inr ⟨by decide, mGw_of (i := 2054) (by decide +kernel) (by decide +kernel), mGw_of (i := 2055) (by decide +kernel) (by decide +kernel), by decide +kernel, by decide +kernel⟩⟩
set_option maxRecDepth 100000 in
theorem q1_X12_sure : mQ1 mt_X12_sure := ⟨by decide +kernel, by decide +kernel, by decide +kernel, by decide +kernel⟩
set_option maxRecDepth 100000 in
theorem q2_X12_sure : mQ2 mt_X12_sure := Or.inr ⟨mGw_of (i := 127) (by decide +kernel) (by decide +kernel), by decide +kernel, Or.inl (by decide +kernel), by decide +kernel, by decide, Or.inr ⟨by decide, mGw_of (i := 2082) (by decide +kernel) (by decide +kernel), mGw_of (i := 2083) (by decide +kernel) (by decide +kernel), by decide +kernel, by decide +kernel⟩⟩
set_option maxRecDepth 100000 in
theorem q1_X12_free : mQ1 mt_X12_free := ⟨by decide +kernel, by decide +kernel, by decide +kernel, by decide +kernel⟩
set_option maxRecDepth 100000 in
theorem q2_X12_free : mQ2 mt_X12_free := Or.inr ⟨mGw_of (i := 127) (by decide +kernel) (by decide +kernel), by decide +kernel, Or.inl (by decide +kernel), by decide +kernel, by decide, Or.inr ⟨by decide, mGw_of (i := 2086) (by decide +kernel) (by decide +kernel), mGw_of (i := 2087) (by decide +kernel) (by decide +kernel), by decide +kernel, by decide +kernel⟩⟩
set_option maxRecDepth 100000 in
theorem q1_X12_both : mQ1 mt_X12_both := ⟨by decide +kernel, by decide +kernel, by decide +kernel, by decide +kernel⟩
set_option maxRecDepth 100000 in
theorem q2_X12_both : mQ2 mt_X12_both := Or.inr ⟨mGw_of (i := 127) (by decide +kernel) (by decide +kernel), by decide +kernel, Or.inl (by decide +kernel), by decide +kernel, by decide, Or.inr ⟨by decide, mGw_of (i := 2090) (by decide +kernel) (by decide +kernel), mGw_of (i := 2091) (by decide +kernel) (by decide +kernel), by decide +kernel, by decide +kernel⟩⟩
set_option maxRecDepth 100000 in
theorem q1_X12_partBy : mQ1 mt_X12_partBy := ⟨by decide +kernel, by decide +kernel, by decide +kernel, by decide +kernel⟩
set_option maxRecDepth 100000 in
theorem q2_X12_partBy : mQ2 mt_X12_partBy := Or.inr ⟨mGw_of (i := 127) (by decide +kernel) (by decide +kernel), by decide +kernel, Or.inl (by decide +kernel), by decide +kernel, by decide, Or.inr ⟨by decide, mGw_of (i := 2099) (by decide +kernel) (by decide +kernel), mGw_of (i := 107) (by decide +kernel) (by decide +kernel), by decide +kernel, by decide +kernel⟩⟩
set_option maxRecDepth 100000 in
theorem q1_X12_ask : mQ1 mt_X12_ask := ⟨by decide +kernel, by decide +kernel, by decide +kernel, by decide +kernel⟩
set_option maxRecDepth 100000 in
theorem q2_X12_ask : mQ2 mt_X12_ask := Or.inr ⟨mGw_of (i := 127) (by decide +kernel) (by decide +kernel), by decide +kernel, Or.inl (by decide +kernel), by decide +kernel, by decide, Or.inr ⟨by decide, mGw_of (i := 2094) (by decide +kernel) (by decide +kernel), mGw_of (i := 2095) (by decide +kernel) (by decide +kernel), by decide +kernel, by decide +kernel⟩⟩
set_option maxRecDepth 100000 in
theorem q1_X12_touches : mQ1 mt_X12_touches := ⟨by decide +kernel, by decide +kernel, by decide +kernel, by decide +kernel⟩
set_option maxRecDepth 100000 in
theorem q2_X12_touches : mQ2 mt_X12_touches := Or.inr ⟨mGw_of (i := 127) (by decide +kernel) (by decide +kernel), by decide +kernel, Or.inl (by decide +kernel), by decide +kernel, by decide, Or.inr ⟨by decide, mGw_of (i := 2111) (by decide +kernel) (by decide +kernel), mGw_of (i := 109) (by decide +kernel) (by decide +kernel), by decide +kernel, by decide +kernel⟩⟩
set_option maxRecDepth 100000 in
theorem q1_X12_touchedBy : mQ1 mt_X12_touchedBy := ⟨by decide +kernel, by decide +kernel, by decide +kernel, by decide +kernel⟩
set_option maxRecDepth 100000 in
theorem q2_X12_touchedBy : mQ2 mt_X12_touchedBy := Or.inr ⟨mGw_of (i := 127) (by decide +kernel) (by decide +kernel), by decide +kernel, Or.inl (by decide +kernel), by decide +kernel, by decide, Or.inr ⟨by decide, mGw_of (i := 2107) (by decide +kernel) (by decide +kernel), mGw_of (i := 108) (by decide +kernel) (by decide +kernel), by decide +kernel, by decide +kernel⟩⟩
set_option maxRecDepth 100000 in
theorem q1_X12_reachedFrom : mQ1 mt_X12_reachedFrom := ⟨by decide +kernel, by decide +kernel, by decide +kernel, by decide +kernel⟩
set_option maxRecDepth 100000 in
theorem q2_X12_reachedFrom : mQ2 mt_X12_reachedFrom := Or.inr ⟨mGw_of (i := 127) (by decide +kernel) (by decide +kernel), by decide +kernel, Or.inl (by decide +kernel), by decide +kernel, by decide, Or.inr ⟨by decide, mGw_of (i := 2135) (by decide +kernel) (by decide +kernel), mGw_of (i := 112) (by decide +kernel) (by decide +kernel), by decide +kernel, by decide +kernel⟩⟩
set_option maxRecDepth 100000 in
theorem q1_X12_pushes : mQ1 mt_X12_pushes := ⟨by decide +kernel, by decide +kernel, by decide +kernel, by decide +kernel⟩
set_option maxRecDepth 100000 in
theorem q2_X12_pushes : mQ2 mt_X12_pushes := Or.inr ⟨mGw_of (i := 127) (by decide +kernel) (by decide +kernel), by decide +kernel, Or.inl (by decide +kernel), by decide +kernel, by decide, Or.inr ⟨by decide, mGw_of (i := 2102) (by decide +kernel) (by decide +kernel), mGw_of (i := 2103) (by decide +kernel) (by decide +kernel), by decide +kernel, by decide +kernel⟩⟩
set_option maxRecDepth 100000 in
theorem q1_X12_tellOf : mQ1 mt_X12_tellOf := ⟨by decide +kernel, by decide +kernel, by decide +kernel, by decide +kernel⟩
set_option maxRecDepth 100000 in
theorem q2_X12_tellOf : mQ2 mt_X12_tellOf := Or.inr ⟨mGw_of (i := 127) (by decide +kernel) (by decide +kernel), by decide +kernel, Or.inl (by decide +kernel), by decide +kernel, by decide, Or.inr ⟨by decide, mGw_of (i := 2119) (by decide +kernel) (by decide +kernel), mGw_of (i := 110) (by decide +kernel) (by decide +kernel), by decide +kernel, by decide +kernel⟩⟩
set_option maxRecDepth 100000 in
theorem q1_X12_tell : mQ1 mt_X12_tell := ⟨by decide +kernel, by decide +kernel, by decide +kernel, by decide +kernel⟩
set_option maxRecDepth 100000 in
theorem q2_X12_tell : mQ2 mt_X12_tell := Or.inr ⟨mGw_of (i := 127) (by decide +kernel) (by decide +kernel), by decide +kernel, Or.inl (by decide +kernel), by decide +kernel, by decide, Or.inr ⟨by decide, mGw_of (i := 2114) (by decide +kernel) (by decide +kernel), mGw_of (i := 2115) (by decide +kernel) (by decide +kernel), by decide +kernel, by decide +kernel⟩⟩
set_option maxRecDepth 100000 in
theorem q1_X12_herald : mQ1 mt_X12_herald := ⟨by decide +kernel, by decide +kernel, by decide +kernel, by decide +kernel⟩
set_option maxRecDepth 100000 in
theorem q2_X12_herald : mQ2 mt_X12_herald := Or.inr ⟨mGw_of (i := 127) (by decide +kernel) (by decide +kernel), by decide +kernel, Or.inl (by decide +kernel), by decide +kernel, by decide, Or.inr ⟨by decide, mGw_of (i := 2122) (by decide +kernel) (by decide +kernel), mGw_of (i := 2123) (by decide +kernel) (by decide +kernel), by decide +kernel, by decide +kernel⟩⟩
set_option maxRecDepth 100000 in
theorem q1_X12_pairsAmong : mQ1 mt_X12_pairsAmong := ⟨by decide +kernel, by decide +kernel, by decide +kernel, by decide +kernel⟩
set_option maxRecDepth 100000 in
theorem q2_X12_pairsAmong : mQ2 mt_X12_pairsAmong := Or.inr ⟨mGw_of (i := 127) (by decide +kernel) (by decide +kernel), by decide +kernel, Or.inl (by decide +kernel), by decide +kernel, by decide, Or.inr ⟨by decide, mGw_of (i := 2131) (by decide +kernel) (by decide +kernel), mGw_of (i := 111) (by decide +kernel) (by decide +kernel), by decide +kernel, by decide +kernel⟩⟩
set_option maxRecDepth 100000 in
theorem q1_X12_cuts : mQ1 mt_X12_cuts := ⟨by decide +kernel, by decide +kernel, by decide +kernel, by decide +kernel⟩
set_option maxRecDepth 100000 in
theorem q2_X12_cuts : mQ2 mt_X12_cuts := Or.inr ⟨mGw_of (i := 127) (by decide +kernel) (by decide +kernel), by decide +kernel, Or.inl (by decide +kernel), by decide +kernel, by decide, Or.inr ⟨by decide, mGw_of (i := 2126) (by decide +kernel) (by decide +kernel), mGw_of (i := 2127) (by decide +kernel) (by decide +kernel), by decide +kernel, by decide +kernel⟩⟩
set_option maxRecDepth 100000 in
theorem q1_X12_fullOf : mQ1 mt_X12_fullOf := ⟨by decide +kernel, by decide +kernel, by decide +kernel, by decide +kernel⟩
set_option maxRecDepth 100000 in
theorem q2_X12_fullOf : mQ2 mt_X12_fullOf := Or.inr ⟨mGw_of (i := 127) (by decide +kernel) (by decide +kernel), by decide +kernel, Or.inl (by decide +kernel), by decide +kernel, by decide, Or.inr ⟨by decide, mGw_of (i := 2147) (by decide +kernel) (by decide +kernel), mGw_of (i := 114) (by decide +kernel) (by decide +kernel), by decide +kernel, by decide +kernel⟩⟩
set_option maxRecDepth 100000 in
theorem q1_X12_laysPlaces : mQ1 mt_X12_laysPlaces := ⟨by decide +kernel, by decide +kernel, by decide +kernel, by decide +kernel⟩
set_option maxRecDepth 100000 in
theorem q2_X12_laysPlaces : mQ2 mt_X12_laysPlaces := Or.inr ⟨mGw_of (i := 127) (by decide +kernel) (by decide +kernel), by decide +kernel, Or.inl (by decide +kernel), by decide +kernel, by decide, Or.inr ⟨by decide, mGw_of (i := 2143) (by decide +kernel) (by decide +kernel), mGw_of (i := 113) (by decide +kernel) (by decide +kernel), by decide +kernel, by decide +kernel⟩⟩
set_option maxRecDepth 100000 in
theorem q1_X12_fewestPlaces : mQ1 mt_X12_fewestPlaces := ⟨by decide +kernel, by decide +kernel, by decide +kernel, by decide +kernel⟩
set_option maxRecDepth 100000 in
theorem q2_X12_fewestPlaces : mQ2 mt_X12_fewestPlaces := Or.inr ⟨mGw_of (i := 127) (by decide +kernel) (by decide +kernel), by decide +kernel, Or.inl (by decide +kernel), by decide +kernel, by decide, Or.inr ⟨by decide, mGw_of (i := 2151) (by decide +kernel) (by decide +kernel), mGw_of (i := 115) (by decide +kernel) (by decide +kernel), by decide +kernel, by decide +kernel⟩⟩
set_option maxRecDepth 100000 in
theorem q1_X12_roster : mQ1 mt_X12_roster := ⟨by decide +kernel, by decide +kernel, by decide +kernel, by decide +kernel⟩
set_option maxRecDepth 100000 in
theorem q2_X12_roster : mQ2 mt_X12_roster := Or.inr ⟨mGw_of (i := 127) (by decide +kernel) (by decide +kernel), by decide +kernel, Or.inl (by decide +kernel), by decide +kernel, by decide, Or.inr ⟨by decide, mGw_of (i := 2138) (by decide +kernel) (by decide +kernel), mGw_of (i := 2139) (by decide +kernel) (by decide +kernel), by decide +kernel, by decide +kernel⟩⟩
set_option maxRecDepth 100000 in
theorem q1_X12_pairs : mQ1 mt_X12_pairs := ⟨by decide +kernel, by decide +kernel, by decide +kernel, by decide +kernel⟩
set_option maxRecDepth 100000 in
theorem q2_X12_pairs : mQ2 mt_X12_pairs := Or.inr ⟨mGw_of (i := 127) (by decide +kernel) (by decide +kernel), by decide +kernel, Or.inl (by decide +kernel), by decide +kernel, by decide, Or.inr ⟨by decide, mGw_of (i := 2154) (by decide +kernel) (by decide +kernel), mGw_of (i := 2155) (by decide +kernel) (by decide +kernel), by decide +kernel, by decide +kernel⟩⟩
set_option maxRecDepth 100000 in
theorem q1_X12_dearest : mQ1 mt_X12_dearest := ⟨by decide +kernel, by decide +kernel, by decide +kernel, by decide +kernel⟩
set_option maxRecDepth 100000 in
theorem q2_X12_dearest : mQ2 mt_X12_dearest := Or.inr ⟨mGw_of (i := 127) (by decide +kernel) (by decide +kernel), by decide +kernel, Or.inl (by decide +kernel), by decide +kernel, by decide, Or.inr ⟨by decide, mGw_of (i := 2158) (by decide +kernel) (by decide +kernel), mGw_of (i := 2159) (by decide +kernel) (by decide +kernel), by decide +kernel, by decide +kernel⟩⟩
set_option maxRecDepth 100000 in
theorem q1_X12_firstHas : mQ1 mt_X12_firstHas := ⟨by decide +kernel, by decide +kernel, by decide +kernel, by decide +kernel⟩
set_option maxRecDepth 100000 in
theorem q2_X12_firstHas : mQ2 mt_X12_firstHas := Or.inr ⟨mGw_of (i := 127) (by decide +kernel) (by decide +kernel), by decide +kernel, Or.inl (by decide +kernel), by decide +kernel, by decide, Or.inl ⟨rfl, mGw_of (i := 2166) (by decide +kernel) (by decide +kernel), by decide +kernel⟩⟩
set_option maxRecDepth 100000 in
theorem q1_X12_otherHas : mQ1 mt_X12_otherHas := ⟨by decide +kernel, by decide +kernel, by decide +kernel, by decide +kernel⟩
set_option maxRecDepth 100000 in
theorem q2_X12_otherHas : mQ2 mt_X12_otherHas := Or.inr ⟨mGw_of (i := 127) (by decide +kernel) (by decide +kernel), by decide +kernel, Or.inl (by decide +kernel), by decide +kernel, by decide, Or.inl ⟨rfl, mGw_of (i := 2169) (by decide +kernel) (by decide +kernel), by decide +kernel⟩⟩
set_option maxRecDepth 100000 in
theorem q1_X12_rests : mQ1 mt_X12_rests := ⟨by decide +kernel, by decide +kernel, by decide +kernel, by decide +kernel⟩
set_option maxRecDepth 100000 in
theorem q2_X12_rests : mQ2 mt_X12_rests := Or.inr ⟨mGw_of (i := 127) (by decide +kernel) (by decide +kernel), by decide +kernel, Or.inl (by decide +kernel), by decide +kernel, by decide, Or.inr ⟨by decide, mGw_of (i := 2162) (by decide +kernel) (by decide +kernel), mGw_of (i := 2163) (by decide +kernel) (by decide +kernel), by decide +kernel, by decide +kernel⟩⟩
set_option maxRecDepth 100000 in
theorem q1_X12_odds : mQ1 mt_X12_odds := ⟨by decide +kernel, by decide +kernel, by decide +kernel, by decide +kernel⟩
set_option maxRecDepth 100000 in
theorem q2_X12_odds : mQ2 mt_X12_odds := Or.inr ⟨mGw_of (i := 127) (by decide +kernel) (by decide +kernel), by decide +kernel, Or.inl (by decide +kernel), by decide +kernel, by decide, Or.inr ⟨by decide, mGw_of (i := 2172) (by decide +kernel) (by decide +kernel), mGw_of (i := 2173) (by decide +kernel) (by decide +kernel), by decide +kernel, by decide +kernel⟩⟩
set_option maxRecDepth 100000 in
theorem q1_X12_alone : mQ1 mt_X12_alone := ⟨by decide +kernel, by decide +kernel, by decide +kernel, by decide +kernel⟩
set_option maxRecDepth 100000 in
theorem q2_X12_alone : mQ2 mt_X12_alone := Or.inr ⟨mGw_of (i := 127) (by decide +kernel) (by decide +kernel), by decide +kernel, Or.inl (by decide +kernel), by decide +kernel, by decide, Or.inr ⟨by decide, mGw_of (i := 2176) (by decide +kernel) (by decide +kernel), mGw_of (i := 2177) (by decide +kernel) (by decide +kernel), by decide +kernel, by decide +kernel⟩⟩
set_option maxRecDepth 100000 in
theorem q1_X12_tired : mQ1 mt_X12_tired := ⟨by decide +kernel, by decide +kernel, by decide +kernel, by decide +kernel⟩
set_option maxRecDepth 100000 in
theorem q2_X12_tired : mQ2 mt_X12_tired := Or.inr ⟨mGw_of (i := 127) (by decide +kernel) (by decide +kernel), by decide +kernel, Or.inl (by decide +kernel), by decide +kernel, by decide, Or.inr ⟨by decide, mGw_of (i := 2180) (by decide +kernel) (by decide +kernel), mGw_of (i := 2181) (by decide +kernel) (by decide +kernel), by decide +kernel, by decide +kernel⟩⟩
set_option maxRecDepth 100000 in
theorem q1_X12_twins : mQ1 mt_X12_twins := ⟨by decide +kernel, by decide +kernel, by decide +kernel, by decide +kernel⟩
set_option maxRecDepth 100000 in
theorem q2_X12_twins : mQ2 mt_X12_twins := Or.inr ⟨mGw_of (i := 127) (by decide +kernel) (by decide +kernel), by decide +kernel, Or.inl (by decide +kernel), by decide +kernel, by decide, Or.inr ⟨by decide, mGw_of (i := 2184) (by decide +kernel) (by decide +kernel), mGw_of (i := 2185) (by decide +kernel) (by decide +kernel), by decide +kernel, by decide +kernel⟩⟩
set_option maxRecDepth 100000 in
theorem q1_X12_ring : mQ1 mt_X12_ring := ⟨by decide +kernel, by decide +kernel, by decide +kernel, by decide +kernel⟩
set_option maxRecDepth 100000 in
theorem q2_X12_ring : mQ2 mt_X12_ring := Or.inr ⟨mGw_of (i := 127) (by decide +kernel) (by decide +kernel), by decide +kernel, Or.inl (by decide +kernel), by decide +kernel, by decide, Or.inr ⟨by decide, mGw_of (i := 2188) (by decide +kernel) (by decide +kernel), mGw_of (i := 2189) (by decide +kernel) (by decide +kernel), by decide +kernel, by decide +kernel⟩⟩
set_option maxRecDepth 100000 in
theorem q1_X12_reserves : mQ1 mt_X12_reserves := ⟨by decide +kernel, by decide +kernel, by decide +kernel, by decide +kernel⟩
set_option maxRecDepth 100000 in
theorem q2_X12_reserves : mQ2 mt_X12_reserves := Or.inr ⟨mGw_of (i := 127) (by decide +kernel) (by decide +kernel), by decide +kernel, Or.inl (by decide +kernel), by decide +kernel, by decide, Or.inr ⟨by decide, mGw_of (i := 2192) (by decide +kernel) (by decide +kernel), mGw_of (i := 2193) (by decide +kernel) (by decide +kernel), by decide +kernel, by decide +kernel⟩⟩
set_option maxRecDepth 100000 in
theorem q1_X12_sleepers : mQ1 mt_X12_sleepers := ⟨by decide +kernel, by decide +kernel, by decide +kernel, by decide +kernel⟩
set_option maxRecDepth 100000 in
theorem q2_X12_sleepers : mQ2 mt_X12_sleepers := Or.inr ⟨mGw_of (i := 127) (by decide +kernel) (by decide +kernel), by decide +kernel, Or.inl (by decide +kernel), by decide +kernel, by decide, Or.inr ⟨by decide, mGw_of (i := 2196) (by decide +kernel) (by decide +kernel), mGw_of (i := 2197) (by decide +kernel) (by decide +kernel), by decide +kernel, by decide +kernel⟩⟩
set_option maxRecDepth 100000 in
theorem q1_X12_noAhead : mQ1 mt_X12_noAhead := ⟨by decide +kernel, by decide +kernel, by decide +kernel, by decide +kernel⟩
set_option maxRecDepth 100000 in
theorem q2_X12_noAhead : mQ2 mt_X12_noAhead := Or.inr ⟨mGw_of (i := 127) (by decide +kernel) (by decide +kernel), by decide +kernel, Or.inl (by decide +kernel), by decide +kernel, by decide, Or.inl ⟨rfl, mGw_of (i := 2208) (by decide +kernel) (by decide +kernel), by decide +kernel⟩⟩
set_option maxRecDepth 100000 in
theorem q1_X12_soon : mQ1 mt_X12_soon := ⟨by decide +kernel, by decide +kernel, by decide +kernel, by decide +kernel⟩
set_option maxRecDepth 100000 in
theorem q2_X12_soon : mQ2 mt_X12_soon := Or.inr ⟨mGw_of (i := 127) (by decide +kernel) (by decide +kernel), by decide +kernel, Or.inl (by decide +kernel), by decide +kernel, by decide, Or.inr ⟨by decide, mGw_of (i := 2200) (by decide +kernel) (by decide +kernel), mGw_of (i := 2201) (by decide +kernel) (by decide +kernel), by decide +kernel, by decide +kernel⟩⟩
set_option maxRecDepth 100000 in
theorem q1_X12_ahead : mQ1 mt_X12_ahead := ⟨by decide +kernel, by decide +kernel, by decide +kernel, by decide +kernel⟩
set_option maxRecDepth 100000 in
theorem q2_X12_ahead : mQ2 mt_X12_ahead := Or.inr ⟨mGw_of (i := 127) (by decide +kernel) (by decide +kernel), by decide +kernel, Or.inl (by decide +kernel), by decide +kernel, by decide, Or.inr ⟨by decide, mGw_of (i := 2204) (by decide +kernel) (by decide +kernel), mGw_of (i := 2205) (by decide +kernel) (by decide +kernel), by decide +kernel, by decide +kernel⟩⟩
set_option maxRecDepth 100000 in
theorem q1_X12_trial : mQ1 mt_X12_trial := ⟨by decide +kernel, by decide +kernel, by decide +kernel, by decide +kernel⟩
set_option maxRecDepth 100000 in
theorem q2_X12_trial : mQ2 mt_X12_trial := Or.inr ⟨mGw_of (i := 127) (by decide +kernel) (by decide +kernel), by decide +kernel, Or.inl (by decide +kernel), by decide +kernel, by decide, Or.inr ⟨by decide, mGw_of (i := 2211) (by decide +kernel) (by decide +kernel), mGw_of (i := 2212) (by decide +kernel) (by decide +kernel), by decide +kernel, by decide +kernel⟩⟩
set_option maxRecDepth 100000 in
theorem q1_X12_span : mQ1 mt_X12_span := ⟨by decide +kernel, by decide +kernel, by decide +kernel, by decide +kernel⟩
set_option maxRecDepth 100000 in
theorem q2_X12_span : mQ2 mt_X12_span := Or.inr ⟨mGw_of (i := 127) (by decide +kernel) (by decide +kernel), by decide +kernel, Or.inl (by decide +kernel), by decide +kernel, by decide, Or.inr ⟨by decide, mGw_of (i := 2215) (by decide +kernel) (by decide +kernel), mGw_of (i := 2216) (by decide +kernel) (by decide +kernel), by decide +kernel, by decide +kernel⟩⟩
set_option maxRecDepth 100000 in
theorem q1_X12_ofLog : mQ1 mt_X12_ofLog := ⟨by decide +kernel, by decide +kernel, by decide +kernel, by decide +kernel⟩
set_option maxRecDepth 100000 in
theorem q2_X12_ofLog : mQ2 mt_X12_ofLog := Or.inr ⟨mGw_of (i := 127) (by decide +kernel) (by decide +kernel), by decide +kernel, Or.inl (by decide +kernel), by decide +kernel, by decide, Or.inr ⟨by decide, mGw_of (i := 2224) (by decide +kernel) (by decide +kernel), mGw_of (i := 116) (by decide +kernel) (by decide +kernel), by decide +kernel, by decide +kernel⟩⟩
set_option maxRecDepth 100000 in
theorem q1_X12_led : mQ1 mt_X12_led := ⟨by decide +kernel, by decide +kernel, by decide +kernel, by decide +kernel⟩
set_option maxRecDepth 100000 in
theorem q2_X12_led : mQ2 mt_X12_led := Or.inr ⟨mGw_of (i := 127) (by decide +kernel) (by decide +kernel), by decide +kernel, Or.inl (by decide +kernel), by decide +kernel, by decide, Or.inr ⟨by decide, mGw_of (i := 2219) (by decide +kernel) (by decide +kernel), mGw_of (i := 2220) (by decide +kernel) (by decide +kernel), by decide +kernel, by decide +kernel⟩⟩
set_option maxRecDepth 100000 in
theorem q1_X12_log : mQ1 mt_X12_log := ⟨by decide +kernel, by decide +kernel, by decide +kernel, by decide +kernel⟩
set_option maxRecDepth 100000 in
theorem q2_X12_log : mQ2 mt_X12_log := Or.inr ⟨mGw_of (i := 127) (by decide +kernel) (by decide +kernel), by decide +kernel, Or.inl (by decide +kernel), by decide +kernel, by decide, Or.inr ⟨by decide, mGw_of (i := 2227) (by decide +kernel) (by decide +kernel), mGw_of (i := 2228) (by decide +kernel) (by decide +kernel), by decide +kernel, by decide +kernel⟩⟩
set_option maxRecDepth 100000 in
theorem q1_X12_seed : mQ1 mt_X12_seed := ⟨by decide +kernel, by decide +kernel, by decide +kernel, by decide +kernel⟩
set_option maxRecDepth 100000 in
theorem q2_X12_seed : mQ2 mt_X12_seed := Or.inr ⟨mGw_of (i := 127) (by decide +kernel) (by decide +kernel), by decide +kernel, Or.inl (by decide +kernel), by decide +kernel, by decide, Or.inr ⟨by decide, mGw_of (i := 2231) (by decide +kernel) (by decide +kernel), mGw_of (i := 2232) (by decide +kernel) (by decide +kernel), by decide +kernel, by decide +kernel⟩⟩
set_option maxRecDepth 100000 in
theorem q1_X12_count : mQ1 mt_X12_count := ⟨by decide +kernel, by decide +kernel, by decide +kernel, by decide +kernel⟩
set_option maxRecDepth 100000 in
theorem q2_X12_count : mQ2 mt_X12_count := Or.inr ⟨mGw_of (i := 127) (by decide +kernel) (by decide +kernel), by decide +kernel, Or.inl (by decide +kernel), by decide +kernel, by decide, Or.inr ⟨by decide, mGw_of (i := 2235) (by decide +kernel) (by decide +kernel), mGw_of (i := 2236) (by decide +kernel) (by decide +kernel), by decide +kernel, by decide +kernel⟩⟩
set_option maxRecDepth 100000 in
theorem q1_L_tower : mQ1 mt_L_tower := ⟨by decide +kernel, by decide +kernel, by decide +kernel, by decide +kernel⟩
set_option maxRecDepth 100000 in
theorem q2_L_tower : mQ2 mt_L_tower := Or.inr ⟨mGw_of (i := 117) (by decide +kernel) (by decide +kernel), by decide +kernel, Or.inl (by decide +kernel), by decide +kernel, by decide, Or.inl ⟨rfl, mGw_of (i := 757) (by decide +kernel) (by decide +kernel), by decide +kernel⟩⟩
set_option maxRecDepth 100000 in
theorem q1_L_law : mQ1 mt_L_law := ⟨by decide +kernel, by decide +kernel, by decide +kernel, by decide +kernel⟩
set_option maxRecDepth 100000 in
theorem q2_L_law : mQ2 mt_L_law := Or.inr ⟨mGw_of (i := 117) (by decide +kernel) (by decide +kernel), by decide +kernel, Or.inl (by decide +kernel), by decide +kernel, by decide, Or.inl ⟨rfl, mGw_of (i := 994) (by decide +kernel) (by decide +kernel), by decide +kernel⟩⟩
set_option maxRecDepth 100000 in
theorem q1_L_person : mQ1 mt_L_person := ⟨by decide +kernel, by decide +kernel, by decide +kernel, by decide +kernel⟩
set_option maxRecDepth 100000 in
theorem q2_L_person : mQ2 mt_L_person := Or.inr ⟨mGw_of (i := 117) (by decide +kernel) (by decide +kernel), by decide +kernel, Or.inl (by decide +kernel), by decide +kernel, by decide, Or.inl ⟨rfl, mGw_of (i := 1058) (by decide +kernel) (by decide +kernel), by decide +kernel⟩⟩
set_option maxRecDepth 100000 in
theorem q1_L_hours : mQ1 mt_L_hours := ⟨by decide +kernel, by decide +kernel, by decide +kernel, by decide +kernel⟩
set_option maxRecDepth 100000 in
theorem q2_L_hours : mQ2 mt_L_hours := Or.inr ⟨mGw_of (i := 117) (by decide +kernel) (by decide +kernel), by decide +kernel, Or.inl (by decide +kernel), by decide +kernel, by decide, Or.inl ⟨rfl, mGw_of (i := 1109) (by decide +kernel) (by decide +kernel), by decide +kernel⟩⟩
set_option maxRecDepth 100000 in
theorem q1_L_rise : mQ1 mt_L_rise := ⟨by decide +kernel, by decide +kernel, by decide +kernel, by decide +kernel⟩
set_option maxRecDepth 100000 in
theorem q2_L_rise : mQ2 mt_L_rise := Or.inr ⟨mGw_of (i := 117) (by decide +kernel) (by decide +kernel), by decide +kernel, Or.inl (by decide +kernel), by decide +kernel, by decide, Or.inl ⟨rfl, mGw_of (i := 1125) (by decide +kernel) (by decide +kernel), by decide +kernel⟩⟩
set_option maxRecDepth 100000 in
theorem q1_L_out : mQ1 mt_L_out := ⟨by decide +kernel, by decide +kernel, by decide +kernel, by decide +kernel⟩
set_option maxRecDepth 100000 in
theorem q2_L_out : mQ2 mt_L_out := Or.inr ⟨mGw_of (i := 117) (by decide +kernel) (by decide +kernel), by decide +kernel, Or.inl (by decide +kernel), by decide +kernel, by decide, Or.inl ⟨rfl, mGw_of (i := 1168) (by decide +kernel) (by decide +kernel), by decide +kernel⟩⟩
set_option maxRecDepth 100000 in
theorem q1_L_relieve : mQ1 mt_L_relieve := ⟨by decide +kernel, by decide +kernel, by decide +kernel, by decide +kernel⟩
set_option maxRecDepth 100000 in
theorem q2_L_relieve : mQ2 mt_L_relieve := Or.inr ⟨mGw_of (i := 117) (by decide +kernel) (by decide +kernel), by decide +kernel, Or.inl (by decide +kernel), by decide +kernel, by decide, Or.inl ⟨rfl, mGw_of (i := 1179) (by decide +kernel) (by decide +kernel), by decide +kernel⟩⟩
set_option maxRecDepth 100000 in
theorem q1_L_lean : mQ1 mt_L_lean := ⟨by decide +kernel, by decide +kernel, by decide +kernel, by decide +kernel⟩
set_option maxRecDepth 100000 in
theorem q2_L_lean : mQ2 mt_L_lean := Or.inr ⟨mGw_of (i := 117) (by decide +kernel) (by decide +kernel), by decide +kernel, Or.inl (by decide +kernel), by decide +kernel, by decide, Or.inl ⟨rfl, mGw_of (i := 1195) (by decide +kernel) (by decide +kernel), by decide +kernel⟩⟩
set_option maxRecDepth 100000 in
theorem q1_L_wake : mQ1 mt_L_wake := ⟨by decide +kernel, by decide +kernel, by decide +kernel, by decide +kernel⟩
set_option maxRecDepth 100000 in
theorem q2_L_wake : mQ2 mt_L_wake := Or.inr ⟨mGw_of (i := 117) (by decide +kernel) (by decide +kernel), by decide +kernel, Or.inl (by decide +kernel), by decide +kernel, by decide, Or.inl ⟨rfl, mGw_of (i := 1202) (by decide +kernel) (by decide +kernel), by decide +kernel⟩⟩
set_option maxRecDepth 100000 in
theorem q1_L_sleep : mQ1 mt_L_sleep := ⟨by decide +kernel, by decide +kernel, by decide +kernel, by decide +kernel⟩
set_option maxRecDepth 100000 in
theorem q2_L_sleep : mQ2 mt_L_sleep := Or.inr ⟨mGw_of (i := 117) (by decide +kernel) (by decide +kernel), by decide +kernel, Or.inl (by decide +kernel), by decide +kernel, by decide, Or.inl ⟨rfl, mGw_of (i := 1209) (by decide +kernel) (by decide +kernel), by decide +kernel⟩⟩
set_option maxRecDepth 100000 in
theorem q1_L_need : mQ1 mt_L_need := ⟨by decide +kernel, by decide +kernel, by decide +kernel, by decide +kernel⟩
set_option maxRecDepth 100000 in
theorem q2_L_need : mQ2 mt_L_need := Or.inr ⟨mGw_of (i := 117) (by decide +kernel) (by decide +kernel), by decide +kernel, Or.inl (by decide +kernel), by decide +kernel, by decide, Or.inl ⟨rfl, mGw_of (i := 1216) (by decide +kernel) (by decide +kernel), by decide +kernel⟩⟩
set_option maxRecDepth 100000 in
theorem q1_L_more : mQ1 mt_L_more := ⟨by decide +kernel, by decide +kernel, by decide +kernel, by decide +kernel⟩
set_option maxRecDepth 100000 in
theorem q2_L_more : mQ2 mt_L_more := Or.inr ⟨mGw_of (i := 117) (by decide +kernel) (by decide +kernel), by decide +kernel, Or.inl (by decide +kernel), by decide +kernel, by decide, Or.inl ⟨rfl, mGw_of (i := 1223) (by decide +kernel) (by decide +kernel), by decide +kernel⟩⟩
set_option maxRecDepth 100000 in
theorem q1_L_falls : mQ1 mt_L_falls := ⟨by decide +kernel, by decide +kernel, by decide +kernel, by decide +kernel⟩
set_option maxRecDepth 100000 in
theorem q2_L_falls : mQ2 mt_L_falls := Or.inr ⟨mGw_of (i := 117) (by decide +kernel) (by decide +kernel), by decide +kernel, Or.inl (by decide +kernel), by decide +kernel, by decide, Or.inl ⟨rfl, mGw_of (i := 1230) (by decide +kernel) (by decide +kernel), by decide +kernel⟩⟩
set_option maxRecDepth 100000 in
theorem q1_L_rounds : mQ1 mt_L_rounds := ⟨by decide +kernel, by decide +kernel, by decide +kernel, by decide +kernel⟩
set_option maxRecDepth 100000 in
theorem q2_L_rounds : mQ2 mt_L_rounds := Or.inr ⟨mGw_of (i := 117) (by decide +kernel) (by decide +kernel), by decide +kernel, Or.inl (by decide +kernel), by decide +kernel, by decide, Or.inl ⟨rfl, mGw_of (i := 1237) (by decide +kernel) (by decide +kernel), by decide +kernel⟩⟩
set_option maxRecDepth 100000 in
theorem q1_L_fallen : mQ1 mt_L_fallen := ⟨by decide +kernel, by decide +kernel, by decide +kernel, by decide +kernel⟩
set_option maxRecDepth 100000 in
theorem q2_L_fallen : mQ2 mt_L_fallen := Or.inr ⟨mGw_of (i := 117) (by decide +kernel) (by decide +kernel), by decide +kernel, Or.inl (by decide +kernel), by decide +kernel, by decide, Or.inl ⟨rfl, mGw_of (i := 1244) (by decide +kernel) (by decide +kernel), by decide +kernel⟩⟩
set_option maxRecDepth 100000 in
theorem q1_L_guard : mQ1 mt_L_guard := ⟨by decide +kernel, by decide +kernel, by decide +kernel, by decide +kernel⟩
set_option maxRecDepth 100000 in
theorem q2_L_guard : mQ2 mt_L_guard := Or.inr ⟨mGw_of (i := 117) (by decide +kernel) (by decide +kernel), by decide +kernel, Or.inl (by decide +kernel), by decide +kernel, by decide, Or.inl ⟨rfl, mGw_of (i := 1251) (by decide +kernel) (by decide +kernel), by decide +kernel⟩⟩
set_option maxRecDepth 100000 in
theorem q1_L_solo : mQ1 mt_L_solo := ⟨by decide +kernel, by decide +kernel, by decide +kernel, by decide +kernel⟩
set_option maxRecDepth 100000 in
theorem q2_L_solo : mQ2 mt_L_solo := Or.inr ⟨mGw_of (i := 117) (by decide +kernel) (by decide +kernel), by decide +kernel, Or.inl (by decide +kernel), by decide +kernel, by decide, Or.inl ⟨rfl, mGw_of (i := 1290) (by decide +kernel) (by decide +kernel), by decide +kernel⟩⟩
set_option maxRecDepth 100000 in
theorem q1_L_feels : mQ1 mt_L_feels := ⟨by decide +kernel, by decide +kernel, by decide +kernel, by decide +kernel⟩
set_option maxRecDepth 100000 in
theorem q2_L_feels : mQ2 mt_L_feels := Or.inr ⟨mGw_of (i := 117) (by decide +kernel) (by decide +kernel), by decide +kernel, Or.inl (by decide +kernel), by decide +kernel, by decide, Or.inl ⟨rfl, mGw_of (i := 1301) (by decide +kernel) (by decide +kernel), by decide +kernel⟩⟩
set_option maxRecDepth 100000 in
theorem q1_L_sure : mQ1 mt_L_sure := ⟨by decide +kernel, by decide +kernel, by decide +kernel, by decide +kernel⟩
set_option maxRecDepth 100000 in
theorem q2_L_sure : mQ2 mt_L_sure := Or.inr ⟨mGw_of (i := 117) (by decide +kernel) (by decide +kernel), by decide +kernel, Or.inl (by decide +kernel), by decide +kernel, by decide, Or.inl ⟨rfl, mGw_of (i := 1325) (by decide +kernel) (by decide +kernel), by decide +kernel⟩⟩
set_option maxRecDepth 100000 in
theorem q1_L_free : mQ1 mt_L_free := ⟨by decide +kernel, by decide +kernel, by decide +kernel, by decide +kernel⟩
set_option maxRecDepth 100000 in
theorem q2_L_free : mQ2 mt_L_free := Or.inr ⟨mGw_of (i := 117) (by decide +kernel) (by decide +kernel), by decide +kernel, Or.inl (by decide +kernel), by decide +kernel, by decide, Or.inl ⟨rfl, mGw_of (i := 1336) (by decide +kernel) (by decide +kernel), by decide +kernel⟩⟩
set_option maxRecDepth 100000 in
theorem q1_L_both : mQ1 mt_L_both := ⟨by decide +kernel, by decide +kernel, by decide +kernel, by decide +kernel⟩
set_option maxRecDepth 100000 in
theorem q2_L_both : mQ2 mt_L_both := Or.inr ⟨mGw_of (i := 117) (by decide +kernel) (by decide +kernel), by decide +kernel, Or.inl (by decide +kernel), by decide +kernel, by decide, Or.inl ⟨rfl, mGw_of (i := 1347) (by decide +kernel) (by decide +kernel), by decide +kernel⟩⟩
set_option maxRecDepth 100000 in
theorem q1_L_ask : mQ1 mt_L_ask := ⟨by decide +kernel, by decide +kernel, by decide +kernel, by decide +kernel⟩
set_option maxRecDepth 100000 in
theorem q2_L_ask : mQ2 mt_L_ask := Or.inr ⟨mGw_of (i := 117) (by decide +kernel) (by decide +kernel), by decide +kernel, Or.inl (by decide +kernel), by decide +kernel, by decide, Or.inl ⟨rfl, mGw_of (i := 1354) (by decide +kernel) (by decide +kernel), by decide +kernel⟩⟩
set_option maxRecDepth 100000 in
theorem q1_L_pushes : mQ1 mt_L_pushes := ⟨by decide +kernel, by decide +kernel, by decide +kernel, by decide +kernel⟩
set_option maxRecDepth 100000 in
theorem q2_L_pushes : mQ2 mt_L_pushes := Or.inr ⟨mGw_of (i := 117) (by decide +kernel) (by decide +kernel), by decide +kernel, Or.inl (by decide +kernel), by decide +kernel, by decide, Or.inl ⟨rfl, mGw_of (i := 1371) (by decide +kernel) (by decide +kernel), by decide +kernel⟩⟩
set_option maxRecDepth 100000 in
theorem q1_L_tell : mQ1 mt_L_tell := ⟨by decide +kernel, by decide +kernel, by decide +kernel, by decide +kernel⟩
set_option maxRecDepth 100000 in
theorem q2_L_tell : mQ2 mt_L_tell := Or.inr ⟨mGw_of (i := 117) (by decide +kernel) (by decide +kernel), by decide +kernel, Or.inl (by decide +kernel), by decide +kernel, by decide, Or.inl ⟨rfl, mGw_of (i := 1378) (by decide +kernel) (by decide +kernel), by decide +kernel⟩⟩
set_option maxRecDepth 100000 in
theorem q1_L_cuts : mQ1 mt_L_cuts := ⟨by decide +kernel, by decide +kernel, by decide +kernel, by decide +kernel⟩
set_option maxRecDepth 100000 in
theorem q2_L_cuts : mQ2 mt_L_cuts := Or.inr ⟨mGw_of (i := 117) (by decide +kernel) (by decide +kernel), by decide +kernel, Or.inl (by decide +kernel), by decide +kernel, by decide, Or.inl ⟨rfl, mGw_of (i := 1385) (by decide +kernel) (by decide +kernel), by decide +kernel⟩⟩
set_option maxRecDepth 100000 in
theorem q1_L_roster : mQ1 mt_L_roster := ⟨by decide +kernel, by decide +kernel, by decide +kernel, by decide +kernel⟩
set_option maxRecDepth 100000 in
theorem q2_L_roster : mQ2 mt_L_roster := Or.inr ⟨mGw_of (i := 117) (by decide +kernel) (by decide +kernel), by decide +kernel, Or.inl (by decide +kernel), by decide +kernel, by decide, Or.inl ⟨rfl, mGw_of (i := 1395) (by decide +kernel) (by decide +kernel), by decide +kernel⟩⟩
set_option maxRecDepth 100000 in
theorem q1_L_pairs : mQ1 mt_L_pairs := ⟨by decide +kernel, by decide +kernel, by decide +kernel, by decide +kernel⟩
set_option maxRecDepth 100000 in
theorem q2_L_pairs : mQ2 mt_L_pairs := Or.inr ⟨mGw_of (i := 117) (by decide +kernel) (by decide +kernel), by decide +kernel, Or.inl (by decide +kernel), by decide +kernel, by decide, Or.inl ⟨rfl, mGw_of (i := 1410) (by decide +kernel) (by decide +kernel), by decide +kernel⟩⟩
set_option maxRecDepth 100000 in
theorem q1_L_rests : mQ1 mt_L_rests := ⟨by decide +kernel, by decide +kernel, by decide +kernel, by decide +kernel⟩
set_option maxRecDepth 100000 in
theorem q2_L_rests : mQ2 mt_L_rests := Or.inr ⟨mGw_of (i := 117) (by decide +kernel) (by decide +kernel), by decide +kernel, Or.inl (by decide +kernel), by decide +kernel, by decide, Or.inl ⟨rfl, mGw_of (i := 1417) (by decide +kernel) (by decide +kernel), by decide +kernel⟩⟩
set_option maxRecDepth 100000 in
theorem q1_L_odds : mQ1 mt_L_odds := ⟨by decide +kernel, by decide +kernel, by decide +kernel, by decide +kernel⟩
set_option maxRecDepth 100000 in
theorem q2_L_odds : mQ2 mt_L_odds := Or.inr ⟨mGw_of (i := 117) (by decide +kernel) (by decide +kernel), by decide +kernel, Or.inl (by decide +kernel), by decide +kernel, by decide, Or.inl ⟨rfl, mGw_of (i := 1431) (by decide +kernel) (by decide +kernel), by decide +kernel⟩⟩
set_option maxRecDepth 100000 in
theorem q1_L_ring : mQ1 mt_L_ring := ⟨by decide +kernel, by decide +kernel, by decide +kernel, by decide +kernel⟩
set_option maxRecDepth 100000 in
theorem q2_L_ring : mQ2 mt_L_ring := Or.inr ⟨mGw_of (i := 117) (by decide +kernel) (by decide +kernel), by decide +kernel, Or.inl (by decide +kernel), by decide +kernel, by decide, Or.inl ⟨rfl, mGw_of (i := 1439) (by decide +kernel) (by decide +kernel), by decide +kernel⟩⟩
set_option maxRecDepth 100000 in
theorem q1_L_ahead : mQ1 mt_L_ahead := ⟨by decide +kernel, by decide +kernel, by decide +kernel, by decide +kernel⟩
set_option maxRecDepth 100000 in
theorem q2_L_ahead : mQ2 mt_L_ahead := Or.inr ⟨mGw_of (i := 117) (by decide +kernel) (by decide +kernel), by decide +kernel, Or.inl (by decide +kernel), by decide +kernel, by decide, Or.inl ⟨rfl, mGw_of (i := 1446) (by decide +kernel) (by decide +kernel), by decide +kernel⟩⟩
set_option maxRecDepth 100000 in
theorem q1_L_trial : mQ1 mt_L_trial := ⟨by decide +kernel, by decide +kernel, by decide +kernel, by decide +kernel⟩
set_option maxRecDepth 100000 in
theorem q2_L_trial : mQ2 mt_L_trial := Or.inr ⟨mGw_of (i := 117) (by decide +kernel) (by decide +kernel), by decide +kernel, Or.inl (by decide +kernel), by decide +kernel, by decide, Or.inl ⟨rfl, mGw_of (i := 1456) (by decide +kernel) (by decide +kernel), by decide +kernel⟩⟩
set_option maxRecDepth 100000 in
theorem q1_L_span : mQ1 mt_L_span := ⟨by decide +kernel, by decide +kernel, by decide +kernel, by decide +kernel⟩
set_option maxRecDepth 100000 in
theorem q2_L_span : mQ2 mt_L_span := Or.inr ⟨mGw_of (i := 117) (by decide +kernel) (by decide +kernel), by decide +kernel, Or.inl (by decide +kernel), by decide +kernel, by decide, Or.inl ⟨rfl, mGw_of (i := 1463) (by decide +kernel) (by decide +kernel), by decide +kernel⟩⟩
set_option maxRecDepth 100000 in
theorem q1_L_led : mQ1 mt_L_led := ⟨by decide +kernel, by decide +kernel, by decide +kernel, by decide +kernel⟩
set_option maxRecDepth 100000 in
theorem q2_L_led : mQ2 mt_L_led := Or.inr ⟨mGw_of (i := 117) (by decide +kernel) (by decide +kernel), by decide +kernel, Or.inl (by decide +kernel), by decide +kernel, by decide, Or.inl ⟨rfl, mGw_of (i := 1470) (by decide +kernel) (by decide +kernel), by decide +kernel⟩⟩
set_option maxRecDepth 100000 in
theorem q1_L_log : mQ1 mt_L_log := ⟨by decide +kernel, by decide +kernel, by decide +kernel, by decide +kernel⟩
set_option maxRecDepth 100000 in
theorem q2_L_log : mQ2 mt_L_log := Or.inr ⟨mGw_of (i := 117) (by decide +kernel) (by decide +kernel), by decide +kernel, Or.inl (by decide +kernel), by decide +kernel, by decide, Or.inl ⟨rfl, mGw_of (i := 1492) (by decide +kernel) (by decide +kernel), by decide +kernel⟩⟩
set_option maxRecDepth 100000 in
theorem q1_L_law_ : mQ1 mt_L_law_ := ⟨by decide +kernel, by decide +kernel, by decide +kernel, by decide +kernel⟩
theorem q2_L_law_ : mQ2 mt_L_law_ := Or.inl rfl
set_option maxRecDepth 100000 in
theorem mQ1_all (y : Nat) : mQ1 (mT y) := by unfold mT; exact m_cond (m_cond (m_cond (m_cond (m_cond (m_cond (m_cond (m_cond (q1_J6_bitCount_0f7a4) (q1_J9_floorMod_7cf53)) (m_cond (q1_X0_copyFrom) (m_cond (q1_X0_clear) (q1_X0_addStep)))) (m_cond (m_cond (q1_X0_endLine) (m_cond (q1_X0_amountOf) (q1_X0_untold))) (m_cond (q1_X0_holdsFor) (m_cond (q1_X0_ofTwo) (q1_X0_ofOne))))) (m_cond (m_cond (m_cond (q1_X1_read) (q1_X1_readLine)) (m_cond (q1_X1_readAny) (m_cond (q1_X1_readAll) (q1_X1_readAtom)))) (m_cond (m_cond (q1_X1_readSum) (m_cond (q1_X1_readPart) (q1_X2_copyFrom))) (m_cond (q1_X2_add) (m_cond (q1_X2_at) (q1_X2_rowsOf)))))) (m_cond (m_cond (m_cond (m_cond (q1_X2_latestDay) (q1_X3_forget)) (m_cond (q1_X3_remember) (m_cond (q1_X3_recall) (q1_X4_read)))) (m_cond (m_cond (q1_X4_tellOne) (m_cond (q1_X4_standsAfter) (q1_X4_firstRows))) (m_cond (q1_X4_rowOf) (m_cond (q1_X4_findGoesOn) (q1_X4_nextRow))))) (m_cond (m_cond (m_cond (q1_X5_places) (m_cond (q1_X5_sumUp) (q1_X5_fillHour))) (m_cond (q1_X5_fewestOf) (m_cond (q1_X5_costOf) (q1_X5_setOf)))) (m_cond (m_cond (q1_X5_leastSet) (m_cond (q1_X6_gather) (q1_X6_keep))) (m_cond (q1_X6_asleepInAll) (m_cond (q1_X6_asleepInSome) (q1_X6_bestToAsk))))))) (m_cond (m_cond (m_cond (m_cond (m_cond (q1_X6_greatestPart) (q1_X7_hasRoom)) (m_cond (q1_X7_append) (m_cond (q1_X7_byteAt) (q1_X7_rewind)))) (m_cond (m_cond (q1_X7_moveTo) (m_cond (q1_X7_ended) (q1_X7_wrong))) (m_cond (q1_X7_isLetter) (m_cond (q1_X7_takes) (q1_X7_must))))) (m_cond (m_cond (m_cond (q1_X7_takesSign) (q1_X7_mustSign)) (m_cond (q1_X7_number) (m_cond (q1_X7_letters) (q1_X8_touched)))) (m_cond (m_cond (q1_X8_steps) (m_cond (q1_X8_reached) (q1_X9_copyFrom))) (m_cond (q1_X9_isPerson) (m_cond (q1_X9_everyone) (q1_X9_holders)))))) (m_cond (m_cond (m_cond (m_cond (q1_X9_inRing) (q1_X9_uppermost)) (m_cond (q1_X9_spare) (m_cond (q1_X9_borneByAll) (q1_X9_strengthOfAll)))) (m_cond (m_cond (q1_X9_addPerson) (m_cond (q1_X9_fitsRing) (q1_X9_bringUp))) (m_cond (q1_X9_takeDown) (m_cond (q1_X9_canSwap) (q1_X9_swap))))) (m_cond (m_cond (m_cond (q1_X9_settle) (m_cond (q1_X9_carry) (q1_X9_shareOut))) (m_cond (q1_X9_hanging) (m_cond (q1_X9_yielding) (q1_X9_stands)))) (m_cond (m_cond (q1_X9_collapse) (m_cond (q1_X9_passHours) (q1_X9_passHour))) (m_cond (q1_X9_fadeAndMend) (m_cond (q1_X9_drawSleep) (q1_X9_draw)))))))) (m_cond (m_cond (m_cond (m_cond (m_cond (m_cond (q1_X10_read) (q1_X10_readLine)) (m_cond (q1_X10_readPerson) (m_cond (q1_X10_readUp) (q1_X10_readAsleep)))) (m_cond (m_cond (q1_X11_feed) (m_cond (q1_X11_end) (q1_X11_tower))) (m_cond (q1_X11_law) (m_cond (q1_X11_fault) (q1_X11_person))))) (m_cond (m_cond (m_cond (q1_X11_shareOf) (q1_X11_hours)) (m_cond (q1_X11_rise) (m_cond (q1_X11_out) (q1_X11_relieve)))) (m_cond (m_cond (q1_X11_lean) (m_cond (q1_X11_wake) (q1_X11_sleep))) (m_cond (q1_X11_need) (m_cond (q1_X11_keepNext) (q1_X11_total)))))) (m_cond (m_cond (m_cond (m_cond (q1_X11_ground) (q1_X11_height)) (m_cond (q1_X11_weakest) (m_cond (q1_X11_more) (q1_X11_outs)))) (m_cond (m_cond (q1_X11_sleeps) (m_cond (q1_X11_falls) (q1_X11_rounds))) (m_cond (q1_X11_fallen) (m_cond (q1_X11_fallOf) (q1_X11_key))))) (m_cond (m_cond (m_cond (q1_X11_pillars) (m_cond (q1_X11_left) (q1_X11_guard))) (m_cond (q1_X11_solo) (m_cond (q1_X11_feels) (q1_X11_sure)))) (m_cond (m_cond (q1_X11_free) (m_cond (q1_X11_both) (q1_X11_ask))) (m_cond (q1_X11_pushes) (m_cond (q1_X11_tell) (q1_X11_herald))))))) (m_cond (m_cond (m_cond (m_cond (m_cond (q1_X11_cuts) (q1_X11_roster)) (m_cond (q1_X11_pairs) (m_cond (q1_X11_dearest) (q1_X11_rests)))) (m_cond (m_cond (q1_X11_firstHas) (m_cond (q1_X11_secondHas) (q1_X11_odds))) (m_cond (q1_X11_alone) (m_cond (q1_X11_tired) (q1_X11_twins))))) (m_cond (m_cond (m_cond (q1_X11_ring) (m_cond (q1_X11_reserves) (q1_X11_sleepers))) (m_cond (q1_X11_soon) (m_cond (q1_X11_ahead) (q1_X11_trial)))) (m_cond (m_cond (q1_X11_span) (m_cond (q1_X11_led) (q1_X11_log))) (m_cond (q1_X11_seed) (m_cond (q1_X11_undo) (q1_X11_image)))))) (m_cond (m_cond (m_cond (m_cond (q1_X11_back) (q1_X11_count)) (m_cond (q1_X11_mustBePerson) (m_cond (q1_X11_mustBeRing) (q1_X11_mustBeOne)))) (m_cond (m_cond (q1_X11_mustBeSo) (m_cond (q1_X11_mustBeLookAhead) (q1_X11_mustBeUp))) (m_cond (q1_X11_mustHold) (m_cond (q1_X11_bit) (q1_X11_has))))) (m_cond (m_cond (m_cond (q1_X11_within) (m_cond (q1_X12_thrown) (q1_X12_throwsIf))) (m_cond (q1_X12_in) (m_cond (q1_X12_has) (q1_X12_image)))) (m_cond (m_cond (q1_X12_back) (m_cond (q1_X12_remembers) (q1_X12_undo))) (m_cond (q1_X12_keepsAll) (m_cond (q1_X12_bringsBack) (q1_X12_people))))))))) (m_cond (m_cond (m_cond (m_cond (m_cond (m_cond (m_cond (q1_X12_everybody) (q1_X12_at)) (m_cond (q1_X12_of) (m_cond (q1_X12_isUp) (q1_X12_isAsleep)))) (m_cond (m_cond (q1_X12_holds) (m_cond (q1_X12_upOnes) (q1_X12_holders))) (m_cond (q1_X12_asleepOnes) (m_cond (q1_X12_those) (q1_X12_nobody))))) (m_cond (m_cond (m_cond (q1_X12_drawn) (q1_X12_shares)) (m_cond (q1_X12_lays) (m_cond (q1_X12_borneBy) (q1_X12_borneByAll)))) (m_cond (m_cond (q1_X12_hangs) (m_cond (q1_X12_givesWay) (q1_X12_hanging))) (m_cond (q1_X12_stands) (m_cond (q1_X12_comesOut) (q1_X12_comesOutOf)))))) (m_cond (m_cond (m_cond (m_cond (q1_X12_tells) (q1_X12_allFall)) (m_cond (q1_X12_feed) (m_cond (q1_X12_end) (q1_X12_isAt)))) (m_cond (m_cond (q1_X12_blanks) (m_cond (q1_X12_letters) (q1_X12_isWord))) (m_cond (q1_X12_passes) (m_cond (q1_X12_sign) (q1_X12_number))))) (m_cond (m_cond (m_cond (q1_X12_after) (m_cond (q1_X12_fault) (q1_X12_uses))) (m_cond (q1_X12_readNumber) (m_cond (q1_X12_readPerson) (q1_X12_lettersOf)))) (m_cond (m_cond (q1_X12_readUp) (m_cond (q1_X12_readAsleep) (q1_X12_readTowerLine))) (m_cond (q1_X12_emits) (m_cond (q1_X12_wordOfPart) (q1_X12_readPart))))))) (m_cond (m_cond (m_cond (m_cond (m_cond (q1_X12_readSum) (q1_X12_readTag)) (m_cond (q1_X12_readAtom) (m_cond (q1_X12_readAllOf) (q1_X12_readCond)))) (m_cond (m_cond (q1_X12_readLawLine) (m_cond (q1_X12_readLine) (q1_X12_readAll))) (m_cond (q1_X12_tower) (m_cond (q1_X12_law) (q1_X12_isTop))))) (m_cond (m_cond (m_cond (q1_X12_factOf) (m_cond (q1_X12_holdsLine) (q1_X12_withoutText))) (m_cond (q1_X12_byLaw) (m_cond (q1_X12_spareOf) (q1_X12_shareOf)))) (m_cond (m_cond (q1_X12_person) (m_cond (q1_X12_tires) (q1_X12_oneHour))) (m_cond (q1_X12_goesOn) (m_cond (q1_X12_hours) (q1_X12_cannot)))))) (m_cond (m_cond (m_cond (m_cond (q1_X12_wrongOn) (q1_X12_rise)) (m_cond (q1_X12_out) (m_cond (q1_X12_changes) (q1_X12_relieve)))) (m_cond (m_cond (q1_X12_lean) (m_cond (q1_X12_wake) (q1_X12_sleep))) (m_cond (q1_X12_need) (m_cond (q1_X12_total) (q1_X12_ground))))) (m_cond (m_cond (m_cond (q1_X12_height) (m_cond (q1_X12_weakest) (q1_X12_bearsMore))) (m_cond (q1_X12_more) (m_cond (q1_X12_couldComeOut) (q1_X12_outs)))) (m_cond (m_cond (q1_X12_sleeps) (m_cond (q1_X12_comesDown) (q1_X12_cannotFall))) (m_cond (q1_X12_falls) (m_cond (q1_X12_rounds) (q1_X12_fallen)))))))) (m_cond (m_cond (m_cond (m_cond (m_cond (m_cond (q1_X12_key) (q1_X12_pillars)) (m_cond (q1_X12_uppermost) (m_cond (q1_X12_left) (q1_X12_isGuard)))) (m_cond (m_cond (q1_X12_relieves) (m_cond (q1_X12_canBe) (q1_X12_guard))) (m_cond (q1_X12_solo) (m_cond (q1_X12_laysSleepers) (q1_X12_feelsSo))))) (m_cond (m_cond (m_cond (q1_X12_sleepersUp) (q1_X12_cannotFeel)) (m_cond (q1_X12_feelTo) (m_cond (q1_X12_feels) (q1_X12_sure)))) (m_cond (m_cond (q1_X12_free) (m_cond (q1_X12_both) (q1_X12_partBy))) (m_cond (q1_X12_ask) (m_cond (q1_X12_touches) (q1_X12_touchedBy)))))) (m_cond (m_cond (m_cond (m_cond (q1_X12_reachedFrom) (q1_X12_pushes)) (m_cond (q1_X12_tellOf) (m_cond (q1_X12_tell) (q1_X12_herald)))) (m_cond (m_cond (q1_X12_pairsAmong) (m_cond (q1_X12_cuts) (q1_X12_fullOf))) (m_cond (q1_X12_laysPlaces) (m_cond (q1_X12_fewestPlaces) (q1_X12_roster))))) (m_cond (m_cond (m_cond (q1_X12_pairs) (m_cond (q1_X12_dearest) (q1_X12_firstHas))) (m_cond (q1_X12_otherHas) (m_cond (q1_X12_rests) (q1_X12_odds)))) (m_cond (m_cond (q1_X12_alone) (m_cond (q1_X12_tired) (q1_X12_twins))) (m_cond (q1_X12_ring) (m_cond (q1_X12_reserves) (q1_X12_sleepers))))))) (m_cond (m_cond (m_cond (m_cond (m_cond (q1_X12_noAhead) (q1_X12_soon)) (m_cond (q1_X12_ahead) (m_cond (q1_X12_trial) (q1_X12_span)))) (m_cond (m_cond (q1_X12_ofLog) (m_cond (q1_X12_led) (q1_X12_log))) (m_cond (q1_X12_seed) (m_cond (q1_X12_count) (q1_L_tower))))) (m_cond (m_cond (m_cond (q1_L_law) (m_cond (q1_L_person) (q1_L_hours))) (m_cond (q1_L_rise) (m_cond (q1_L_out) (q1_L_relieve)))) (m_cond (m_cond (q1_L_lean) (m_cond (q1_L_wake) (q1_L_sleep))) (m_cond (q1_L_need) (m_cond (q1_L_more) (q1_L_falls)))))) (m_cond (m_cond (m_cond (m_cond (q1_L_rounds) (q1_L_fallen)) (m_cond (q1_L_guard) (m_cond (q1_L_solo) (q1_L_feels)))) (m_cond (m_cond (q1_L_sure) (m_cond (q1_L_free) (q1_L_both))) (m_cond (q1_L_ask) (m_cond (q1_L_pushes) (q1_L_tell))))) (m_cond (m_cond (m_cond (q1_L_cuts) (m_cond (q1_L_roster) (q1_L_pairs))) (m_cond (q1_L_rests) (m_cond (q1_L_odds) (q1_L_ring)))) (m_cond (m_cond (q1_L_ahead) (m_cond (q1_L_trial) (q1_L_span))) (m_cond (q1_L_led) (m_cond (q1_L_log) (q1_L_law_)))))))))
set_option maxRecDepth 100000 in
theorem mQ2_all (y : Nat) : mQ2 (mT y) := by unfold mT; exact m_cond (m_cond (m_cond (m_cond (m_cond (m_cond (m_cond (m_cond (q2_J6_bitCount_0f7a4) (q2_J9_floorMod_7cf53)) (m_cond (q2_X0_copyFrom) (m_cond (q2_X0_clear) (q2_X0_addStep)))) (m_cond (m_cond (q2_X0_endLine) (m_cond (q2_X0_amountOf) (q2_X0_untold))) (m_cond (q2_X0_holdsFor) (m_cond (q2_X0_ofTwo) (q2_X0_ofOne))))) (m_cond (m_cond (m_cond (q2_X1_read) (q2_X1_readLine)) (m_cond (q2_X1_readAny) (m_cond (q2_X1_readAll) (q2_X1_readAtom)))) (m_cond (m_cond (q2_X1_readSum) (m_cond (q2_X1_readPart) (q2_X2_copyFrom))) (m_cond (q2_X2_add) (m_cond (q2_X2_at) (q2_X2_rowsOf)))))) (m_cond (m_cond (m_cond (m_cond (q2_X2_latestDay) (q2_X3_forget)) (m_cond (q2_X3_remember) (m_cond (q2_X3_recall) (q2_X4_read)))) (m_cond (m_cond (q2_X4_tellOne) (m_cond (q2_X4_standsAfter) (q2_X4_firstRows))) (m_cond (q2_X4_rowOf) (m_cond (q2_X4_findGoesOn) (q2_X4_nextRow))))) (m_cond (m_cond (m_cond (q2_X5_places) (m_cond (q2_X5_sumUp) (q2_X5_fillHour))) (m_cond (q2_X5_fewestOf) (m_cond (q2_X5_costOf) (q2_X5_setOf)))) (m_cond (m_cond (q2_X5_leastSet) (m_cond (q2_X6_gather) (q2_X6_keep))) (m_cond (q2_X6_asleepInAll) (m_cond (q2_X6_asleepInSome) (q2_X6_bestToAsk))))))) (m_cond (m_cond (m_cond (m_cond (m_cond (q2_X6_greatestPart) (q2_X7_hasRoom)) (m_cond (q2_X7_append) (m_cond (q2_X7_byteAt) (q2_X7_rewind)))) (m_cond (m_cond (q2_X7_moveTo) (m_cond (q2_X7_ended) (q2_X7_wrong))) (m_cond (q2_X7_isLetter) (m_cond (q2_X7_takes) (q2_X7_must))))) (m_cond (m_cond (m_cond (q2_X7_takesSign) (q2_X7_mustSign)) (m_cond (q2_X7_number) (m_cond (q2_X7_letters) (q2_X8_touched)))) (m_cond (m_cond (q2_X8_steps) (m_cond (q2_X8_reached) (q2_X9_copyFrom))) (m_cond (q2_X9_isPerson) (m_cond (q2_X9_everyone) (q2_X9_holders)))))) (m_cond (m_cond (m_cond (m_cond (q2_X9_inRing) (q2_X9_uppermost)) (m_cond (q2_X9_spare) (m_cond (q2_X9_borneByAll) (q2_X9_strengthOfAll)))) (m_cond (m_cond (q2_X9_addPerson) (m_cond (q2_X9_fitsRing) (q2_X9_bringUp))) (m_cond (q2_X9_takeDown) (m_cond (q2_X9_canSwap) (q2_X9_swap))))) (m_cond (m_cond (m_cond (q2_X9_settle) (m_cond (q2_X9_carry) (q2_X9_shareOut))) (m_cond (q2_X9_hanging) (m_cond (q2_X9_yielding) (q2_X9_stands)))) (m_cond (m_cond (q2_X9_collapse) (m_cond (q2_X9_passHours) (q2_X9_passHour))) (m_cond (q2_X9_fadeAndMend) (m_cond (q2_X9_drawSleep) (q2_X9_draw)))))))) (m_cond (m_cond (m_cond (m_cond (m_cond (m_cond (q2_X10_read) (q2_X10_readLine)) (m_cond (q2_X10_readPerson) (m_cond (q2_X10_readUp) (q2_X10_readAsleep)))) (m_cond (m_cond (q2_X11_feed) (m_cond (q2_X11_end) (q2_X11_tower))) (m_cond (q2_X11_law) (m_cond (q2_X11_fault) (q2_X11_person))))) (m_cond (m_cond (m_cond (q2_X11_shareOf) (q2_X11_hours)) (m_cond (q2_X11_rise) (m_cond (q2_X11_out) (q2_X11_relieve)))) (m_cond (m_cond (q2_X11_lean) (m_cond (q2_X11_wake) (q2_X11_sleep))) (m_cond (q2_X11_need) (m_cond (q2_X11_keepNext) (q2_X11_total)))))) (m_cond (m_cond (m_cond (m_cond (q2_X11_ground) (q2_X11_height)) (m_cond (q2_X11_weakest) (m_cond (q2_X11_more) (q2_X11_outs)))) (m_cond (m_cond (q2_X11_sleeps) (m_cond (q2_X11_falls) (q2_X11_rounds))) (m_cond (q2_X11_fallen) (m_cond (q2_X11_fallOf) (q2_X11_key))))) (m_cond (m_cond (m_cond (q2_X11_pillars) (m_cond (q2_X11_left) (q2_X11_guard))) (m_cond (q2_X11_solo) (m_cond (q2_X11_feels) (q2_X11_sure)))) (m_cond (m_cond (q2_X11_free) (m_cond (q2_X11_both) (q2_X11_ask))) (m_cond (q2_X11_pushes) (m_cond (q2_X11_tell) (q2_X11_herald))))))) (m_cond (m_cond (m_cond (m_cond (m_cond (q2_X11_cuts) (q2_X11_roster)) (m_cond (q2_X11_pairs) (m_cond (q2_X11_dearest) (q2_X11_rests)))) (m_cond (m_cond (q2_X11_firstHas) (m_cond (q2_X11_secondHas) (q2_X11_odds))) (m_cond (q2_X11_alone) (m_cond (q2_X11_tired) (q2_X11_twins))))) (m_cond (m_cond (m_cond (q2_X11_ring) (m_cond (q2_X11_reserves) (q2_X11_sleepers))) (m_cond (q2_X11_soon) (m_cond (q2_X11_ahead) (q2_X11_trial)))) (m_cond (m_cond (q2_X11_span) (m_cond (q2_X11_led) (q2_X11_log))) (m_cond (q2_X11_seed) (m_cond (q2_X11_undo) (q2_X11_image)))))) (m_cond (m_cond (m_cond (m_cond (q2_X11_back) (q2_X11_count)) (m_cond (q2_X11_mustBePerson) (m_cond (q2_X11_mustBeRing) (q2_X11_mustBeOne)))) (m_cond (m_cond (q2_X11_mustBeSo) (m_cond (q2_X11_mustBeLookAhead) (q2_X11_mustBeUp))) (m_cond (q2_X11_mustHold) (m_cond (q2_X11_bit) (q2_X11_has))))) (m_cond (m_cond (m_cond (q2_X11_within) (m_cond (q2_X12_thrown) (q2_X12_throwsIf))) (m_cond (q2_X12_in) (m_cond (q2_X12_has) (q2_X12_image)))) (m_cond (m_cond (q2_X12_back) (m_cond (q2_X12_remembers) (q2_X12_undo))) (m_cond (q2_X12_keepsAll) (m_cond (q2_X12_bringsBack) (q2_X12_people))))))))) (m_cond (m_cond (m_cond (m_cond (m_cond (m_cond (m_cond (q2_X12_everybody) (q2_X12_at)) (m_cond (q2_X12_of) (m_cond (q2_X12_isUp) (q2_X12_isAsleep)))) (m_cond (m_cond (q2_X12_holds) (m_cond (q2_X12_upOnes) (q2_X12_holders))) (m_cond (q2_X12_asleepOnes) (m_cond (q2_X12_those) (q2_X12_nobody))))) (m_cond (m_cond (m_cond (q2_X12_drawn) (q2_X12_shares)) (m_cond (q2_X12_lays) (m_cond (q2_X12_borneBy) (q2_X12_borneByAll)))) (m_cond (m_cond (q2_X12_hangs) (m_cond (q2_X12_givesWay) (q2_X12_hanging))) (m_cond (q2_X12_stands) (m_cond (q2_X12_comesOut) (q2_X12_comesOutOf)))))) (m_cond (m_cond (m_cond (m_cond (q2_X12_tells) (q2_X12_allFall)) (m_cond (q2_X12_feed) (m_cond (q2_X12_end) (q2_X12_isAt)))) (m_cond (m_cond (q2_X12_blanks) (m_cond (q2_X12_letters) (q2_X12_isWord))) (m_cond (q2_X12_passes) (m_cond (q2_X12_sign) (q2_X12_number))))) (m_cond (m_cond (m_cond (q2_X12_after) (m_cond (q2_X12_fault) (q2_X12_uses))) (m_cond (q2_X12_readNumber) (m_cond (q2_X12_readPerson) (q2_X12_lettersOf)))) (m_cond (m_cond (q2_X12_readUp) (m_cond (q2_X12_readAsleep) (q2_X12_readTowerLine))) (m_cond (q2_X12_emits) (m_cond (q2_X12_wordOfPart) (q2_X12_readPart))))))) (m_cond (m_cond (m_cond (m_cond (m_cond (q2_X12_readSum) (q2_X12_readTag)) (m_cond (q2_X12_readAtom) (m_cond (q2_X12_readAllOf) (q2_X12_readCond)))) (m_cond (m_cond (q2_X12_readLawLine) (m_cond (q2_X12_readLine) (q2_X12_readAll))) (m_cond (q2_X12_tower) (m_cond (q2_X12_law) (q2_X12_isTop))))) (m_cond (m_cond (m_cond (q2_X12_factOf) (m_cond (q2_X12_holdsLine) (q2_X12_withoutText))) (m_cond (q2_X12_byLaw) (m_cond (q2_X12_spareOf) (q2_X12_shareOf)))) (m_cond (m_cond (q2_X12_person) (m_cond (q2_X12_tires) (q2_X12_oneHour))) (m_cond (q2_X12_goesOn) (m_cond (q2_X12_hours) (q2_X12_cannot)))))) (m_cond (m_cond (m_cond (m_cond (q2_X12_wrongOn) (q2_X12_rise)) (m_cond (q2_X12_out) (m_cond (q2_X12_changes) (q2_X12_relieve)))) (m_cond (m_cond (q2_X12_lean) (m_cond (q2_X12_wake) (q2_X12_sleep))) (m_cond (q2_X12_need) (m_cond (q2_X12_total) (q2_X12_ground))))) (m_cond (m_cond (m_cond (q2_X12_height) (m_cond (q2_X12_weakest) (q2_X12_bearsMore))) (m_cond (q2_X12_more) (m_cond (q2_X12_couldComeOut) (q2_X12_outs)))) (m_cond (m_cond (q2_X12_sleeps) (m_cond (q2_X12_comesDown) (q2_X12_cannotFall))) (m_cond (q2_X12_falls) (m_cond (q2_X12_rounds) (q2_X12_fallen)))))))) (m_cond (m_cond (m_cond (m_cond (m_cond (m_cond (q2_X12_key) (q2_X12_pillars)) (m_cond (q2_X12_uppermost) (m_cond (q2_X12_left) (q2_X12_isGuard)))) (m_cond (m_cond (q2_X12_relieves) (m_cond (q2_X12_canBe) (q2_X12_guard))) (m_cond (q2_X12_solo) (m_cond (q2_X12_laysSleepers) (q2_X12_feelsSo))))) (m_cond (m_cond (m_cond (q2_X12_sleepersUp) (q2_X12_cannotFeel)) (m_cond (q2_X12_feelTo) (m_cond (q2_X12_feels) (q2_X12_sure)))) (m_cond (m_cond (q2_X12_free) (m_cond (q2_X12_both) (q2_X12_partBy))) (m_cond (q2_X12_ask) (m_cond (q2_X12_touches) (q2_X12_touchedBy)))))) (m_cond (m_cond (m_cond (m_cond (q2_X12_reachedFrom) (q2_X12_pushes)) (m_cond (q2_X12_tellOf) (m_cond (q2_X12_tell) (q2_X12_herald)))) (m_cond (m_cond (q2_X12_pairsAmong) (m_cond (q2_X12_cuts) (q2_X12_fullOf))) (m_cond (q2_X12_laysPlaces) (m_cond (q2_X12_fewestPlaces) (q2_X12_roster))))) (m_cond (m_cond (m_cond (q2_X12_pairs) (m_cond (q2_X12_dearest) (q2_X12_firstHas))) (m_cond (q2_X12_otherHas) (m_cond (q2_X12_rests) (q2_X12_odds)))) (m_cond (m_cond (q2_X12_alone) (m_cond (q2_X12_tired) (q2_X12_twins))) (m_cond (q2_X12_ring) (m_cond (q2_X12_reserves) (q2_X12_sleepers))))))) (m_cond (m_cond (m_cond (m_cond (m_cond (q2_X12_noAhead) (q2_X12_soon)) (m_cond (q2_X12_ahead) (m_cond (q2_X12_trial) (q2_X12_span)))) (m_cond (m_cond (q2_X12_ofLog) (m_cond (q2_X12_led) (q2_X12_log))) (m_cond (q2_X12_seed) (m_cond (q2_X12_count) (q2_L_tower))))) (m_cond (m_cond (m_cond (q2_L_law) (m_cond (q2_L_person) (q2_L_hours))) (m_cond (q2_L_rise) (m_cond (q2_L_out) (q2_L_relieve)))) (m_cond (m_cond (q2_L_lean) (m_cond (q2_L_wake) (q2_L_sleep))) (m_cond (q2_L_need) (m_cond (q2_L_more) (q2_L_falls)))))) (m_cond (m_cond (m_cond (m_cond (q2_L_rounds) (q2_L_fallen)) (m_cond (q2_L_guard) (m_cond (q2_L_solo) (q2_L_feels)))) (m_cond (m_cond (q2_L_sure) (m_cond (q2_L_free) (q2_L_both))) (m_cond (q2_L_ask) (m_cond (q2_L_pushes) (q2_L_tell))))) (m_cond (m_cond (m_cond (q2_L_cuts) (m_cond (q2_L_roster) (q2_L_pairs))) (m_cond (q2_L_rests) (m_cond (q2_L_odds) (q2_L_ring)))) (m_cond (m_cond (q2_L_ahead) (m_cond (q2_L_trial) (q2_L_span))) (m_cond (q2_L_led) (m_cond (q2_L_log) (q2_L_law_)))))))))
