set_option maxRecDepth 100000 in
theorem q1_X11_feed : mQ1 mt_X11_feed := ⟨by decide +kernel, by decide +kernel, by decide +kernel, by decide +kernel⟩
set_option maxRecDepth 100000 in
theorem q2_X11_feed : mQ2 mt_X11_feed := Or.inr ⟨mGw_of (i := 118) (by decide +kernel) (by decide +kernel), by decide +kernel, Or.inl (by decide +kernel), by decide +kernel, by decide, Or.inr ⟨by decide, mGw_of (i := 452) (by decide +kernel) (by decide +kernel), mGw_of (i := 453) (by decide +kernel) (by decide +kernel), by decide +kernel, by decide +kernel⟩⟩
set_option maxRecDepth 100000 in
theorem q1_X11_end : mQ1 mt_X11_end := ⟨by decide +kernel, by decide +kernel, by decide +kernel, by decide +kernel⟩
set_option maxRecDepth 100000 in
theorem q2_X11_end : mQ2 mt_X11_end := Or.inr ⟨mGw_of (i := 118) (by decide +kernel) (by decide +kernel), by decide +kernel, Or.inl (by decide +kernel), by decide +kernel, by decide, Or.inr ⟨by decide, mGw_of (i := 464) (by decide +kernel) (by decide +kernel), mGw_of (i := 465) (by decide +kernel) (by decide +kernel), by decide +kernel, by decide +kernel⟩⟩
set_option maxRecDepth 100000 in
theorem q1_X11_tower : mQ1 mt_X11_tower := ⟨by decide +kernel, by decide +kernel, by decide +kernel, by decide +kernel⟩
set_option maxRecDepth 100000 in
theorem q2_X11_tower : mQ2 mt_X11_tower := Or.inr ⟨mGw_of (i := 118) (by decide +kernel) (by decide +kernel), by decide +kernel, Or.inl (by decide +kernel), by decide +kernel, by decide, Or.inr ⟨by decide, mGw_of (i := 762) (by decide +kernel) (by decide +kernel), mGw_of (i := 763) (by decide +kernel) (by decide +kernel), by decide +kernel, by decide +kernel⟩⟩
set_option maxRecDepth 100000 in
theorem q1_X11_law : mQ1 mt_X11_law := ⟨by decide +kernel, by decide +kernel, by decide +kernel, by decide +kernel⟩
set_option maxRecDepth 100000 in
theorem q2_X11_law : mQ2 mt_X11_law := Or.inr ⟨mGw_of (i := 118) (by decide +kernel) (by decide +kernel), by decide +kernel, Or.inl (by decide +kernel), by decide +kernel, by decide, Or.inr ⟨by decide, mGw_of (i := 997) (by decide +kernel) (by decide +kernel), mGw_of (i := 998) (by decide +kernel) (by decide +kernel), by decide +kernel, by decide +kernel⟩⟩
set_option maxRecDepth 100000 in
theorem q1_X11_fault : mQ1 mt_X11_fault := ⟨by decide +kernel, by decide +kernel, by decide +kernel, by decide +kernel⟩
set_option maxRecDepth 100000 in
theorem q2_X11_fault : mQ2 mt_X11_fault := Or.inr ⟨mGw_of (i := 118) (by decide +kernel) (by decide +kernel), by decide +kernel, Or.inl (by decide +kernel), by decide +kernel, by decide, Or.inr ⟨by decide, mGw_of (i := 468) (by decide +kernel) (by decide +kernel), mGw_of (i := 469) (by decide +kernel) (by decide +kernel), by decide +kernel, by decide +kernel⟩⟩
set_option maxRecDepth 100000 in
theorem q1_X11_person : mQ1 mt_X11_person := ⟨by decide +kernel, by decide +kernel, by decide +kernel, by decide +kernel⟩
set_option maxRecDepth 100000 in
theorem q2_X11_person : mQ2 mt_X11_person := Or.inr ⟨mGw_of (i := 118) (by decide +kernel) (by decide +kernel), by decide +kernel, Or.inl (by decide +kernel), by decide +kernel, by decide, Or.inr ⟨by decide, mGw_of (i := 1063) (by decide +kernel) (by decide +kernel), mGw_of (i := 1064) (by decide +kernel) (by decide +kernel), by decide +kernel, by decide +kernel⟩⟩
set_option maxRecDepth 100000 in
theorem q1_X11_shareOf : mQ1 mt_X11_shareOf := ⟨by decide +kernel, by decide +kernel, by decide +kernel, by decide +kernel⟩
set_option maxRecDepth 100000 in
theorem q2_X11_shareOf : mQ2 mt_X11_shareOf := Or.inr ⟨mGw_of (i := 118) (by decide +kernel) (by decide +kernel), by decide +kernel, Or.inl (by decide +kernel), by decide +kernel, by decide, Or.inr ⟨by decide, mGw_of (i := 1090) (by decide +kernel) (by decide +kernel), mGw_of (i := 15) (by decide +kernel) (by decide +kernel), by decide +kernel, by decide +kernel⟩⟩
set_option maxRecDepth 100000 in
theorem q1_X11_hours : mQ1 mt_X11_hours := ⟨by decide +kernel, by decide +kernel, by decide +kernel, by decide +kernel⟩
set_option maxRecDepth 100000 in
theorem q2_X11_hours : mQ2 mt_X11_hours := Or.inr ⟨mGw_of (i := 118) (by decide +kernel) (by decide +kernel), by decide +kernel, Or.inl (by decide +kernel), by decide +kernel, by decide, Or.inr ⟨by decide, mGw_of (i := 1112) (by decide +kernel) (by decide +kernel), mGw_of (i := 1113) (by decide +kernel) (by decide +kernel), by decide +kernel, by decide +kernel⟩⟩
set_option maxRecDepth 100000 in
theorem q1_X11_rise : mQ1 mt_X11_rise := ⟨by decide +kernel, by decide +kernel, by decide +kernel, by decide +kernel⟩
set_option maxRecDepth 100000 in
theorem q2_X11_rise : mQ2 mt_X11_rise := Or.inr ⟨mGw_of (i := 118) (by decide +kernel) (by decide +kernel), by decide +kernel, Or.inl (by decide +kernel), by decide +kernel, by decide, Or.inr ⟨by decide, mGw_of (i := 1129) (by decide +kernel) (by decide +kernel), mGw_of (i := 1130) (by decide +kernel) (by decide +kernel), by decide +kernel, by decide +kernel⟩⟩
set_option maxRecDepth 100000 in
theorem q1_X11_out : mQ1 mt_X11_out := ⟨by decide +kernel, by decide +kernel, by decide +kernel, by decide +kernel⟩
set_option maxRecDepth 100000 in
theorem q2_X11_out : mQ2 mt_X11_out := Or.inr ⟨mGw_of (i := 118) (by decide +kernel) (by decide +kernel), by decide +kernel, Or.inl (by decide +kernel), by decide +kernel, by decide, Or.inr ⟨by decide, mGw_of (i := 1171) (by decide +kernel) (by decide +kernel), mGw_of (i := 1172) (by decide +kernel) (by decide +kernel), by decide +kernel, by decide +kernel⟩⟩
set_option maxRecDepth 100000 in
theorem q1_X11_relieve : mQ1 mt_X11_relieve := ⟨by decide +kernel, by decide +kernel, by decide +kernel, by decide +kernel⟩
set_option maxRecDepth 100000 in
theorem q2_X11_relieve : mQ2 mt_X11_relieve := Or.inr ⟨mGw_of (i := 118) (by decide +kernel) (by decide +kernel), by decide +kernel, Or.inl (by decide +kernel), by decide +kernel, by decide, Or.inr ⟨by decide, mGw_of (i := 1182) (by decide +kernel) (by decide +kernel), mGw_of (i := 1183) (by decide +kernel) (by decide +kernel), by decide +kernel, by decide +kernel⟩⟩
set_option maxRecDepth 100000 in
theorem q1_X11_lean : mQ1 mt_X11_lean := ⟨by decide +kernel, by decide +kernel, by decide +kernel, by decide +kernel⟩
set_option maxRecDepth 100000 in
theorem q2_X11_lean : mQ2 mt_X11_lean := Or.inr ⟨mGw_of (i := 118) (by decide +kernel) (by decide +kernel), by decide +kernel, Or.inl (by decide +kernel), by decide +kernel, by decide, Or.inr ⟨by decide, mGw_of (i := 1198) (by decide +kernel) (by decide +kernel), mGw_of (i := 1199) (by decide +kernel) (by decide +kernel), by decide +kernel, by decide +kernel⟩⟩
set_option maxRecDepth 100000 in
theorem q1_X11_wake : mQ1 mt_X11_wake := ⟨by decide +kernel, by decide +kernel, by decide +kernel, by decide +kernel⟩
set_option maxRecDepth 100000 in
theorem q2_X11_wake : mQ2 mt_X11_wake := Or.inr ⟨mGw_of (i := 118) (by decide +kernel) (by decide +kernel), by decide +kernel, Or.inl (by decide +kernel), by decide +kernel, by decide, Or.inr ⟨by decide, mGw_of (i := 1205) (by decide +kernel) (by decide +kernel), mGw_of (i := 1206) (by decide +kernel) (by decide +kernel), by decide +kernel, by decide +kernel⟩⟩
set_option maxRecDepth 100000 in
theorem q1_X11_sleep : mQ1 mt_X11_sleep := ⟨by decide +kernel, by decide +kernel, by decide +kernel, by decide +kernel⟩
set_option maxRecDepth 100000 in
theorem q2_X11_sleep : mQ2 mt_X11_sleep := Or.inr ⟨mGw_of (i := 118) (by decide +kernel) (by decide +kernel), by decide +kernel, Or.inl (by decide +kernel), by decide +kernel, by decide, Or.inr ⟨by decide, mGw_of (i := 1212) (by decide +kernel) (by decide +kernel), mGw_of (i := 1213) (by decide +kernel) (by decide +kernel), by decide +kernel, by decide +kernel⟩⟩
set_option maxRecDepth 100000 in
theorem q1_X11_need : mQ1 mt_X11_need := ⟨by decide +kernel, by decide +kernel, by decide +kernel, by decide +kernel⟩
set_option maxRecDepth 100000 in
theorem q2_X11_need : mQ2 mt_X11_need := Or.inr ⟨mGw_of (i := 118) (by decide +kernel) (by decide +kernel), by decide +kernel, Or.inl (by decide +kernel), by decide +kernel, by decide, Or.inr ⟨by decide, mGw_of (i := 1219) (by decide +kernel) (by decide +kernel), mGw_of (i := 1220) (by decide +kernel) (by decide +kernel), by decide +kernel, by decide +kernel⟩⟩
set_option maxRecDepth 100000 in
theorem q1_X11_keepNext : mQ1 mt_X11_keepNext := ⟨by decide +kernel, by decide +kernel, by decide +kernel, by decide +kernel⟩
set_option maxRecDepth 100000 in
theorem q2_X11_keepNext : mQ2 mt_X11_keepNext := Or.inr ⟨mGw_of (i := 118) (by decide +kernel) (by decide +kernel), by decide +kernel, Or.inl (by decide +kernel), by decide +kernel, by decide, Or.inr ⟨by decide, mGw_of (i := 1164) (by decide +kernel) (by decide +kernel), mGw_of (i := 16) (by decide +kernel) (by decide +kernel), by decide +kernel, by decide +kernel⟩⟩
set_option maxRecDepth 100000 in
theorem q1_X11_total : mQ1 mt_X11_total := ⟨by decide +kernel, by decide +kernel, by decide +kernel, by decide +kernel⟩
set_option maxRecDepth 100000 in
theorem q2_X11_total : mQ2 mt_X11_total := Or.inr ⟨mGw_of (i := 118) (by decide +kernel) (by decide +kernel), by decide +kernel, Or.inl (by decide +kernel), by decide +kernel, by decide, Or.inr ⟨by decide, mGw_of (i := 472) (by decide +kernel) (by decide +kernel), mGw_of (i := 473) (by decide +kernel) (by decide +kernel), by decide +kernel, by decide +kernel⟩⟩
set_option maxRecDepth 100000 in
theorem q1_X11_ground : mQ1 mt_X11_ground := ⟨by decide +kernel, by decide +kernel, by decide +kernel, by decide +kernel⟩
set_option maxRecDepth 100000 in
theorem q2_X11_ground : mQ2 mt_X11_ground := Or.inr ⟨mGw_of (i := 118) (by decide +kernel) (by decide +kernel), by decide +kernel, Or.inl (by decide +kernel), by decide +kernel, by decide, Or.inr ⟨by decide, mGw_of (i := 479) (by decide +kernel) (by decide +kernel), mGw_of (i := 480) (by decide +kernel) (by decide +kernel), by decide +kernel, by decide +kernel⟩⟩
set_option maxRecDepth 100000 in
theorem q1_X11_height : mQ1 mt_X11_height := ⟨by decide +kernel, by decide +kernel, by decide +kernel, by decide +kernel⟩
set_option maxRecDepth 100000 in
theorem q2_X11_height : mQ2 mt_X11_height := Or.inr ⟨mGw_of (i := 118) (by decide +kernel) (by decide +kernel), by decide +kernel, Or.inl (by decide +kernel), by decide +kernel, by decide, Or.inr ⟨by decide, mGw_of (i := 491) (by decide +kernel) (by decide +kernel), mGw_of (i := 492) (by decide +kernel) (by decide +kernel), by decide +kernel, by decide +kernel⟩⟩
set_option maxRecDepth 100000 in
theorem q1_X11_weakest : mQ1 mt_X11_weakest := ⟨by decide +kernel, by decide +kernel, by decide +kernel, by decide +kernel⟩
set_option maxRecDepth 100000 in
theorem q2_X11_weakest : mQ2 mt_X11_weakest := Or.inr ⟨mGw_of (i := 118) (by decide +kernel) (by decide +kernel), by decide +kernel, Or.inl (by decide +kernel), by decide +kernel, by decide, Or.inr ⟨by decide, mGw_of (i := 499) (by decide +kernel) (by decide +kernel), mGw_of (i := 500) (by decide +kernel) (by decide +kernel), by decide +kernel, by decide +kernel⟩⟩
set_option maxRecDepth 100000 in
theorem q1_X11_more : mQ1 mt_X11_more := ⟨by decide +kernel, by decide +kernel, by decide +kernel, by decide +kernel⟩
set_option maxRecDepth 100000 in
theorem q2_X11_more : mQ2 mt_X11_more := Or.inr ⟨mGw_of (i := 118) (by decide +kernel) (by decide +kernel), by decide +kernel, Or.inl (by decide +kernel), by decide +kernel, by decide, Or.inr ⟨by decide, mGw_of (i := 1226) (by decide +kernel) (by decide +kernel), mGw_of (i := 1227) (by decide +kernel) (by decide +kernel), by decide +kernel, by decide +kernel⟩⟩
set_option maxRecDepth 100000 in
theorem q1_X11_outs : mQ1 mt_X11_outs := ⟨by decide +kernel, by decide +kernel, by decide +kernel, by decide +kernel⟩
set_option maxRecDepth 100000 in
theorem q2_X11_outs : mQ2 mt_X11_outs := Or.inr ⟨mGw_of (i := 118) (by decide +kernel) (by decide +kernel), by decide +kernel, Or.inl (by decide +kernel), by decide +kernel, by decide, Or.inr ⟨by decide, mGw_of (i := 511) (by decide +kernel) (by decide +kernel), mGw_of (i := 512) (by decide +kernel) (by decide +kernel), by decide +kernel, by decide +kernel⟩⟩
set_option maxRecDepth 100000 in
theorem q1_X11_sleeps : mQ1 mt_X11_sleeps := ⟨by decide +kernel, by decide +kernel, by decide +kernel, by decide +kernel⟩
set_option maxRecDepth 100000 in
theorem q2_X11_sleeps : mQ2 mt_X11_sleeps := Or.inr ⟨mGw_of (i := 118) (by decide +kernel) (by decide +kernel), by decide +kernel, Or.inl (by decide +kernel), by decide +kernel, by decide, Or.inr ⟨by decide, mGw_of (i := 541) (by decide +kernel) (by decide +kernel), mGw_of (i := 542) (by decide +kernel) (by decide +kernel), by decide +kernel, by decide +kernel⟩⟩
set_option maxRecDepth 100000 in
theorem q1_X11_falls : mQ1 mt_X11_falls := ⟨by decide +kernel, by decide +kernel, by decide +kernel, by decide +kernel⟩
set_option maxRecDepth 100000 in
theorem q2_X11_falls : mQ2 mt_X11_falls := Or.inr ⟨mGw_of (i := 118) (by decide +kernel) (by decide +kernel), by decide +kernel, Or.inl (by decide +kernel), by decide +kernel, by decide, Or.inr ⟨by decide, mGw_of (i := 1233) (by decide +kernel) (by decide +kernel), mGw_of (i := 1234) (by decide +kernel) (by decide +kernel), by decide +kernel, by decide +kernel⟩⟩
set_option maxRecDepth 100000 in
theorem q1_X11_rounds : mQ1 mt_X11_rounds := ⟨by decide +kernel, by decide +kernel, by decide +kernel, by decide +kernel⟩
set_option maxRecDepth 100000 in
theorem q2_X11_rounds : mQ2 mt_X11_rounds := Or.inr ⟨mGw_of (i := 118) (by decide +kernel) (by decide +kernel), by decide +kernel, Or.inl (by decide +kernel), by decide +kernel, by decide, Or.inr ⟨by decide, mGw_of (i := 1240) (by decide +kernel) (by decide +kernel), mGw_of (i := 1241) (by decide +kernel) (by decide +kernel), by decide +kernel, by decide +kernel⟩⟩
set_option maxRecDepth 100000 in
theorem q1_X11_fallen : mQ1 mt_X11_fallen := ⟨by decide +kernel, by decide +kernel, by decide +kernel, by decide +kernel⟩
set_option maxRecDepth 100000 in
theorem q2_X11_fallen : mQ2 mt_X11_fallen := Or.inr ⟨mGw_of (i := 118) (by decide +kernel) (by decide +kernel), by decide +kernel, Or.inl (by decide +kernel), by decide +kernel, by decide, Or.inr ⟨by decide, mGw_of (i := 1247) (by decide +kernel) (by decide +kernel), mGw_of (i := 1248) (by decide +kernel) (by decide +kernel), by decide +kernel, by decide +kernel⟩⟩
set_option maxRecDepth 100000 in
theorem q1_X11_fallOf : mQ1 mt_X11_fallOf := ⟨by decide +kernel, by decide +kernel, by decide +kernel, by decide +kernel⟩
set_option maxRecDepth 100000 in
theorem q2_X11_fallOf : mQ2 mt_X11_fallOf := Or.inr ⟨mGw_of (i := 118) (by decide +kernel) (by decide +kernel), by decide +kernel, Or.inl (by decide +kernel), by decide +kernel, by decide, Or.inr ⟨by decide, mGw_of (i := 550) (by decide +kernel) (by decide +kernel), mGw_of (i := 1) (by decide +kernel) (by decide +kernel), by decide +kernel, by decide +kernel⟩⟩
set_option maxRecDepth 100000 in
theorem q1_X11_key : mQ1 mt_X11_key := ⟨by decide +kernel, by decide +kernel, by decide +kernel, by decide +kernel⟩
set_option maxRecDepth 100000 in
theorem q2_X11_key : mQ2 mt_X11_key := Or.inr ⟨mGw_of (i := 118) (by decide +kernel) (by decide +kernel), by decide +kernel, Or.inl (by decide +kernel), by decide +kernel, by decide, Or.inr ⟨by decide, mGw_of (i := 545) (by decide +kernel) (by decide +kernel), mGw_of (i := 546) (by decide +kernel) (by decide +kernel), by decide +kernel, by decide +kernel⟩⟩
set_option maxRecDepth 100000 in
theorem q1_X11_pillars : mQ1 mt_X11_pillars := ⟨by decide +kernel, by decide +kernel, by decide +kernel, by decide +kernel⟩
set_option maxRecDepth 100000 in
theorem q2_X11_pillars : mQ2 mt_X11_pillars := Or.inr ⟨mGw_of (i := 118) (by decide +kernel) (by decide +kernel), by decide +kernel, Or.inl (by decide +kernel), by decide +kernel, by decide, Or.inr ⟨by decide, mGw_of (i := 586) (by decide +kernel) (by decide +kernel), mGw_of (i := 587) (by decide +kernel) (by decide +kernel), by decide +kernel, by decide +kernel⟩⟩
set_option maxRecDepth 100000 in
theorem q1_X11_left : mQ1 mt_X11_left := ⟨by decide +kernel, by decide +kernel, by decide +kernel, by decide +kernel⟩
set_option maxRecDepth 100000 in
theorem q2_X11_left : mQ2 mt_X11_left := Or.inr ⟨mGw_of (i := 118) (by decide +kernel) (by decide +kernel), by decide +kernel, Or.inl (by decide +kernel), by decide +kernel, by decide, Or.inr ⟨by decide, mGw_of (i := 593) (by decide +kernel) (by decide +kernel), mGw_of (i := 594) (by decide +kernel) (by decide +kernel), by decide +kernel, by decide +kernel⟩⟩
set_option maxRecDepth 100000 in
theorem q1_X11_guard : mQ1 mt_X11_guard := ⟨by decide +kernel, by decide +kernel, by decide +kernel, by decide +kernel⟩
set_option maxRecDepth 100000 in
theorem q2_X11_guard : mQ2 mt_X11_guard := Or.inr ⟨mGw_of (i := 118) (by decide +kernel) (by decide +kernel), by decide +kernel, Or.inl (by decide +kernel), by decide +kernel, by decide, Or.inr ⟨by decide, mGw_of (i := 1254) (by decide +kernel) (by decide +kernel), mGw_of (i := 1255) (by decide +kernel) (by decide +kernel), by decide +kernel, by decide +kernel⟩⟩
set_option maxRecDepth 100000 in
theorem q1_X11_solo : mQ1 mt_X11_solo := ⟨by decide +kernel, by decide +kernel, by decide +kernel, by decide +kernel⟩
set_option maxRecDepth 100000 in
theorem q2_X11_solo : mQ2 mt_X11_solo := Or.inr ⟨mGw_of (i := 118) (by decide +kernel) (by decide +kernel), by decide +kernel, Or.inl (by decide +kernel), by decide +kernel, by decide, Or.inr ⟨by decide, mGw_of (i := 1293) (by decide +kernel) (by decide +kernel), mGw_of (i := 1294) (by decide +kernel) (by decide +kernel), by decide +kernel, by decide +kernel⟩⟩
set_option maxRecDepth 100000 in
theorem q1_X11_feels : mQ1 mt_X11_feels := ⟨by decide +kernel, by decide +kernel, by decide +kernel, by decide +kernel⟩
set_option maxRecDepth 100000 in
theorem q2_X11_feels : mQ2 mt_X11_feels := Or.inr ⟨mGw_of (i := 118) (by decide +kernel) (by decide +kernel), by decide +kernel, Or.inl (by decide +kernel), by decide +kernel, by decide, Or.inr ⟨by decide, mGw_of (i := 1304) (by decide +kernel) (by decide +kernel), mGw_of (i := 1305) (by decide +kernel) (by decide +kernel), by decide +kernel, by decide +kernel⟩⟩
set_option maxRecDepth 100000 in
theorem q1_X11_sure : mQ1 mt_X11_sure := ⟨by decide +kernel, by decide +kernel, by decide +kernel, by decide +kernel⟩
set_option maxRecDepth 100000 in
theorem q2_X11_sure : mQ2 mt_X11_sure := Or.inr ⟨mGw_of (i := 118) (by decide +kernel) (by decide +kernel), by decide +kernel, Or.inl (by decide +kernel), by decide +kernel, by decide, Or.inr ⟨by decide, mGw_of (i := 1328) (by decide +kernel) (by decide +kernel), mGw_of (i := 1329) (by decide +kernel) (by decide +kernel), by decide +kernel, by decide +kernel⟩⟩
set_option maxRecDepth 100000 in
theorem q1_X11_free : mQ1 mt_X11_free := ⟨by decide +kernel, by decide +kernel, by decide +kernel, by decide +kernel⟩
set_option maxRecDepth 100000 in
theorem q2_X11_free : mQ2 mt_X11_free := Or.inr ⟨mGw_of (i := 118) (by decide +kernel) (by decide +kernel), by decide +kernel, Or.inl (by decide +kernel), by decide +kernel, by decide, Or.inr ⟨by decide, mGw_of (i := 1339) (by decide +kernel) (by decide +kernel), mGw_of (i := 1340) (by decide +kernel) (by decide +kernel), by decide +kernel, by decide +kernel⟩⟩
set_option maxRecDepth 100000 in
theorem q1_X11_both : mQ1 mt_X11_both := ⟨by decide +kernel, by decide +kernel, by decide +kernel, by decide +kernel⟩
set_option maxRecDepth 100000 in
theorem q2_X11_both : mQ2 mt_X11_both := Or.inr ⟨mGw_of (i := 118) (by decide +kernel) (by decide +kernel), by decide +kernel, Or.inl (by decide +kernel), by decide +kernel, by decide, Or.inr ⟨by decide, mGw_of (i := 1350) (by decide +kernel) (by decide +kernel), mGw_of (i := 1351) (by decide +kernel) (by decide +kernel), by decide +kernel, by decide +kernel⟩⟩
set_option maxRecDepth 100000 in
theorem q1_X11_ask : mQ1 mt_X11_ask := ⟨by decide +kernel, by decide +kernel, by decide +kernel, by decide +kernel⟩
set_option maxRecDepth 100000 in
theorem q2_X11_ask : mQ2 mt_X11_ask := Or.inr ⟨mGw_of (i := 118) (by decide +kernel) (by decide +kernel), by decide +kernel, Or.inl (by decide +kernel), by decide +kernel, by decide, Or.inr ⟨by decide, mGw_of (i := 1357) (by decide +kernel) (by decide +kernel), mGw_of (i := 1358) (by decide +kernel) (by decide +kernel), by decide +kernel, by decide +kernel⟩⟩
set_option maxRecDepth 100000 in
theorem q1_X11_pushes : mQ1 mt_X11_pushes := ⟨by decide +kernel, by decide +kernel, by decide +kernel, by decide +kernel⟩
set_option maxRecDepth 100000 in
theorem q2_X11_pushes : mQ2 mt_X11_pushes := Or.inr ⟨mGw_of (i := 118) (by decide +kernel) (by decide +kernel), by decide +kernel, Or.inl (by decide +kernel), by decide +kernel, by decide, Or.inr ⟨by decide, mGw_of (i := 1374) (by decide +kernel) (by decide +kernel), mGw_of (i := 1375) (by decide +kernel) (by decide +kernel), by decide +kernel, by decide +kernel⟩⟩
set_option maxRecDepth 100000 in
theorem q1_X11_tell : mQ1 mt_X11_tell := ⟨by decide +kernel, by decide +kernel, by decide +kernel, by decide +kernel⟩
set_option maxRecDepth 100000 in
theorem q2_X11_tell : mQ2 mt_X11_tell := Or.inr ⟨mGw_of (i := 118) (by decide +kernel) (by decide +kernel), by decide +kernel, Or.inl (by decide +kernel), by decide +kernel, by decide, Or.inr ⟨by decide, mGw_of (i := 1381) (by decide +kernel) (by decide +kernel), mGw_of (i := 1382) (by decide +kernel) (by decide +kernel), by decide +kernel, by decide +kernel⟩⟩
set_option maxRecDepth 100000 in
theorem q1_X11_herald : mQ1 mt_X11_herald := ⟨by decide +kernel, by decide +kernel, by decide +kernel, by decide +kernel⟩
set_option maxRecDepth 100000 in
theorem q2_X11_herald : mQ2 mt_X11_herald := Or.inr ⟨mGw_of (i := 118) (by decide +kernel) (by decide +kernel), by decide +kernel, Or.inl (by decide +kernel), by decide +kernel, by decide, Or.inr ⟨by decide, mGw_of (i := 598) (by decide +kernel) (by decide +kernel), mGw_of (i := 599) (by decide +kernel) (by decide +kernel), by decide +kernel, by decide +kernel⟩⟩
set_option maxRecDepth 100000 in
theorem q1_X11_cuts : mQ1 mt_X11_cuts := ⟨by decide +kernel, by decide +kernel, by decide +kernel, by decide +kernel⟩
set_option maxRecDepth 100000 in
theorem q2_X11_cuts : mQ2 mt_X11_cuts := Or.inr ⟨mGw_of (i := 118) (by decide +kernel) (by decide +kernel), by decide +kernel, Or.inl (by decide +kernel), by decide +kernel, by decide, Or.inr ⟨by decide, mGw_of (i := 1388) (by decide +kernel) (by decide +kernel), mGw_of (i := 1389) (by decide +kernel) (by decide +kernel), by decide +kernel, by decide +kernel⟩⟩
set_option maxRecDepth 100000 in
theorem q1_X11_roster : mQ1 mt_X11_roster := ⟨by decide +kernel, by decide +kernel, by decide +kernel, by decide +kernel⟩
set_option maxRecDepth 100000 in
theorem q2_X11_roster : mQ2 mt_X11_roster := Or.inr ⟨mGw_of (i := 118) (by decide +kernel) (by decide +kernel), by decide +kernel, Or.inl (by decide +kernel), by decide +kernel, by decide, Or.inr ⟨by decide, mGw_of (i := 1398) (by decide +kernel) (by decide +kernel), mGw_of (i := 1399) (by decide +kernel) (by decide +kernel), by decide +kernel, by decide +kernel⟩⟩
set_option maxRecDepth 100000 in
theorem q1_X11_pairs : mQ1 mt_X11_pairs := ⟨by decide +kernel, by decide +kernel, by decide +kernel, by decide +kernel⟩
set_option maxRecDepth 100000 in
theorem q2_X11_pairs : mQ2 mt_X11_pairs := Or.inr ⟨mGw_of (i := 118) (by decide +kernel) (by decide +kernel), by decide +kernel, Or.inl (by decide +kernel), by decide +kernel, by decide, Or.inr ⟨by decide, mGw_of (i := 1413) (by decide +kernel) (by decide +kernel), mGw_of (i := 1414) (by decide +kernel) (by decide +kernel), by decide +kernel, by decide +kernel⟩⟩
set_option maxRecDepth 100000 in
theorem q1_X11_dearest : mQ1 mt_X11_dearest := ⟨by decide +kernel, by decide +kernel, by decide +kernel, by decide +kernel⟩
set_option maxRecDepth 100000 in
theorem q2_X11_dearest : mQ2 mt_X11_dearest := Or.inr ⟨mGw_of (i := 118) (by decide +kernel) (by decide +kernel), by decide +kernel, Or.inl (by decide +kernel), by decide +kernel, by decide, Or.inr ⟨by decide, mGw_of (i := 612) (by decide +kernel) (by decide +kernel), mGw_of (i := 613) (by decide +kernel) (by decide +kernel), by decide +kernel, by decide +kernel⟩⟩
set_option maxRecDepth 100000 in
theorem q1_X11_rests : mQ1 mt_X11_rests := ⟨by decide +kernel, by decide +kernel, by decide +kernel, by decide +kernel⟩
set_option maxRecDepth 100000 in
theorem q2_X11_rests : mQ2 mt_X11_rests := Or.inr ⟨mGw_of (i := 118) (by decide +kernel) (by decide +kernel), by decide +kernel, Or.inl (by decide +kernel), by decide +kernel, by decide, Or.inr ⟨by decide, mGw_of (i := 1420) (by decide +kernel) (by decide +kernel), mGw_of (i := 1421) (by decide +kernel) (by decide +kernel), by decide +kernel, by decide +kernel⟩⟩
set_option maxRecDepth 100000 in
theorem q1_X11_firstHas : mQ1 mt_X11_firstHas := ⟨by decide +kernel, by decide +kernel, by decide +kernel, by decide +kernel⟩
set_option maxRecDepth 100000 in
theorem q2_X11_firstHas : mQ2 mt_X11_firstHas := Or.inr ⟨mGw_of (i := 118) (by decide +kernel) (by decide +kernel), by decide +kernel, Or.inl (by decide +kernel), by decide +kernel, by decide, Or.inl ⟨rfl, mGw_of (i := 1424) (by decide +kernel) (by decide +kernel), by decide +kernel⟩⟩
set_option maxRecDepth 100000 in
theorem q1_X11_secondHas : mQ1 mt_X11_secondHas := ⟨by decide +kernel, by decide +kernel, by decide +kernel, by decide +kernel⟩
set_option maxRecDepth 100000 in
theorem q2_X11_secondHas : mQ2 mt_X11_secondHas := Or.inr ⟨mGw_of (i := 118) (by decide +kernel) (by decide +kernel), by decide +kernel, Or.inl (by decide +kernel), by decide +kernel, by decide, Or.inr ⟨by decide, mGw_of (i := 1428) (by decide +kernel) (by decide +kernel), mGw_of (i := 26) (by decide +kernel) (by decide +kernel), by decide +kernel, by decide +kernel⟩⟩
set_option maxRecDepth 100000 in
theorem q1_X11_odds : mQ1 mt_X11_odds := ⟨by decide +kernel, by decide +kernel, by decide +kernel, by decide +kernel⟩
set_option maxRecDepth 100000 in
theorem q2_X11_odds : mQ2 mt_X11_odds := Or.inr ⟨mGw_of (i := 118) (by decide +kernel) (by decide +kernel), by decide +kernel, Or.inl (by decide +kernel), by decide +kernel, by decide, Or.inr ⟨by decide, mGw_of (i := 1434) (by decide +kernel) (by decide +kernel), mGw_of (i := 1435) (by decide +kernel) (by decide +kernel), by decide +kernel, by decide +kernel⟩⟩
set_option maxRecDepth 100000 in
theorem q1_X11_alone : mQ1 mt_X11_alone := ⟨by decide +kernel, by decide +kernel, by decide +kernel, by decide +kernel⟩
set_option maxRecDepth 100000 in
theorem q2_X11_alone : mQ2 mt_X11_alone := Or.inr ⟨mGw_of (i := 118) (by decide +kernel) (by decide +kernel), by decide +kernel, Or.inl (by decide +kernel), by decide +kernel, by decide, Or.inr ⟨by decide, mGw_of (i := 645) (by decide +kernel) (by decide +kernel), mGw_of (i := 646) (by decide +kernel) (by decide +kernel), by decide +kernel, by decide +kernel⟩⟩
set_option maxRecDepth 100000 in
theorem q1_X11_tired : mQ1 mt_X11_tired := ⟨by decide +kernel, by decide +kernel, by decide +kernel, by decide +kernel⟩
set_option maxRecDepth 100000 in
theorem q2_X11_tired : mQ2 mt_X11_tired := Or.inr ⟨mGw_of (i := 118) (by decide +kernel) (by decide +kernel), by decide +kernel, Or.inl (by decide +kernel), by decide +kernel, by decide, Or.inr ⟨by decide, mGw_of (i := 649) (by decide +kernel) (by decide +kernel), mGw_of (i := 650) (by decide +kernel) (by decide +kernel), by decide +kernel, by decide +kernel⟩⟩
set_option maxRecDepth 100000 in
theorem q1_X11_twins : mQ1 mt_X11_twins := ⟨by decide +kernel, by decide +kernel, by decide +kernel, by decide +kernel⟩
set_option maxRecDepth 100000 in
theorem q2_X11_twins : mQ2 mt_X11_twins := Or.inr ⟨mGw_of (i := 118) (by decide +kernel) (by decide +kernel), by decide +kernel, Or.inl (by decide +kernel), by decide +kernel, by decide, Or.inr ⟨by decide, mGw_of (i := 653) (by decide +kernel) (by decide +kernel), mGw_of (i := 654) (by decide +kernel) (by decide +kernel), by decide +kernel, by decide +kernel⟩⟩
set_option maxRecDepth 100000 in
theorem q1_X11_ring : mQ1 mt_X11_ring := ⟨by decide +kernel, by decide +kernel, by decide +kernel, by decide +kernel⟩
set_option maxRecDepth 100000 in
theorem q2_X11_ring : mQ2 mt_X11_ring := Or.inr ⟨mGw_of (i := 118) (by decide +kernel) (by decide +kernel), by decide +kernel, Or.inl (by decide +kernel), by decide +kernel, by decide, Or.inr ⟨by decide, mGw_of (i := 1442) (by decide +kernel) (by decide +kernel), mGw_of (i := 1443) (by decide +kernel) (by decide +kernel), by decide +kernel, by decide +kernel⟩⟩
set_option maxRecDepth 100000 in
theorem q1_X11_reserves : mQ1 mt_X11_reserves := ⟨by decide +kernel, by decide +kernel, by decide +kernel, by decide +kernel⟩
set_option maxRecDepth 100000 in
theorem q2_X11_reserves : mQ2 mt_X11_reserves := Or.inr ⟨mGw_of (i := 118) (by decide +kernel) (by decide +kernel), by decide +kernel, Or.inl (by decide +kernel), by decide +kernel, by decide, Or.inr ⟨by decide, mGw_of (i := 657) (by decide +kernel) (by decide +kernel), mGw_of (i := 658) (by decide +kernel) (by decide +kernel), by decide +kernel, by decide +kernel⟩⟩
set_option maxRecDepth 100000 in
theorem q1_X11_sleepers : mQ1 mt_X11_sleepers := ⟨by decide +kernel, by decide +kernel, by decide +kernel, by decide +kernel⟩
set_option maxRecDepth 100000 in
theorem q2_X11_sleepers : mQ2 mt_X11_sleepers := Or.inr ⟨mGw_of (i := 118) (by decide +kernel) (by decide +kernel), by decide +kernel, Or.inl (by decide +kernel), by decide +kernel, by decide, Or.inr ⟨by decide, mGw_of (i := 661) (by decide +kernel) (by decide +kernel), mGw_of (i := 662) (by decide +kernel) (by decide +kernel), by decide +kernel, by decide +kernel⟩⟩
set_option maxRecDepth 100000 in
theorem q1_X11_soon : mQ1 mt_X11_soon := ⟨by decide +kernel, by decide +kernel, by decide +kernel, by decide +kernel⟩
set_option maxRecDepth 100000 in
theorem q2_X11_soon : mQ2 mt_X11_soon := Or.inr ⟨mGw_of (i := 118) (by decide +kernel) (by decide +kernel), by decide +kernel, Or.inl (by decide +kernel), by decide +kernel, by decide, Or.inr ⟨by decide, mGw_of (i := 665) (by decide +kernel) (by decide +kernel), mGw_of (i := 666) (by decide +kernel) (by decide +kernel), by decide +kernel, by decide +kernel⟩⟩
set_option maxRecDepth 100000 in
theorem q1_X11_ahead : mQ1 mt_X11_ahead := ⟨by decide +kernel, by decide +kernel, by decide +kernel, by decide +kernel⟩
set_option maxRecDepth 100000 in
theorem q2_X11_ahead : mQ2 mt_X11_ahead := Or.inr ⟨mGw_of (i := 118) (by decide +kernel) (by decide +kernel), by decide +kernel, Or.inl (by decide +kernel), by decide +kernel, by decide, Or.inr ⟨by decide, mGw_of (i := 1449) (by decide +kernel) (by decide +kernel), mGw_of (i := 1450) (by decide +kernel) (by decide +kernel), by decide +kernel, by decide +kernel⟩⟩
set_option maxRecDepth 100000 in
theorem q1_X11_trial : mQ1 mt_X11_trial := ⟨by decide +kernel, by decide +kernel, by decide +kernel, by decide +kernel⟩
set_option maxRecDepth 100000 in
theorem q2_X11_trial : mQ2 mt_X11_trial := Or.inr ⟨mGw_of (i := 118) (by decide +kernel) (by decide +kernel), by decide +kernel, Or.inl (by decide +kernel), by decide +kernel, by decide, Or.inr ⟨by decide, mGw_of (i := 1459) (by decide +kernel) (by decide +kernel), mGw_of (i := 1460) (by decide +kernel) (by decide +kernel), by decide +kernel, by decide +kernel⟩⟩
set_option maxRecDepth 100000 in
theorem q1_X11_span : mQ1 mt_X11_span := ⟨by decide +kernel, by decide +kernel, by decide +kernel, by decide +kernel⟩
set_option maxRecDepth 100000 in
theorem q2_X11_span : mQ2 mt_X11_span := Or.inr ⟨mGw_of (i := 118) (by decide +kernel) (by decide +kernel), by decide +kernel, Or.inl (by decide +kernel), by decide +kernel, by decide, Or.inr ⟨by decide, mGw_of (i := 1466) (by decide +kernel) (by decide +kernel), mGw_of (i := 1467) (by decide +kernel) (by decide +kernel), by decide +kernel, by decide +kernel⟩⟩
set_option maxRecDepth 100000 in
theorem q1_X11_led : mQ1 mt_X11_led := ⟨by decide +kernel, by decide +kernel, by decide +kernel, by decide +kernel⟩
set_option maxRecDepth 100000 in
theorem q2_X11_led : mQ2 mt_X11_led := Or.inr ⟨mGw_of (i := 118) (by decide +kernel) (by decide +kernel), by decide +kernel, Or.inl (by decide +kernel), by decide +kernel, by decide, Or.inr ⟨by decide, mGw_of (i := 1473) (by decide +kernel) (by decide +kernel), mGw_of (i := 1474) (by decide +kernel) (by decide +kernel), by decide +kernel, by decide +kernel⟩⟩
set_option maxRecDepth 100000 in
theorem q1_X11_log : mQ1 mt_X11_log := ⟨by decide +kernel, by decide +kernel, by decide +kernel, by decide +kernel⟩
set_option maxRecDepth 100000 in
theorem q2_X11_log : mQ2 mt_X11_log := Or.inr ⟨mGw_of (i := 118) (by decide +kernel) (by decide +kernel), by decide +kernel, Or.inl (by decide +kernel), by decide +kernel, by decide, Or.inr ⟨by decide, mGw_of (i := 1495) (by decide +kernel) (by decide +kernel), mGw_of (i := 1496) (by decide +kernel) (by decide +kernel), by decide +kernel, by decide +kernel⟩⟩
set_option maxRecDepth 100000 in
theorem q1_X11_seed : mQ1 mt_X11_seed := ⟨by decide +kernel, by decide +kernel, by decide +kernel, by decide +kernel⟩
set_option maxRecDepth 100000 in
theorem q2_X11_seed : mQ2 mt_X11_seed := Or.inr ⟨mGw_of (i := 118) (by decide +kernel) (by decide +kernel), by decide +kernel, Or.inl (by decide +kernel), by decide +kernel, by decide, Or.inr ⟨by decide, mGw_of (i := 715) (by decide +kernel) (by decide +kernel), mGw_of (i := 716) (by decide +kernel) (by decide +kernel), by decide +kernel, by decide +kernel⟩⟩
set_option maxRecDepth 100000 in
theorem q1_X11_undo : mQ1 mt_X11_undo := ⟨by decide +kernel, by decide +kernel, by decide +kernel, by decide +kernel⟩
set_option maxRecDepth 100000 in
theorem q2_X11_undo : mQ2 mt_X11_undo := Or.inr ⟨mGw_of (i := 118) (by decide +kernel) (by decide +kernel), by decide +kernel, Or.inl (by decide +kernel), by decide +kernel, by decide, Or.inr ⟨by decide, mGw_of (i := 719) (by decide +kernel) (by decide +kernel), mGw_of (i := 720) (by decide +kernel) (by decide +kernel), by decide +kernel, by decide +kernel⟩⟩
set_option maxRecDepth 100000 in
theorem q1_X11_image : mQ1 mt_X11_image := ⟨by decide +kernel, by decide +kernel, by decide +kernel, by decide +kernel⟩
set_option maxRecDepth 100000 in
theorem q2_X11_image : mQ2 mt_X11_image := Or.inr ⟨mGw_of (i := 118) (by decide +kernel) (by decide +kernel), by decide +kernel, Or.inl (by decide +kernel), by decide +kernel, by decide, Or.inr ⟨by decide, mGw_of (i := 728) (by decide +kernel) (by decide +kernel), mGw_of (i := 729) (by decide +kernel) (by decide +kernel), by decide +kernel, by decide +kernel⟩⟩
set_option maxRecDepth 100000 in
theorem q1_X11_back : mQ1 mt_X11_back := ⟨by decide +kernel, by decide +kernel, by decide +kernel, by decide +kernel⟩
set_option maxRecDepth 100000 in
theorem q2_X11_back : mQ2 mt_X11_back := Or.inr ⟨mGw_of (i := 118) (by decide +kernel) (by decide +kernel), by decide +kernel, Or.inl (by decide +kernel), by decide +kernel, by decide, Or.inr ⟨by decide, mGw_of (i := 737) (by decide +kernel) (by decide +kernel), mGw_of (i := 738) (by decide +kernel) (by decide +kernel), by decide +kernel, by decide +kernel⟩⟩
set_option maxRecDepth 100000 in
theorem q1_X11_count : mQ1 mt_X11_count := ⟨by decide +kernel, by decide +kernel, by decide +kernel, by decide +kernel⟩
set_option maxRecDepth 100000 in
theorem q2_X11_count : mQ2 mt_X11_count := Or.inr ⟨mGw_of (i := 118) (by decide +kernel) (by decide +kernel), by decide +kernel, Or.inl (by decide +kernel), by decide +kernel, by decide, Or.inr ⟨by decide, mGw_of (i := 745) (by decide +kernel) (by decide +kernel), mGw_of (i := 746) (by decide +kernel) (by decide +kernel), by decide +kernel, by decide +kernel⟩⟩
set_option maxRecDepth 100000 in
theorem q1_X11_mustBePerson : mQ1 mt_X11_mustBePerson := ⟨by decide +kernel, by decide +kernel, by decide +kernel, by decide +kernel⟩
set_option maxRecDepth 100000 in
theorem q2_X11_mustBePerson : mQ2 mt_X11_mustBePerson := Or.inr ⟨mGw_of (i := 118) (by decide +kernel) (by decide +kernel), by decide +kernel, Or.inl (by decide +kernel), by decide +kernel, by decide, Or.inr ⟨by decide, mGw_of (i := 1068) (by decide +kernel) (by decide +kernel), mGw_of (i := 14) (by decide +kernel) (by decide +kernel), by decide +kernel, by decide +kernel⟩⟩
set_option maxRecDepth 100000 in
theorem q1_X11_mustBeRing : mQ1 mt_X11_mustBeRing := ⟨by decide +kernel, by decide +kernel, by decide +kernel, by decide +kernel⟩
set_option maxRecDepth 100000 in
theorem q2_X11_mustBeRing : mQ2 mt_X11_mustBeRing := Or.inr ⟨mGw_of (i := 118) (by decide +kernel) (by decide +kernel), by decide +kernel, Or.inl (by decide +kernel), by decide +kernel, by decide, Or.inl ⟨rfl, mGw_of (i := 1133) (by decide +kernel) (by decide +kernel), by decide +kernel⟩⟩
set_option maxRecDepth 100000 in
theorem q1_X11_mustBeOne : mQ1 mt_X11_mustBeOne := ⟨by decide +kernel, by decide +kernel, by decide +kernel, by decide +kernel⟩
set_option maxRecDepth 100000 in
theorem q2_X11_mustBeOne : mQ2 mt_X11_mustBeOne := Or.inr ⟨mGw_of (i := 118) (by decide +kernel) (by decide +kernel), by decide +kernel, Or.inl (by decide +kernel), by decide +kernel, by decide, Or.inl ⟨rfl, mGw_of (i := 1116) (by decide +kernel) (by decide +kernel), by decide +kernel⟩⟩
set_option maxRecDepth 100000 in
theorem q1_X11_mustBeSo : mQ1 mt_X11_mustBeSo := ⟨by decide +kernel, by decide +kernel, by decide +kernel, by decide +kernel⟩
set_option maxRecDepth 100000 in
theorem q2_X11_mustBeSo : mQ2 mt_X11_mustBeSo := Or.inr ⟨mGw_of (i := 118) (by decide +kernel) (by decide +kernel), by decide +kernel, Or.inl (by decide +kernel), by decide +kernel, by decide, Or.inl ⟨rfl, mGw_of (i := 1143) (by decide +kernel) (by decide +kernel), by decide +kernel⟩⟩
set_option maxRecDepth 100000 in
theorem q1_X11_mustBeLookAhead : mQ1 mt_X11_mustBeLookAhead := ⟨by decide +kernel, by decide +kernel, by decide +kernel, by decide +kernel⟩
set_option maxRecDepth 100000 in
theorem q2_X11_mustBeLookAhead : mQ2 mt_X11_mustBeLookAhead := Or.inr ⟨mGw_of (i := 118) (by decide +kernel) (by decide +kernel), by decide +kernel, Or.inl (by decide +kernel), by decide +kernel, by decide, Or.inl ⟨rfl, mGw_of (i := 1453) (by decide +kernel) (by decide +kernel), by decide +kernel⟩⟩
set_option maxRecDepth 100000 in
theorem q1_X11_mustBeUp : mQ1 mt_X11_mustBeUp := ⟨by decide +kernel, by decide +kernel, by decide +kernel, by decide +kernel⟩
set_option maxRecDepth 100000 in
theorem q2_X11_mustBeUp : mQ2 mt_X11_mustBeUp := Or.inr ⟨mGw_of (i := 118) (by decide +kernel) (by decide +kernel), by decide +kernel, Or.inl (by decide +kernel), by decide +kernel, by decide, Or.inr ⟨by decide, mGw_of (i := 1176) (by decide +kernel) (by decide +kernel), mGw_of (i := 17) (by decide +kernel) (by decide +kernel), by decide +kernel, by decide +kernel⟩⟩
set_option maxRecDepth 100000 in
theorem q1_X11_mustHold : mQ1 mt_X11_mustHold := ⟨by decide +kernel, by decide +kernel, by decide +kernel, by decide +kernel⟩
set_option maxRecDepth 100000 in
theorem q2_X11_mustHold : mQ2 mt_X11_mustHold := Or.inr ⟨mGw_of (i := 118) (by decide +kernel) (by decide +kernel), by decide +kernel, Or.inl (by decide +kernel), by decide +kernel, by decide, Or.inr ⟨by decide, mGw_of (i := 1309) (by decide +kernel) (by decide +kernel), mGw_of (i := 22) (by decide +kernel) (by decide +kernel), by decide +kernel, by decide +kernel⟩⟩
set_option maxRecDepth 100000 in
theorem q1_X11_bit : mQ1 mt_X11_bit := ⟨by decide +kernel, by decide +kernel, by decide +kernel, by decide +kernel⟩
set_option maxRecDepth 100000 in
theorem q2_X11_bit : mQ2 mt_X11_bit := Or.inr ⟨mGw_of (i := 118) (by decide +kernel) (by decide +kernel), by decide +kernel, Or.inl (by decide +kernel), by decide +kernel, by decide, Or.inl ⟨rfl, mGw_of (i := 488) (by decide +kernel) (by decide +kernel), by decide +kernel⟩⟩
set_option maxRecDepth 100000 in
theorem q1_X11_has : mQ1 mt_X11_has := ⟨by decide +kernel, by decide +kernel, by decide +kernel, by decide +kernel⟩
set_option maxRecDepth 100000 in
theorem q2_X11_has : mQ2 mt_X11_has := Or.inr ⟨mGw_of (i := 118) (by decide +kernel) (by decide +kernel), by decide +kernel, Or.inl (by decide +kernel), by decide +kernel, by decide, Or.inl ⟨rfl, mGw_of (i := 476) (by decide +kernel) (by decide +kernel), by decide +kernel⟩⟩
set_option maxRecDepth 100000 in
theorem q1_X11_within : mQ1 mt_X11_within := ⟨by decide +kernel, by decide +kernel, by decide +kernel, by decide +kernel⟩
set_option maxRecDepth 100000 in
theorem q2_X11_within : mQ2 mt_X11_within := Or.inr ⟨mGw_of (i := 118) (by decide +kernel) (by decide +kernel), by decide +kernel, Or.inl (by decide +kernel), by decide +kernel, by decide, Or.inl ⟨rfl, mGw_of (i := 590) (by decide +kernel) (by decide +kernel), by decide +kernel⟩⟩
set_option maxRecDepth 100000 in
theorem q1_X12_thrown : mQ1 mt_X12_thrown := ⟨by decide +kernel, by decide +kernel, by decide +kernel, by decide +kernel⟩
set_option maxRecDepth 100000 in
theorem q2_X12_thrown : mQ2 mt_X12_thrown := Or.inr ⟨mGw_of (i := 127) (by decide +kernel) (by decide +kernel), by decide +kernel, Or.inl (by decide +kernel), by decide +kernel, by decide, Or.inr ⟨by decide, mGw_of (i := 1500) (by decide +kernel) (by decide +kernel), mGw_of (i := 1501) (by decide +kernel) (by decide +kernel), by decide +kernel, by decide +kernel⟩⟩
set_option maxRecDepth 100000 in
theorem q1_X12_throwsIf : mQ1 mt_X12_throwsIf := ⟨by decide +kernel, by decide +kernel, by decide +kernel, by decide +kernel⟩
set_option maxRecDepth 100000 in
theorem q2_X12_throwsIf : mQ2 mt_X12_throwsIf := Or.inr ⟨mGw_of (i := 127) (by decide +kernel) (by decide +kernel), by decide +kernel, Or.inl (by decide +kernel), by decide +kernel, by decide, Or.inr ⟨by decide, mGw_of (i := 1804) (by decide +kernel) (by decide +kernel), mGw_of (i := 65) (by decide +kernel) (by decide +kernel), by decide +kernel, by decide +kernel⟩⟩
set_option maxRecDepth 100000 in
theorem q1_X12_in : mQ1 mt_X12_in := ⟨by decide +kernel, by decide +kernel, by decide +kernel, by decide +kernel⟩
set_option maxRecDepth 100000 in
theorem q2_X12_in : mQ2 mt_X12_in := Or.inr ⟨mGw_of (i := 127) (by decide +kernel) (by decide +kernel), by decide +kernel, Or.inl (by decide +kernel), by decide +kernel, by decide, Or.inl ⟨rfl, mGw_of (i := 1819) (by decide +kernel) (by decide +kernel), by decide +kernel⟩⟩
set_option maxRecDepth 100000 in
theorem q1_X12_has : mQ1 mt_X12_has := ⟨by decide +kernel, by decide +kernel, by decide +kernel, by decide +kernel⟩
set_option maxRecDepth 100000 in
theorem q2_X12_has : mQ2 mt_X12_has := Or.inr ⟨mGw_of (i := 127) (by decide +kernel) (by decide +kernel), by decide +kernel, Or.inl (by decide +kernel), by decide +kernel, by decide, Or.inl ⟨rfl, mGw_of (i := 1695) (by decide +kernel) (by decide +kernel), by decide +kernel⟩⟩
set_option maxRecDepth 100000 in
theorem q1_X12_image : mQ1 mt_X12_image := ⟨by decide +kernel, by decide +kernel, by decide +kernel, by decide +kernel⟩
set_option maxRecDepth 100000 in
theorem q2_X12_image : mQ2 mt_X12_image := Or.inr ⟨mGw_of (i := 127) (by decide +kernel) (by decide +kernel), by decide +kernel, Or.inl (by decide +kernel), by decide +kernel, by decide, Or.inr ⟨by decide, mGw_of (i := 1592) (by decide +kernel) (by decide +kernel), mGw_of (i := 1593) (by decide +kernel) (by decide +kernel), by decide +kernel, by decide +kernel⟩⟩
set_option maxRecDepth 100000 in
theorem q1_X12_back : mQ1 mt_X12_back := ⟨by decide +kernel, by decide +kernel, by decide +kernel, by decide +kernel⟩
set_option maxRecDepth 100000 in
theorem q2_X12_back : mQ2 mt_X12_back := Or.inr ⟨mGw_of (i := 127) (by decide +kernel) (by decide +kernel), by decide +kernel, Or.inl (by decide +kernel), by decide +kernel, by decide, Or.inr ⟨by decide, mGw_of (i := 1596) (by decide +kernel) (by decide +kernel), mGw_of (i := 1597) (by decide +kernel) (by decide +kernel), by decide +kernel, by decide +kernel⟩⟩
set_option maxRecDepth 100000 in
theorem q1_X12_remembers : mQ1 mt_X12_remembers := ⟨by decide +kernel, by decide +kernel, by decide +kernel, by decide +kernel⟩
set_option maxRecDepth 100000 in
theorem q2_X12_remembers : mQ2 mt_X12_remembers := Or.inr ⟨mGw_of (i := 127) (by decide +kernel) (by decide +kernel), by decide +kernel, Or.inl (by decide +kernel), by decide +kernel, by decide, Or.inr ⟨by decide, mGw_of (i := 1868) (by decide +kernel) (by decide +kernel), mGw_of (i := 77) (by decide +kernel) (by decide +kernel), by decide +kernel, by decide +kernel⟩⟩
set_option maxRecDepth 100000 in
theorem q1_X12_undo : mQ1 mt_X12_undo := ⟨by decide +kernel, by decide +kernel, by decide +kernel, by decide +kernel⟩
set_option maxRecDepth 100000 in
theorem q2_X12_undo : mQ2 mt_X12_undo := Or.inr ⟨mGw_of (i := 127) (by decide +kernel) (by decide +kernel), by decide +kernel, Or.inl (by decide +kernel), by decide +kernel, by decide, Or.inr ⟨by decide, mGw_of (i := 1600) (by decide +kernel) (by decide +kernel), mGw_of (i := 1601) (by decide +kernel) (by decide +kernel), by decide +kernel, by decide +kernel⟩⟩
set_option maxRecDepth 100000 in
theorem q1_X12_keepsAll : mQ1 mt_X12_keepsAll := ⟨by decide +kernel, by decide +kernel, by decide +kernel, by decide +kernel⟩
set_option maxRecDepth 100000 in
theorem q2_X12_keepsAll : mQ2 mt_X12_keepsAll := Or.inr ⟨mGw_of (i := 127) (by decide +kernel) (by decide +kernel), by decide +kernel, Or.inl (by decide +kernel), by decide +kernel, by decide, Or.inr ⟨by decide, mGw_of (i := 1864) (by decide +kernel) (by decide +kernel), mGw_of (i := 76) (by decide +kernel) (by decide +kernel), by decide +kernel, by decide +kernel⟩⟩
set_option maxRecDepth 100000 in
theorem q1_X12_bringsBack : mQ1 mt_X12_bringsBack := ⟨by decide +kernel, by decide +kernel, by decide +kernel, by decide +kernel⟩
set_option maxRecDepth 100000 in
theorem q2_X12_bringsBack : mQ2 mt_X12_bringsBack := Or.inr ⟨mGw_of (i := 127) (by decide +kernel) (by decide +kernel), by decide +kernel, Or.inl (by decide +kernel), by decide +kernel, by decide, Or.inr ⟨by decide, mGw_of (i := 1926) (by decide +kernel) (by decide +kernel), mGw_of (i := 90) (by decide +kernel) (by decide +kernel), by decide +kernel, by decide +kernel⟩⟩
set_option maxRecDepth 100000 in
theorem q1_X12_people : mQ1 mt_X12_people := ⟨by decide +kernel, by decide +kernel, by decide +kernel, by decide +kernel⟩
set_option maxRecDepth 100000 in
theorem q2_X12_people : mQ2 mt_X12_people := Or.inr ⟨mGw_of (i := 127) (by decide +kernel) (by decide +kernel), by decide +kernel, Or.inl (by decide +kernel), by decide +kernel, by decide, Or.inr ⟨by decide, mGw_of (i := 1660) (by decide +kernel) (by decide +kernel), mGw_of (i := 36) (by decide +kernel) (by decide +kernel), by decide +kernel, by decide +kernel⟩⟩
set_option maxRecDepth 100000 in
theorem q1_X12_everybody : mQ1 mt_X12_everybody := ⟨by decide +kernel, by decide +kernel, by decide +kernel, by decide +kernel⟩
set_option maxRecDepth 100000 in
theorem q2_X12_everybody : mQ2 mt_X12_everybody := Or.inr ⟨mGw_of (i := 127) (by decide +kernel) (by decide +kernel), by decide +kernel, Or.inl (by decide +kernel), by decide +kernel, by decide, Or.inr ⟨by decide, mGw_of (i := 1910) (by decide +kernel) (by decide +kernel), mGw_of (i := 86) (by decide +kernel) (by decide +kernel), by decide +kernel, by decide +kernel⟩⟩
set_option maxRecDepth 100000 in
theorem q1_X12_at : mQ1 mt_X12_at := ⟨by decide +kernel, by decide +kernel, by decide +kernel, by decide +kernel⟩
set_option maxRecDepth 100000 in
theorem q2_X12_at : mQ2 mt_X12_at := Or.inr ⟨mGw_of (i := 127) (by decide +kernel) (by decide +kernel), by decide +kernel, Or.inl (by decide +kernel), by decide +kernel, by decide, Or.inl ⟨rfl, mGw_of (i := 1673) (by decide +kernel) (by decide +kernel), by decide +kernel⟩⟩
set_option maxRecDepth 100000 in
theorem q1_X12_of : mQ1 mt_X12_of := ⟨by decide +kernel, by decide +kernel, by decide +kernel, by decide +kernel⟩
set_option maxRecDepth 100000 in
theorem q2_X12_of : mQ2 mt_X12_of := Or.inr ⟨mGw_of (i := 127) (by decide +kernel) (by decide +kernel), by decide +kernel, Or.inl (by decide +kernel), by decide +kernel, by decide, Or.inr ⟨by decide, mGw_of (i := 1686) (by decide +kernel) (by decide +kernel), mGw_of (i := 41) (by decide +kernel) (by decide +kernel), by decide +kernel, by decide +kernel⟩⟩
set_option maxRecDepth 100000 in
theorem q1_X12_isUp : mQ1 mt_X12_isUp := ⟨by decide +kernel, by decide +kernel, by decide +kernel, by decide +kernel⟩
set_option maxRecDepth 100000 in
theorem q2_X12_isUp : mQ2 mt_X12_isUp := Or.inr ⟨mGw_of (i := 127) (by decide +kernel) (by decide +kernel), by decide +kernel, Or.inl (by decide +kernel), by decide +kernel, by decide, Or.inr ⟨by decide, mGw_of (i := 1682) (by decide +kernel) (by decide +kernel), mGw_of (i := 40) (by decide +kernel) (by decide +kernel), by decide +kernel, by decide +kernel⟩⟩
set_option maxRecDepth 100000 in
theorem q1_X12_isAsleep : mQ1 mt_X12_isAsleep := ⟨by decide +kernel, by decide +kernel, by decide +kernel, by decide +kernel⟩
set_option maxRecDepth 100000 in
theorem q2_X12_isAsleep : mQ2 mt_X12_isAsleep := Or.inr ⟨mGw_of (i := 127) (by decide +kernel) (by decide +kernel), by decide +kernel, Or.inl (by decide +kernel), by decide +kernel, by decide, Or.inr ⟨by decide, mGw_of (i := 1704) (by decide +kernel) (by decide +kernel), mGw_of (i := 44) (by decide +kernel) (by decide +kernel), by decide +kernel, by decide +kernel⟩⟩
set_option maxRecDepth 100000 in
theorem q1_X12_holds : mQ1 mt_X12_holds := ⟨by decide +kernel, by decide +kernel, by decide +kernel, by decide +kernel⟩
set_option maxRecDepth 100000 in
theorem q2_X12_holds : mQ2 mt_X12_holds := Or.inr ⟨mGw_of (i := 127) (by decide +kernel) (by decide +kernel), by decide +kernel, Or.inl (by decide +kernel), by decide +kernel, by decide, Or.inr ⟨by decide, mGw_of (i := 1791) (by decide +kernel) (by decide +kernel), mGw_of (i := 62) (by decide +kernel) (by decide +kernel), by decide +kernel, by decide +kernel⟩⟩
set_option maxRecDepth 100000 in
theorem q1_X12_upOnes : mQ1 mt_X12_upOnes := ⟨by decide +kernel, by decide +kernel, by decide +kernel, by decide +kernel⟩
set_option maxRecDepth 100000 in
theorem q2_X12_upOnes : mQ2 mt_X12_upOnes := Or.inr ⟨mGw_of (i := 127) (by decide +kernel) (by decide +kernel), by decide +kernel, Or.inl (by decide +kernel), by decide +kernel, by decide, Or.inr ⟨by decide, mGw_of (i := 2023) (by decide +kernel) (by decide +kernel), mGw_of (i := 96) (by decide +kernel) (by decide +kernel), by decide +kernel, by decide +kernel⟩⟩
set_option maxRecDepth 100000 in
theorem q1_X12_holders : mQ1 mt_X12_holders := ⟨by decide +kernel, by decide +kernel, by decide +kernel, by decide +kernel⟩
set_option maxRecDepth 100000 in
theorem q2_X12_holders : mQ2 mt_X12_holders := Or.inr ⟨mGw_of (i := 127) (by decide +kernel) (by decide +kernel), by decide +kernel, Or.inl (by decide +kernel), by decide +kernel, by decide, Or.inr ⟨by decide, mGw_of (i := 1787) (by decide +kernel) (by decide +kernel), mGw_of (i := 61) (by decide +kernel) (by decide +kernel), by decide +kernel, by decide +kernel⟩⟩
set_option maxRecDepth 100000 in
theorem q1_X12_asleepOnes : mQ1 mt_X12_asleepOnes := ⟨by decide +kernel, by decide +kernel, by decide +kernel, by decide +kernel⟩
set_option maxRecDepth 100000 in
theorem q2_X12_asleepOnes : mQ2 mt_X12_asleepOnes := Or.inr ⟨mGw_of (i := 127) (by decide +kernel) (by decide +kernel), by decide +kernel, Or.inl (by decide +kernel), by decide +kernel, by decide, Or.inr ⟨by decide, mGw_of (i := 2075) (by decide +kernel) (by decide +kernel), mGw_of (i := 105) (by decide +kernel) (by decide +kernel), by decide +kernel, by decide +kernel⟩⟩
