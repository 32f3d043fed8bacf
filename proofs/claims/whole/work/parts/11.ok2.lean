set_option maxRecDepth 100000 in
theorem q1_X12_those : mQ1 mt_X12_those := ⟨by decide +kernel, by decide +kernel, by decide +kernel, by decide +kernel⟩
set_option maxRecDepth 100000 in
theorem q2_X12_those : mQ2 mt_X12_those := Or.inr ⟨mGw_of (i := 127) (by decide +kernel) (by decide +kernel), by decide +kernel, Or.inl (by decide +kernel), by decide +kernel, by decide, Or.inr ⟨by decide, mGw_of (i := 1918) (by decide +kernel) (by decide +kernel), mGw_of (i := 88) (by decide +kernel) (by decide +kernel), by decide +kernel, by decide +kernel⟩⟩
set_option maxRecDepth 100000 in
theorem q1_X12_nobody : mQ1 mt_X12_nobody := ⟨by decide +kernel, by decide +kernel, by decide +kernel, by decide +kernel⟩
set_option maxRecDepth 100000 in
theorem q2_X12_nobody : mQ2 mt_X12_nobody := Or.inr ⟨mGw_of (i := 127) (by decide +kernel) (by decide +kernel), by decide +kernel, Or.inl (by decide +kernel), by decide +kernel, by decide, Or.inr ⟨by decide, mGw_of (i := 1816) (by decide +kernel) (by decide +kernel), mGw_of (i := 66) (by decide +kernel) (by decide +kernel), by decide +kernel, by decide +kernel⟩⟩
set_option maxRecDepth 100000 in
theorem q1_X12_drawn : mQ1 mt_X12_drawn := ⟨by decide +kernel, by decide +kernel, by decide +kernel, by decide +kernel⟩
set_option maxRecDepth 100000 in
theorem q2_X12_drawn : mQ2 mt_X12_drawn := Or.inr ⟨mGw_of (i := 127) (by decide +kernel) (by decide +kernel), by decide +kernel, Or.inl (by decide +kernel), by decide +kernel, by decide, Or.inr ⟨by decide, mGw_of (i := 1885) (by decide +kernel) (by decide +kernel), mGw_of (i := 81) (by decide +kernel) (by decide +kernel), by decide +kernel, by decide +kernel⟩⟩
set_option maxRecDepth 100000 in
theorem q1_X12_shares : mQ1 mt_X12_shares := ⟨by decide +kernel, by decide +kernel, by decide +kernel, by decide +kernel⟩
set_option maxRecDepth 100000 in
theorem q2_X12_shares : mQ2 mt_X12_shares := Or.inr ⟨mGw_of (i := 127) (by decide +kernel) (by decide +kernel), by decide +kernel, Or.inl (by decide +kernel), by decide +kernel, by decide, Or.inr ⟨by decide, mGw_of (i := 1783) (by decide +kernel) (by decide +kernel), mGw_of (i := 60) (by decide +kernel) (by decide +kernel), by decide +kernel, by decide +kernel⟩⟩
set_option maxRecDepth 100000 in
theorem q1_X12_lays : mQ1 mt_X12_lays := ⟨by decide +kernel, by decide +kernel, by decide +kernel, by decide +kernel⟩
set_option maxRecDepth 100000 in
theorem q2_X12_lays : mQ2 mt_X12_lays := Or.inr ⟨mGw_of (i := 127) (by decide +kernel) (by decide +kernel), by decide +kernel, Or.inl (by decide +kernel), by decide +kernel, by decide, Or.inr ⟨by decide, mGw_of (i := 1779) (by decide +kernel) (by decide +kernel), mGw_of (i := 59) (by decide +kernel) (by decide +kernel), by decide +kernel, by decide +kernel⟩⟩
set_option maxRecDepth 100000 in
theorem q1_X12_borneBy : mQ1 mt_X12_borneBy := ⟨by decide +kernel, by decide +kernel, by decide +kernel, by decide +kernel⟩
set_option maxRecDepth 100000 in
theorem q2_X12_borneBy : mQ2 mt_X12_borneBy := Or.inr ⟨mGw_of (i := 127) (by decide +kernel) (by decide +kernel), by decide +kernel, Or.inl (by decide +kernel), by decide +kernel, by decide, Or.inr ⟨by decide, mGw_of (i := 1823) (by decide +kernel) (by decide +kernel), mGw_of (i := 67) (by decide +kernel) (by decide +kernel), by decide +kernel, by decide +kernel⟩⟩
set_option maxRecDepth 100000 in
theorem q1_X12_borneByAll : mQ1 mt_X12_borneByAll := ⟨by decide +kernel, by decide +kernel, by decide +kernel, by decide +kernel⟩
set_option maxRecDepth 100000 in
theorem q2_X12_borneByAll : mQ2 mt_X12_borneByAll := Or.inr ⟨mGw_of (i := 127) (by decide +kernel) (by decide +kernel), by decide +kernel, Or.inl (by decide +kernel), by decide +kernel, by decide, Or.inr ⟨by decide, mGw_of (i := 1856) (by decide +kernel) (by decide +kernel), mGw_of (i := 75) (by decide +kernel) (by decide +kernel), by decide +kernel, by decide +kernel⟩⟩
set_option maxRecDepth 100000 in
theorem q1_X12_hangs : mQ1 mt_X12_hangs := ⟨by decide +kernel, by decide +kernel, by decide +kernel, by decide +kernel⟩
set_option maxRecDepth 100000 in
theorem q2_X12_hangs : mQ2 mt_X12_hangs := Or.inr ⟨mGw_of (i := 127) (by decide +kernel) (by decide +kernel), by decide +kernel, Or.inl (by decide +kernel), by decide +kernel, by decide, Or.inr ⟨by decide, mGw_of (i := 1800) (by decide +kernel) (by decide +kernel), mGw_of (i := 64) (by decide +kernel) (by decide +kernel), by decide +kernel, by decide +kernel⟩⟩
set_option maxRecDepth 100000 in
theorem q1_X12_givesWay : mQ1 mt_X12_givesWay := ⟨by decide +kernel, by decide +kernel, by decide +kernel, by decide +kernel⟩
set_option maxRecDepth 100000 in
theorem q2_X12_givesWay : mQ2 mt_X12_givesWay := Or.inr ⟨mGw_of (i := 127) (by decide +kernel) (by decide +kernel), by decide +kernel, Or.inl (by decide +kernel), by decide +kernel, by decide, Or.inr ⟨by decide, mGw_of (i := 1775) (by decide +kernel) (by decide +kernel), mGw_of (i := 58) (by decide +kernel) (by decide +kernel), by decide +kernel, by decide +kernel⟩⟩
set_option maxRecDepth 100000 in
theorem q1_X12_hanging : mQ1 mt_X12_hanging := ⟨by decide +kernel, by decide +kernel, by decide +kernel, by decide +kernel⟩
set_option maxRecDepth 100000 in
theorem q2_X12_hanging : mQ2 mt_X12_hanging := Or.inr ⟨mGw_of (i := 127) (by decide +kernel) (by decide +kernel), by decide +kernel, Or.inl (by decide +kernel), by decide +kernel, by decide, Or.inr ⟨by decide, mGw_of (i := 1796) (by decide +kernel) (by decide +kernel), mGw_of (i := 63) (by decide +kernel) (by decide +kernel), by decide +kernel, by decide +kernel⟩⟩
set_option maxRecDepth 100000 in
theorem q1_X12_stands : mQ1 mt_X12_stands := ⟨by decide +kernel, by decide +kernel, by decide +kernel, by decide +kernel⟩
set_option maxRecDepth 100000 in
theorem q2_X12_stands : mQ2 mt_X12_stands := Or.inr ⟨mGw_of (i := 127) (by decide +kernel) (by decide +kernel), by decide +kernel, Or.inl (by decide +kernel), by decide +kernel, by decide, Or.inr ⟨by decide, mGw_of (i := 1771) (by decide +kernel) (by decide +kernel), mGw_of (i := 57) (by decide +kernel) (by decide +kernel), by decide +kernel, by decide +kernel⟩⟩
set_option maxRecDepth 100000 in
theorem q1_X12_comesOut : mQ1 mt_X12_comesOut := ⟨by decide +kernel, by decide +kernel, by decide +kernel, by decide +kernel⟩
set_option maxRecDepth 100000 in
theorem q2_X12_comesOut : mQ2 mt_X12_comesOut := Or.inr ⟨mGw_of (i := 127) (by decide +kernel) (by decide +kernel), by decide +kernel, Or.inl (by decide +kernel), by decide +kernel, by decide, Or.inr ⟨by decide, mGw_of (i := 1902) (by decide +kernel) (by decide +kernel), mGw_of (i := 85) (by decide +kernel) (by decide +kernel), by decide +kernel, by decide +kernel⟩⟩
set_option maxRecDepth 100000 in
theorem q1_X12_comesOutOf : mQ1 mt_X12_comesOutOf := ⟨by decide +kernel, by decide +kernel, by decide +kernel, by decide +kernel⟩
set_option maxRecDepth 100000 in
theorem q2_X12_comesOutOf : mQ2 mt_X12_comesOutOf := Or.inr ⟨mGw_of (i := 127) (by decide +kernel) (by decide +kernel), by decide +kernel, Or.inl (by decide +kernel), by decide +kernel, by decide, Or.inr ⟨by decide, mGw_of (i := 1898) (by decide +kernel) (by decide +kernel), mGw_of (i := 84) (by decide +kernel) (by decide +kernel), by decide +kernel, by decide +kernel⟩⟩
set_option maxRecDepth 100000 in
theorem q1_X12_tells : mQ1 mt_X12_tells := ⟨by decide +kernel, by decide +kernel, by decide +kernel, by decide +kernel⟩
set_option maxRecDepth 100000 in
theorem q2_X12_tells : mQ2 mt_X12_tells := Or.inr ⟨mGw_of (i := 127) (by decide +kernel) (by decide +kernel), by decide +kernel, Or.inl (by decide +kernel), by decide +kernel, by decide, Or.inr ⟨by decide, mGw_of (i := 1894) (by decide +kernel) (by decide +kernel), mGw_of (i := 83) (by decide +kernel) (by decide +kernel), by decide +kernel, by decide +kernel⟩⟩
set_option maxRecDepth 100000 in
theorem q1_X12_allFall : mQ1 mt_X12_allFall := ⟨by decide +kernel, by decide +kernel, by decide +kernel, by decide +kernel⟩
set_option maxRecDepth 100000 in
theorem q2_X12_allFall : mQ2 mt_X12_allFall := Or.inr ⟨mGw_of (i := 127) (by decide +kernel) (by decide +kernel), by decide +kernel, Or.inl (by decide +kernel), by decide +kernel, by decide, Or.inr ⟨by decide, mGw_of (i := 1890) (by decide +kernel) (by decide +kernel), mGw_of (i := 82) (by decide +kernel) (by decide +kernel), by decide +kernel, by decide +kernel⟩⟩
set_option maxRecDepth 100000 in
theorem q1_X12_feed : mQ1 mt_X12_feed := ⟨by decide +kernel, by decide +kernel, by decide +kernel, by decide +kernel⟩
set_option maxRecDepth 100000 in
theorem q2_X12_feed : mQ2 mt_X12_feed := Or.inr ⟨mGw_of (i := 127) (by decide +kernel) (by decide +kernel), by decide +kernel, Or.inl (by decide +kernel), by decide +kernel, by decide, Or.inr ⟨by decide, mGw_of (i := 1604) (by decide +kernel) (by decide +kernel), mGw_of (i := 1605) (by decide +kernel) (by decide +kernel), by decide +kernel, by decide +kernel⟩⟩
set_option maxRecDepth 100000 in
theorem q1_X12_end : mQ1 mt_X12_end := ⟨by decide +kernel, by decide +kernel, by decide +kernel, by decide +kernel⟩
set_option maxRecDepth 100000 in
theorem q2_X12_end : mQ2 mt_X12_end := Or.inr ⟨mGw_of (i := 127) (by decide +kernel) (by decide +kernel), by decide +kernel, Or.inl (by decide +kernel), by decide +kernel, by decide, Or.inr ⟨by decide, mGw_of (i := 1608) (by decide +kernel) (by decide +kernel), mGw_of (i := 1609) (by decide +kernel) (by decide +kernel), by decide +kernel, by decide +kernel⟩⟩
set_option maxRecDepth 100000 in
theorem q1_X12_isAt : mQ1 mt_X12_isAt := ⟨by decide +kernel, by decide +kernel, by decide +kernel, by decide +kernel⟩
set_option maxRecDepth 100000 in
theorem q2_X12_isAt : mQ2 mt_X12_isAt := Or.inr ⟨mGw_of (i := 127) (by decide +kernel) (by decide +kernel), by decide +kernel, Or.inl (by decide +kernel), by decide +kernel, by decide, Or.inr ⟨by decide, mGw_of (i := 1633) (by decide +kernel) (by decide +kernel), mGw_of (i := 30) (by decide +kernel) (by decide +kernel), by decide +kernel, by decide +kernel⟩⟩
set_option maxRecDepth 100000 in
theorem q1_X12_blanks : mQ1 mt_X12_blanks := ⟨by decide +kernel, by decide +kernel, by decide +kernel, by decide +kernel⟩
set_option maxRecDepth 100000 in
theorem q2_X12_blanks : mQ2 mt_X12_blanks := Or.inr ⟨mGw_of (i := 127) (by decide +kernel) (by decide +kernel), by decide +kernel, Or.inl (by decide +kernel), by decide +kernel, by decide, Or.inr ⟨by decide, mGw_of (i := 1629) (by decide +kernel) (by decide +kernel), mGw_of (i := 29) (by decide +kernel) (by decide +kernel), by decide +kernel, by decide +kernel⟩⟩
set_option maxRecDepth 100000 in
theorem q1_X12_letters : mQ1 mt_X12_letters := ⟨by decide +kernel, by decide +kernel, by decide +kernel, by decide +kernel⟩
set_option maxRecDepth 100000 in
theorem q2_X12_letters : mQ2 mt_X12_letters := Or.inr ⟨mGw_of (i := 127) (by decide +kernel) (by decide +kernel), by decide +kernel, Or.inl (by decide +kernel), by decide +kernel, by decide, Or.inr ⟨by decide, mGw_of (i := 1641) (by decide +kernel) (by decide +kernel), mGw_of (i := 32) (by decide +kernel) (by decide +kernel), by decide +kernel, by decide +kernel⟩⟩
set_option maxRecDepth 100000 in
theorem q1_X12_isWord : mQ1 mt_X12_isWord := ⟨by decide +kernel, by decide +kernel, by decide +kernel, by decide +kernel⟩
set_option maxRecDepth 100000 in
theorem q2_X12_isWord : mQ2 mt_X12_isWord := Or.inr ⟨mGw_of (i := 127) (by decide +kernel) (by decide +kernel), by decide +kernel, Or.inl (by decide +kernel), by decide +kernel, by decide, Or.inr ⟨by decide, mGw_of (i := 1650) (by decide +kernel) (by decide +kernel), mGw_of (i := 34) (by decide +kernel) (by decide +kernel), by decide +kernel, by decide +kernel⟩⟩
set_option maxRecDepth 100000 in
theorem q1_X12_passes : mQ1 mt_X12_passes := ⟨by decide +kernel, by decide +kernel, by decide +kernel, by decide +kernel⟩
set_option maxRecDepth 100000 in
theorem q2_X12_passes : mQ2 mt_X12_passes := Or.inr ⟨mGw_of (i := 127) (by decide +kernel) (by decide +kernel), by decide +kernel, Or.inl (by decide +kernel), by decide +kernel, by decide, Or.inr ⟨by decide, mGw_of (i := 1723) (by decide +kernel) (by decide +kernel), mGw_of (i := 47) (by decide +kernel) (by decide +kernel), by decide +kernel, by decide +kernel⟩⟩
set_option maxRecDepth 100000 in
theorem q1_X12_sign : mQ1 mt_X12_sign := ⟨by decide +kernel, by decide +kernel, by decide +kernel, by decide +kernel⟩
set_option maxRecDepth 100000 in
theorem q2_X12_sign : mQ2 mt_X12_sign := Or.inr ⟨mGw_of (i := 127) (by decide +kernel) (by decide +kernel), by decide +kernel, Or.inl (by decide +kernel), by decide +kernel, by decide, Or.inr ⟨by decide, mGw_of (i := 1739) (by decide +kernel) (by decide +kernel), mGw_of (i := 51) (by decide +kernel) (by decide +kernel), by decide +kernel, by decide +kernel⟩⟩
set_option maxRecDepth 100000 in
theorem q1_X12_number : mQ1 mt_X12_number := ⟨by decide +kernel, by decide +kernel, by decide +kernel, by decide +kernel⟩
set_option maxRecDepth 100000 in
theorem q2_X12_number : mQ2 mt_X12_number := Or.inr ⟨mGw_of (i := 127) (by decide +kernel) (by decide +kernel), by decide +kernel, Or.inl (by decide +kernel), by decide +kernel, by decide, Or.inr ⟨by decide, mGw_of (i := 1669) (by decide +kernel) (by decide +kernel), mGw_of (i := 38) (by decide +kernel) (by decide +kernel), by decide +kernel, by decide +kernel⟩⟩
set_option maxRecDepth 100000 in
theorem q1_X12_after : mQ1 mt_X12_after := ⟨by decide +kernel, by decide +kernel, by decide +kernel, by decide +kernel⟩
set_option maxRecDepth 100000 in
theorem q2_X12_after : mQ2 mt_X12_after := Or.inr ⟨mGw_of (i := 127) (by decide +kernel) (by decide +kernel), by decide +kernel, Or.inl (by decide +kernel), by decide +kernel, by decide, Or.inr ⟨by decide, mGw_of (i := 1665) (by decide +kernel) (by decide +kernel), mGw_of (i := 37) (by decide +kernel) (by decide +kernel), by decide +kernel, by decide +kernel⟩⟩
set_option maxRecDepth 100000 in
theorem q1_X12_fault : mQ1 mt_X12_fault := ⟨by decide +kernel, by decide +kernel, by decide +kernel, by decide +kernel⟩
set_option maxRecDepth 100000 in
theorem q2_X12_fault : mQ2 mt_X12_fault := Or.inr ⟨mGw_of (i := 127) (by decide +kernel) (by decide +kernel), by decide +kernel, Or.inl (by decide +kernel), by decide +kernel, by decide, Or.inr ⟨by decide, mGw_of (i := 1612) (by decide +kernel) (by decide +kernel), mGw_of (i := 1613) (by decide +kernel) (by decide +kernel), by decide +kernel, by decide +kernel⟩⟩
set_option maxRecDepth 100000 in
theorem q1_X12_uses : mQ1 mt_X12_uses := ⟨by decide +kernel, by decide +kernel, by decide +kernel, by decide +kernel⟩
set_option maxRecDepth 100000 in
theorem q2_X12_uses : mQ2 mt_X12_uses := Or.inr ⟨mGw_of (i := 127) (by decide +kernel) (by decide +kernel), by decide +kernel, Or.inl (by decide +kernel), by decide +kernel, by decide, Or.inr ⟨by decide, mGw_of (i := 1625) (by decide +kernel) (by decide +kernel), mGw_of (i := 28) (by decide +kernel) (by decide +kernel), by decide +kernel, by decide +kernel⟩⟩
set_option maxRecDepth 100000 in
theorem q1_X12_readNumber : mQ1 mt_X12_readNumber := ⟨by decide +kernel, by decide +kernel, by decide +kernel, by decide +kernel⟩
set_option maxRecDepth 100000 in
theorem q2_X12_readNumber : mQ2 mt_X12_readNumber := Or.inr ⟨mGw_of (i := 127) (by decide +kernel) (by decide +kernel), by decide +kernel, Or.inl (by decide +kernel), by decide +kernel, by decide, Or.inr ⟨by decide, mGw_of (i := 1709) (by decide +kernel) (by decide +kernel), mGw_of (i := 45) (by decide +kernel) (by decide +kernel), by decide +kernel, by decide +kernel⟩⟩
set_option maxRecDepth 100000 in
theorem q1_X12_readPerson : mQ1 mt_X12_readPerson := ⟨by decide +kernel, by decide +kernel, by decide +kernel, by decide +kernel⟩
set_option maxRecDepth 100000 in
theorem q2_X12_readPerson : mQ2 mt_X12_readPerson := Or.inr ⟨mGw_of (i := 127) (by decide +kernel) (by decide +kernel), by decide +kernel, Or.inl (by decide +kernel), by decide +kernel, by decide, Or.inr ⟨by decide, mGw_of (i := 1656) (by decide +kernel) (by decide +kernel), mGw_of (i := 35) (by decide +kernel) (by decide +kernel), by decide +kernel, by decide +kernel⟩⟩
set_option maxRecDepth 100000 in
theorem q1_X12_lettersOf : mQ1 mt_X12_lettersOf := ⟨by decide +kernel, by decide +kernel, by decide +kernel, by decide +kernel⟩
set_option maxRecDepth 100000 in
theorem q2_X12_lettersOf : mQ2 mt_X12_lettersOf := Or.inr ⟨mGw_of (i := 127) (by decide +kernel) (by decide +kernel), by decide +kernel, Or.inl (by decide +kernel), by decide +kernel, by decide, Or.inr ⟨by decide, mGw_of (i := 1692) (by decide +kernel) (by decide +kernel), mGw_of (i := 42) (by decide +kernel) (by decide +kernel), by decide +kernel, by decide +kernel⟩⟩
set_option maxRecDepth 100000 in
theorem q1_X12_readUp : mQ1 mt_X12_readUp := ⟨by decide +kernel, by decide +kernel, by decide +kernel, by decide +kernel⟩
set_option maxRecDepth 100000 in
theorem q2_X12_readUp : mQ2 mt_X12_readUp := Or.inr ⟨mGw_of (i := 127) (by decide +kernel) (by decide +kernel), by decide +kernel, Or.inl (by decide +kernel), by decide +kernel, by decide, Or.inr ⟨by decide, mGw_of (i := 1678) (by decide +kernel) (by decide +kernel), mGw_of (i := 39) (by decide +kernel) (by decide +kernel), by decide +kernel, by decide +kernel⟩⟩
set_option maxRecDepth 100000 in
theorem q1_X12_readAsleep : mQ1 mt_X12_readAsleep := ⟨by decide +kernel, by decide +kernel, by decide +kernel, by decide +kernel⟩
set_option maxRecDepth 100000 in
theorem q2_X12_readAsleep : mQ2 mt_X12_readAsleep := Or.inr ⟨mGw_of (i := 127) (by decide +kernel) (by decide +kernel), by decide +kernel, Or.inl (by decide +kernel), by decide +kernel, by decide, Or.inr ⟨by decide, mGw_of (i := 1700) (by decide +kernel) (by decide +kernel), mGw_of (i := 43) (by decide +kernel) (by decide +kernel), by decide +kernel, by decide +kernel⟩⟩
set_option maxRecDepth 100000 in
theorem q1_X12_readTowerLine : mQ1 mt_X12_readTowerLine := ⟨by decide +kernel, by decide +kernel, by decide +kernel, by decide +kernel⟩
set_option maxRecDepth 100000 in
theorem q2_X12_readTowerLine : mQ2 mt_X12_readTowerLine := Or.inr ⟨mGw_of (i := 127) (by decide +kernel) (by decide +kernel), by decide +kernel, Or.inl (by decide +kernel), by decide +kernel, by decide, Or.inr ⟨by decide, mGw_of (i := 1645) (by decide +kernel) (by decide +kernel), mGw_of (i := 33) (by decide +kernel) (by decide +kernel), by decide +kernel, by decide +kernel⟩⟩
set_option maxRecDepth 100000 in
theorem q1_X12_emits : mQ1 mt_X12_emits := ⟨by decide +kernel, by decide +kernel, by decide +kernel, by decide +kernel⟩
set_option maxRecDepth 100000 in
theorem q2_X12_emits : mQ2 mt_X12_emits := Or.inr ⟨mGw_of (i := 127) (by decide +kernel) (by decide +kernel), by decide +kernel, Or.inl (by decide +kernel), by decide +kernel, by decide, Or.inr ⟨by decide, mGw_of (i := 1744) (by decide +kernel) (by decide +kernel), mGw_of (i := 52) (by decide +kernel) (by decide +kernel), by decide +kernel, by decide +kernel⟩⟩
set_option maxRecDepth 100000 in
theorem q1_X12_wordOfPart : mQ1 mt_X12_wordOfPart := ⟨by decide +kernel, by decide +kernel, by decide +kernel, by decide +kernel⟩
set_option maxRecDepth 100000 in
theorem q2_X12_wordOfPart : mQ2 mt_X12_wordOfPart := Or.inr ⟨mGw_of (i := 127) (by decide +kernel) (by decide +kernel), by decide +kernel, Or.inl (by decide +kernel), by decide +kernel, by decide, Or.inr ⟨by decide, mGw_of (i := 1762) (by decide +kernel) (by decide +kernel), mGw_of (i := 56) (by decide +kernel) (by decide +kernel), by decide +kernel, by decide +kernel⟩⟩
set_option maxRecDepth 100000 in
theorem q1_X12_readPart : mQ1 mt_X12_readPart := ⟨by decide +kernel, by decide +kernel, by decide +kernel, by decide +kernel⟩
set_option maxRecDepth 100000 in
theorem q2_X12_readPart : mQ2 mt_X12_readPart := Or.inr ⟨mGw_of (i := 127) (by decide +kernel) (by decide +kernel), by decide +kernel, Or.inl (by decide +kernel), by decide +kernel, by decide, Or.inr ⟨by decide, mGw_of (i := 1758) (by decide +kernel) (by decide +kernel), mGw_of (i := 55) (by decide +kernel) (by decide +kernel), by decide +kernel, by decide +kernel⟩⟩
set_option maxRecDepth 100000 in
theorem q1_X12_readSum : mQ1 mt_X12_readSum := ⟨by decide +kernel, by decide +kernel, by decide +kernel, by decide +kernel⟩
set_option maxRecDepth 100000 in
theorem q2_X12_readSum : mQ2 mt_X12_readSum := Or.inr ⟨mGw_of (i := 127) (by decide +kernel) (by decide +kernel), by decide +kernel, Or.inl (by decide +kernel), by decide +kernel, by decide, Or.inr ⟨by decide, mGw_of (i := 1754) (by decide +kernel) (by decide +kernel), mGw_of (i := 54) (by decide +kernel) (by decide +kernel), by decide +kernel, by decide +kernel⟩⟩
set_option maxRecDepth 100000 in
theorem q1_X12_readTag : mQ1 mt_X12_readTag := ⟨by decide +kernel, by decide +kernel, by decide +kernel, by decide +kernel⟩
set_option maxRecDepth 100000 in
theorem q2_X12_readTag : mQ2 mt_X12_readTag := Or.inr ⟨mGw_of (i := 127) (by decide +kernel) (by decide +kernel), by decide +kernel, Or.inl (by decide +kernel), by decide +kernel, by decide, Or.inr ⟨by decide, mGw_of (i := 1748) (by decide +kernel) (by decide +kernel), mGw_of (i := 53) (by decide +kernel) (by decide +kernel), by decide +kernel, by decide +kernel⟩⟩
set_option maxRecDepth 100000 in
theorem q1_X12_readAtom : mQ1 mt_X12_readAtom := ⟨by decide +kernel, by decide +kernel, by decide +kernel, by decide +kernel⟩
set_option maxRecDepth 100000 in
theorem q2_X12_readAtom : mQ2 mt_X12_readAtom := Or.inr ⟨mGw_of (i := 127) (by decide +kernel) (by decide +kernel), by decide +kernel, Or.inl (by decide +kernel), by decide +kernel, by decide, Or.inr ⟨by decide, mGw_of (i := 1735) (by decide +kernel) (by decide +kernel), mGw_of (i := 50) (by decide +kernel) (by decide +kernel), by decide +kernel, by decide +kernel⟩⟩
set_option maxRecDepth 100000 in
theorem q1_X12_readAllOf : mQ1 mt_X12_readAllOf := ⟨by decide +kernel, by decide +kernel, by decide +kernel, by decide +kernel⟩
set_option maxRecDepth 100000 in
theorem q2_X12_readAllOf : mQ2 mt_X12_readAllOf := Or.inr ⟨mGw_of (i := 127) (by decide +kernel) (by decide +kernel), by decide +kernel, Or.inl (by decide +kernel), by decide +kernel, by decide, Or.inr ⟨by decide, mGw_of (i := 1731) (by decide +kernel) (by decide +kernel), mGw_of (i := 49) (by decide +kernel) (by decide +kernel), by decide +kernel, by decide +kernel⟩⟩
set_option maxRecDepth 100000 in
theorem q1_X12_readCond : mQ1 mt_X12_readCond := ⟨by decide +kernel, by decide +kernel, by decide +kernel, by decide +kernel⟩
set_option maxRecDepth 100000 in
theorem q2_X12_readCond : mQ2 mt_X12_readCond := Or.inr ⟨mGw_of (i := 127) (by decide +kernel) (by decide +kernel), by decide +kernel, Or.inl (by decide +kernel), by decide +kernel, by decide, Or.inr ⟨by decide, mGw_of (i := 1727) (by decide +kernel) (by decide +kernel), mGw_of (i := 48) (by decide +kernel) (by decide +kernel), by decide +kernel, by decide +kernel⟩⟩
set_option maxRecDepth 100000 in
theorem q1_X12_readLawLine : mQ1 mt_X12_readLawLine := ⟨by decide +kernel, by decide +kernel, by decide +kernel, by decide +kernel⟩
set_option maxRecDepth 100000 in
theorem q2_X12_readLawLine : mQ2 mt_X12_readLawLine := Or.inr ⟨mGw_of (i := 127) (by decide +kernel) (by decide +kernel), by decide +kernel, Or.inl (by decide +kernel), by decide +kernel, by decide, Or.inr ⟨by decide, mGw_of (i := 1715) (by decide +kernel) (by decide +kernel), mGw_of (i := 46) (by decide +kernel) (by decide +kernel), by decide +kernel, by decide +kernel⟩⟩
set_option maxRecDepth 100000 in
theorem q1_X12_readLine : mQ1 mt_X12_readLine := ⟨by decide +kernel, by decide +kernel, by decide +kernel, by decide +kernel⟩
set_option maxRecDepth 100000 in
theorem q2_X12_readLine : mQ2 mt_X12_readLine := Or.inr ⟨mGw_of (i := 127) (by decide +kernel) (by decide +kernel), by decide +kernel, Or.inl (by decide +kernel), by decide +kernel, by decide, Or.inr ⟨by decide, mGw_of (i := 1637) (by decide +kernel) (by decide +kernel), mGw_of (i := 31) (by decide +kernel) (by decide +kernel), by decide +kernel, by decide +kernel⟩⟩
set_option maxRecDepth 100000 in
theorem q1_X12_readAll : mQ1 mt_X12_readAll := ⟨by decide +kernel, by decide +kernel, by decide +kernel, by decide +kernel⟩
set_option maxRecDepth 100000 in
theorem q2_X12_readAll : mQ2 mt_X12_readAll := Or.inr ⟨mGw_of (i := 127) (by decide +kernel) (by decide +kernel), by decide +kernel, Or.inl (by decide +kernel), by decide +kernel, by decide, Or.inr ⟨by decide, mGw_of (i := 1621) (by decide +kernel) (by decide +kernel), mGw_of (i := 27) (by decide +kernel) (by decide +kernel), by decide +kernel, by decide +kernel⟩⟩
set_option maxRecDepth 100000 in
theorem q1_X12_tower : mQ1 mt_X12_tower := ⟨by decide +kernel, by decide +kernel, by decide +kernel, by decide +kernel⟩
set_option maxRecDepth 100000 in
theorem q2_X12_tower : mQ2 mt_X12_tower := Or.inr ⟨mGw_of (i := 127) (by decide +kernel) (by decide +kernel), by decide +kernel, Or.inl (by decide +kernel), by decide +kernel, by decide, Or.inr ⟨by decide, mGw_of (i := 1616) (by decide +kernel) (by decide +kernel), mGw_of (i := 1617) (by decide +kernel) (by decide +kernel), by decide +kernel, by decide +kernel⟩⟩
set_option maxRecDepth 100000 in
theorem q1_X12_law : mQ1 mt_X12_law := ⟨by decide +kernel, by decide +kernel, by decide +kernel, by decide +kernel⟩
set_option maxRecDepth 100000 in
theorem q2_X12_law : mQ2 mt_X12_law := Or.inr ⟨mGw_of (i := 127) (by decide +kernel) (by decide +kernel), by decide +kernel, Or.inl (by decide +kernel), by decide +kernel, by decide, Or.inr ⟨by decide, mGw_of (i := 1807) (by decide +kernel) (by decide +kernel), mGw_of (i := 1808) (by decide +kernel) (by decide +kernel), by decide +kernel, by decide +kernel⟩⟩
set_option maxRecDepth 100000 in
theorem q1_X12_isTop : mQ1 mt_X12_isTop := ⟨by decide +kernel, by decide +kernel, by decide +kernel, by decide +kernel⟩
set_option maxRecDepth 100000 in
theorem q2_X12_isTop : mQ2 mt_X12_isTop := Or.inr ⟨mGw_of (i := 127) (by decide +kernel) (by decide +kernel), by decide +kernel, Or.inl (by decide +kernel), by decide +kernel, by decide, Or.inr ⟨by decide, mGw_of (i := 1844) (by decide +kernel) (by decide +kernel), mGw_of (i := 72) (by decide +kernel) (by decide +kernel), by decide +kernel, by decide +kernel⟩⟩
set_option maxRecDepth 100000 in
theorem q1_X12_factOf : mQ1 mt_X12_factOf := ⟨by decide +kernel, by decide +kernel, by decide +kernel, by decide +kernel⟩
set_option maxRecDepth 100000 in
theorem q2_X12_factOf : mQ2 mt_X12_factOf := Or.inr ⟨mGw_of (i := 127) (by decide +kernel) (by decide +kernel), by decide +kernel, Or.inl (by decide +kernel), by decide +kernel, by decide, Or.inr ⟨by decide, mGw_of (i := 1839) (by decide +kernel) (by decide +kernel), mGw_of (i := 71) (by decide +kernel) (by decide +kernel), by decide +kernel, by decide +kernel⟩⟩
set_option maxRecDepth 100000 in
theorem q1_X12_holdsLine : mQ1 mt_X12_holdsLine := ⟨by decide +kernel, by decide +kernel, by decide +kernel, by decide +kernel⟩
set_option maxRecDepth 100000 in
theorem q2_X12_holdsLine : mQ2 mt_X12_holdsLine := Or.inr ⟨mGw_of (i := 127) (by decide +kernel) (by decide +kernel), by decide +kernel, Or.inl (by decide +kernel), by decide +kernel, by decide, Or.inr ⟨by decide, mGw_of (i := 1835) (by decide +kernel) (by decide +kernel), mGw_of (i := 70) (by decide +kernel) (by decide +kernel), by decide +kernel, by decide +kernel⟩⟩
set_option maxRecDepth 100000 in
theorem q1_X12_withoutText : mQ1 mt_X12_withoutText := ⟨by decide +kernel, by decide +kernel, by decide +kernel, by decide +kernel⟩
set_option maxRecDepth 100000 in
theorem q2_X12_withoutText : mQ2 mt_X12_withoutText := Or.inr ⟨mGw_of (i := 127) (by decide +kernel) (by decide +kernel), by decide +kernel, Or.inl (by decide +kernel), by decide +kernel, by decide, Or.inr ⟨by decide, mGw_of (i := 1831) (by decide +kernel) (by decide +kernel), mGw_of (i := 69) (by decide +kernel) (by decide +kernel), by decide +kernel, by decide +kernel⟩⟩
set_option maxRecDepth 100000 in
theorem q1_X12_byLaw : mQ1 mt_X12_byLaw := ⟨by decide +kernel, by decide +kernel, by decide +kernel, by decide +kernel⟩
set_option maxRecDepth 100000 in
theorem q2_X12_byLaw : mQ2 mt_X12_byLaw := Or.inr ⟨mGw_of (i := 127) (by decide +kernel) (by decide +kernel), by decide +kernel, Or.inl (by decide +kernel), by decide +kernel, by decide, Or.inr ⟨by decide, mGw_of (i := 1827) (by decide +kernel) (by decide +kernel), mGw_of (i := 68) (by decide +kernel) (by decide +kernel), by decide +kernel, by decide +kernel⟩⟩
set_option maxRecDepth 100000 in
theorem q1_X12_spareOf : mQ1 mt_X12_spareOf := ⟨by decide +kernel, by decide +kernel, by decide +kernel, by decide +kernel⟩
set_option maxRecDepth 100000 in
theorem q2_X12_spareOf : mQ2 mt_X12_spareOf := Or.inr ⟨mGw_of (i := 127) (by decide +kernel) (by decide +kernel), by decide +kernel, Or.inl (by decide +kernel), by decide +kernel, by decide, Or.inr ⟨by decide, mGw_of (i := 1848) (by decide +kernel) (by decide +kernel), mGw_of (i := 73) (by decide +kernel) (by decide +kernel), by decide +kernel, by decide +kernel⟩⟩
set_option maxRecDepth 100000 in
theorem q1_X12_shareOf : mQ1 mt_X12_shareOf := ⟨by decide +kernel, by decide +kernel, by decide +kernel, by decide +kernel⟩
set_option maxRecDepth 100000 in
theorem q2_X12_shareOf : mQ2 mt_X12_shareOf := Or.inr ⟨mGw_of (i := 127) (by decide +kernel) (by decide +kernel), by decide +kernel, Or.inl (by decide +kernel), by decide +kernel, by decide, Or.inr ⟨by decide, mGw_of (i := 1852) (by decide +kernel) (by decide +kernel), mGw_of (i := 74) (by decide +kernel) (by decide +kernel), by decide +kernel, by decide +kernel⟩⟩
set_option maxRecDepth 100000 in
theorem q1_X12_person : mQ1 mt_X12_person := ⟨by decide +kernel, by decide +kernel, by decide +kernel, by decide +kernel⟩
set_option maxRecDepth 100000 in
theorem q2_X12_person : mQ2 mt_X12_person := Or.inr ⟨mGw_of (i := 127) (by decide +kernel) (by decide +kernel), by decide +kernel, Or.inl (by decide +kernel), by decide +kernel, by decide, Or.inr ⟨by decide, mGw_of (i := 1811) (by decide +kernel) (by decide +kernel), mGw_of (i := 1812) (by decide +kernel) (by decide +kernel), by decide +kernel, by decide +kernel⟩⟩
set_option maxRecDepth 100000 in
theorem q1_X12_tires : mQ1 mt_X12_tires := ⟨by decide +kernel, by decide +kernel, by decide +kernel, by decide +kernel⟩
set_option maxRecDepth 100000 in
theorem q2_X12_tires : mQ2 mt_X12_tires := Or.inr ⟨mGw_of (i := 127) (by decide +kernel) (by decide +kernel), by decide +kernel, Or.inl (by decide +kernel), by decide +kernel, by decide, Or.inr ⟨by decide, mGw_of (i := 1880) (by decide +kernel) (by decide +kernel), mGw_of (i := 80) (by decide +kernel) (by decide +kernel), by decide +kernel, by decide +kernel⟩⟩
set_option maxRecDepth 100000 in
theorem q1_X12_oneHour : mQ1 mt_X12_oneHour := ⟨by decide +kernel, by decide +kernel, by decide +kernel, by decide +kernel⟩
set_option maxRecDepth 100000 in
theorem q2_X12_oneHour : mQ2 mt_X12_oneHour := Or.inr ⟨mGw_of (i := 127) (by decide +kernel) (by decide +kernel), by decide +kernel, Or.inl (by decide +kernel), by decide +kernel, by decide, Or.inr ⟨by decide, mGw_of (i := 1876) (by decide +kernel) (by decide +kernel), mGw_of (i := 79) (by decide +kernel) (by decide +kernel), by decide +kernel, by decide +kernel⟩⟩
set_option maxRecDepth 100000 in
theorem q1_X12_goesOn : mQ1 mt_X12_goesOn := ⟨by decide +kernel, by decide +kernel, by decide +kernel, by decide +kernel⟩
set_option maxRecDepth 100000 in
theorem q2_X12_goesOn : mQ2 mt_X12_goesOn := Or.inr ⟨mGw_of (i := 127) (by decide +kernel) (by decide +kernel), by decide +kernel, Or.inl (by decide +kernel), by decide +kernel, by decide, Or.inr ⟨by decide, mGw_of (i := 1872) (by decide +kernel) (by decide +kernel), mGw_of (i := 78) (by decide +kernel) (by decide +kernel), by decide +kernel, by decide +kernel⟩⟩
set_option maxRecDepth 100000 in
theorem q1_X12_hours : mQ1 mt_X12_hours := ⟨by decide +kernel, by decide +kernel, by decide +kernel, by decide +kernel⟩
set_option maxRecDepth 100000 in
theorem q2_X12_hours : mQ2 mt_X12_hours := Or.inr ⟨mGw_of (i := 127) (by decide +kernel) (by decide +kernel), by decide +kernel, Or.inl (by decide +kernel), by decide +kernel, by decide, Or.inr ⟨by decide, mGw_of (i := 1859) (by decide +kernel) (by decide +kernel), mGw_of (i := 1860) (by decide +kernel) (by decide +kernel), by decide +kernel, by decide +kernel⟩⟩
set_option maxRecDepth 100000 in
theorem q1_X12_cannot : mQ1 mt_X12_cannot := ⟨by decide +kernel, by decide +kernel, by decide +kernel, by decide +kernel⟩
set_option maxRecDepth 100000 in
theorem q2_X12_cannot : mQ2 mt_X12_cannot := Or.inr ⟨mGw_of (i := 127) (by decide +kernel) (by decide +kernel), by decide +kernel, Or.inl (by decide +kernel), by decide +kernel, by decide, Or.inr ⟨by decide, mGw_of (i := 1922) (by decide +kernel) (by decide +kernel), mGw_of (i := 89) (by decide +kernel) (by decide +kernel), by decide +kernel, by decide +kernel⟩⟩
set_option maxRecDepth 100000 in
theorem q1_X12_wrongOn : mQ1 mt_X12_wrongOn := ⟨by decide +kernel, by decide +kernel, by decide +kernel, by decide +kernel⟩
set_option maxRecDepth 100000 in
theorem q2_X12_wrongOn : mQ2 mt_X12_wrongOn := Or.inr ⟨mGw_of (i := 127) (by decide +kernel) (by decide +kernel), by decide +kernel, Or.inl (by decide +kernel), by decide +kernel, by decide, Or.inr ⟨by decide, mGw_of (i := 1914) (by decide +kernel) (by decide +kernel), mGw_of (i := 87) (by decide +kernel) (by decide +kernel), by decide +kernel, by decide +kernel⟩⟩
set_option maxRecDepth 100000 in
theorem q1_X12_rise : mQ1 mt_X12_rise := ⟨by decide +kernel, by decide +kernel, by decide +kernel, by decide +kernel⟩
set_option maxRecDepth 100000 in
theorem q2_X12_rise : mQ2 mt_X12_rise := Or.inr ⟨mGw_of (i := 127) (by decide +kernel) (by decide +kernel), by decide +kernel, Or.inl (by decide +kernel), by decide +kernel, by decide, Or.inr ⟨by decide, mGw_of (i := 1905) (by decide +kernel) (by decide +kernel), mGw_of (i := 1906) (by decide +kernel) (by decide +kernel), by decide +kernel, by decide +kernel⟩⟩
set_option maxRecDepth 100000 in
theorem q1_X12_out : mQ1 mt_X12_out := ⟨by decide +kernel, by decide +kernel, by decide +kernel, by decide +kernel⟩
set_option maxRecDepth 100000 in
theorem q2_X12_out : mQ2 mt_X12_out := Or.inr ⟨mGw_of (i := 127) (by decide +kernel) (by decide +kernel), by decide +kernel, Or.inl (by decide +kernel), by decide +kernel, by decide, Or.inr ⟨by decide, mGw_of (i := 1929) (by decide +kernel) (by decide +kernel), mGw_of (i := 1930) (by decide +kernel) (by decide +kernel), by decide +kernel, by decide +kernel⟩⟩
set_option maxRecDepth 100000 in
theorem q1_X12_changes : mQ1 mt_X12_changes := ⟨by decide +kernel, by decide +kernel, by decide +kernel, by decide +kernel⟩
set_option maxRecDepth 100000 in
theorem q2_X12_changes : mQ2 mt_X12_changes := Or.inr ⟨mGw_of (i := 127) (by decide +kernel) (by decide +kernel), by decide +kernel, Or.inl (by decide +kernel), by decide +kernel, by decide, Or.inr ⟨by decide, mGw_of (i := 1938) (by decide +kernel) (by decide +kernel), mGw_of (i := 91) (by decide +kernel) (by decide +kernel), by decide +kernel, by decide +kernel⟩⟩
set_option maxRecDepth 100000 in
theorem q1_X12_relieve : mQ1 mt_X12_relieve := ⟨by decide +kernel, by decide +kernel, by decide +kernel, by decide +kernel⟩
set_option maxRecDepth 100000 in
theorem q2_X12_relieve : mQ2 mt_X12_relieve := Or.inr ⟨mGw_of (i := 127) (by decide +kernel) (by decide +kernel), by decide +kernel, Or.inl (by decide +kernel), by decide +kernel, by decide, Or.inr ⟨by decide, mGw_of (i := 1933) (by decide +kernel) (by decide +kernel), mGw_of (i := 1934) (by decide +kernel) (by decide +kernel), by decide +kernel, by decide +kernel⟩⟩
set_option maxRecDepth 100000 in
theorem q1_X12_lean : mQ1 mt_X12_lean := ⟨by decide +kernel, by decide +kernel, by decide +kernel, by decide +kernel⟩
set_option maxRecDepth 100000 in
theorem q2_X12_lean : mQ2 mt_X12_lean := Or.inr ⟨mGw_of (i := 127) (by decide +kernel) (by decide +kernel), by decide +kernel, Or.inl (by decide +kernel), by decide +kernel, by decide, Or.inr ⟨by decide, mGw_of (i := 1941) (by decide +kernel) (by decide +kernel), mGw_of (i := 1942) (by decide +kernel) (by decide +kernel), by decide +kernel, by decide +kernel⟩⟩
set_option maxRecDepth 100000 in
theorem q1_X12_wake : mQ1 mt_X12_wake := ⟨by decide +kernel, by decide +kernel, by decide +kernel, by decide +kernel⟩
set_option maxRecDepth 100000 in
theorem q2_X12_wake : mQ2 mt_X12_wake := Or.inr ⟨mGw_of (i := 127) (by decide +kernel) (by decide +kernel), by decide +kernel, Or.inl (by decide +kernel), by decide +kernel, by decide, Or.inr ⟨by decide, mGw_of (i := 1945) (by decide +kernel) (by decide +kernel), mGw_of (i := 1946) (by decide +kernel) (by decide +kernel), by decide +kernel, by decide +kernel⟩⟩
set_option maxRecDepth 100000 in
theorem q1_X12_sleep : mQ1 mt_X12_sleep := ⟨by decide +kernel, by decide +kernel, by decide +kernel, by decide +kernel⟩
set_option maxRecDepth 100000 in
theorem q2_X12_sleep : mQ2 mt_X12_sleep := Or.inr ⟨mGw_of (i := 127) (by decide +kernel) (by decide +kernel), by decide +kernel, Or.inl (by decide +kernel), by decide +kernel, by decide, Or.inr ⟨by decide, mGw_of (i := 1949) (by decide +kernel) (by decide +kernel), mGw_of (i := 1950) (by decide +kernel) (by decide +kernel), by decide +kernel, by decide +kernel⟩⟩
set_option maxRecDepth 100000 in
theorem q1_X12_need : mQ1 mt_X12_need := ⟨by decide +kernel, by decide +kernel, by decide +kernel, by decide +kernel⟩
set_option maxRecDepth 100000 in
theorem q2_X12_need : mQ2 mt_X12_need := Or.inr ⟨mGw_of (i := 127) (by decide +kernel) (by decide +kernel), by decide +kernel, Or.inl (by decide +kernel), by decide +kernel, by decide, Or.inr ⟨by decide, mGw_of (i := 1953) (by decide +kernel) (by decide +kernel), mGw_of (i := 1954) (by decide +kernel) (by decide +kernel), by decide +kernel, by decide +kernel⟩⟩
set_option maxRecDepth 100000 in
theorem q1_X12_total : mQ1 mt_X12_total := ⟨by decide +kernel, by decide +kernel, by decide +kernel, by decide +kernel⟩
set_option maxRecDepth 100000 in
theorem q2_X12_total : mQ2 mt_X12_total := Or.inr ⟨mGw_of (i := 127) (by decide +kernel) (by decide +kernel), by decide +kernel, Or.inl (by decide +kernel), by decide +kernel, by decide, Or.inr ⟨by decide, mGw_of (i := 1957) (by decide +kernel) (by decide +kernel), mGw_of (i := 1958) (by decide +kernel) (by decide +kernel), by decide +kernel, by decide +kernel⟩⟩
set_option maxRecDepth 100000 in
theorem q1_X12_ground : mQ1 mt_X12_ground := ⟨by decide +kernel, by decide +kernel, by decide +kernel, by decide +kernel⟩
set_option maxRecDepth 100000 in
theorem q2_X12_ground : mQ2 mt_X12_ground := Or.inr ⟨mGw_of (i := 127) (by decide +kernel) (by decide +kernel), by decide +kernel, Or.inl (by decide +kernel), by decide +kernel, by decide, Or.inr ⟨by decide, mGw_of (i := 1961) (by decide +kernel) (by decide +kernel), mGw_of (i := 1962) (by decide +kernel) (by decide +kernel), by decide +kernel, by decide +kernel⟩⟩
set_option maxRecDepth 100000 in
theorem q1_X12_height : mQ1 mt_X12_height := ⟨by decide +kernel, by decide +kernel, by decide +kernel, by decide +kernel⟩
set_option maxRecDepth 100000 in
theorem q2_X12_height : mQ2 mt_X12_height := Or.inr ⟨mGw_of (i := 127) (by decide +kernel) (by decide +kernel), by decide +kernel, Or.inl (by decide +kernel), by decide +kernel, by decide, Or.inr ⟨by decide, mGw_of (i := 1965) (by decide +kernel) (by decide +kernel), mGw_of (i := 1966) (by decide +kernel) (by decide +kernel), by decide +kernel, by decide +kernel⟩⟩
set_option maxRecDepth 100000 in
theorem q1_X12_weakest : mQ1 mt_X12_weakest := ⟨by decide +kernel, by decide +kernel, by decide +kernel, by decide +kernel⟩
set_option maxRecDepth 100000 in
theorem q2_X12_weakest : mQ2 mt_X12_weakest := Or.inr ⟨mGw_of (i := 127) (by decide +kernel) (by decide +kernel), by decide +kernel, Or.inl (by decide +kernel), by decide +kernel, by decide, Or.inr ⟨by decide, mGw_of (i := 1969) (by decide +kernel) (by decide +kernel), mGw_of (i := 1970) (by decide +kernel) (by decide +kernel), by decide +kernel, by decide +kernel⟩⟩
set_option maxRecDepth 100000 in
theorem q1_X12_bearsMore : mQ1 mt_X12_bearsMore := ⟨by decide +kernel, by decide +kernel, by decide +kernel, by decide +kernel⟩
set_option maxRecDepth 100000 in
theorem q2_X12_bearsMore : mQ2 mt_X12_bearsMore := Or.inr ⟨mGw_of (i := 127) (by decide +kernel) (by decide +kernel), by decide +kernel, Or.inl (by decide +kernel), by decide +kernel, by decide, Or.inr ⟨by decide, mGw_of (i := 1979) (by decide +kernel) (by decide +kernel), mGw_of (i := 92) (by decide +kernel) (by decide +kernel), by decide +kernel, by decide +kernel⟩⟩
set_option maxRecDepth 100000 in
theorem q1_X12_more : mQ1 mt_X12_more := ⟨by decide +kernel, by decide +kernel, by decide +kernel, by decide +kernel⟩
set_option maxRecDepth 100000 in
theorem q2_X12_more : mQ2 mt_X12_more := Or.inr ⟨mGw_of (i := 127) (by decide +kernel) (by decide +kernel), by decide +kernel, Or.inl (by decide +kernel), by decide +kernel, by decide, Or.inr ⟨by decide, mGw_of (i := 1974) (by decide +kernel) (by decide +kernel), mGw_of (i := 1975) (by decide +kernel) (by decide +kernel), by decide +kernel, by decide +kernel⟩⟩
set_option maxRecDepth 100000 in
theorem q1_X12_couldComeOut : mQ1 mt_X12_couldComeOut := ⟨by decide +kernel, by decide +kernel, by decide +kernel, by decide +kernel⟩
set_option maxRecDepth 100000 in
theorem q2_X12_couldComeOut : mQ2 mt_X12_couldComeOut := Or.inr ⟨mGw_of (i := 127) (by decide +kernel) (by decide +kernel), by decide +kernel, Or.inl (by decide +kernel), by decide +kernel, by decide, Or.inr ⟨by decide, mGw_of (i := 1987) (by decide +kernel) (by decide +kernel), mGw_of (i := 93) (by decide +kernel) (by decide +kernel), by decide +kernel, by decide +kernel⟩⟩
set_option maxRecDepth 100000 in
theorem q1_X12_outs : mQ1 mt_X12_outs := ⟨by decide +kernel, by decide +kernel, by decide +kernel, by decide +kernel⟩
set_option maxRecDepth 100000 in
theorem q2_X12_outs : mQ2 mt_X12_outs := Or.inr ⟨mGw_of (i := 127) (by decide +kernel) (by decide +kernel), by decide +kernel, Or.inl (by decide +kernel), by decide +kernel, by decide, Or.inr ⟨by decide, mGw_of (i := 1982) (by decide +kernel) (by decide +kernel), mGw_of (i := 1983) (by decide +kernel) (by decide +kernel), by decide +kernel, by decide +kernel⟩⟩
set_option maxRecDepth 100000 in
theorem q1_X12_sleeps : mQ1 mt_X12_sleeps := ⟨by decide +kernel, by decide +kernel, by decide +kernel, by decide +kernel⟩
set_option maxRecDepth 100000 in
theorem q2_X12_sleeps : mQ2 mt_X12_sleeps := Or.inr ⟨mGw_of (i := 127) (by decide +kernel) (by decide +kernel), by decide +kernel, Or.inl (by decide +kernel), by decide +kernel, by decide, Or.inr ⟨by decide, mGw_of (i := 1990) (by decide +kernel) (by decide +kernel), mGw_of (i := 1991) (by decide +kernel) (by decide +kernel), by decide +kernel, by decide +kernel⟩⟩
set_option maxRecDepth 100000 in
theorem q1_X12_comesDown : mQ1 mt_X12_comesDown := ⟨by decide +kernel, by decide +kernel, by decide +kernel, by decide +kernel⟩
set_option maxRecDepth 100000 in
theorem q2_X12_comesDown : mQ2 mt_X12_comesDown := Or.inr ⟨mGw_of (i := 127) (by decide +kernel) (by decide +kernel), by decide +kernel, Or.inl (by decide +kernel), by decide +kernel, by decide, Or.inr ⟨by decide, mGw_of (i := 2003) (by decide +kernel) (by decide +kernel), mGw_of (i := 95) (by decide +kernel) (by decide +kernel), by decide +kernel, by decide +kernel⟩⟩
set_option maxRecDepth 100000 in
theorem q1_X12_cannotFall : mQ1 mt_X12_cannotFall := ⟨by decide +kernel, by decide +kernel, by decide +kernel, by decide +kernel⟩
set_option maxRecDepth 100000 in
theorem q2_X12_cannotFall : mQ2 mt_X12_cannotFall := Or.inr ⟨mGw_of (i := 127) (by decide +kernel) (by decide +kernel), by decide +kernel, Or.inl (by decide +kernel), by decide +kernel, by decide, Or.inr ⟨by decide, mGw_of (i := 1999) (by decide +kernel) (by decide +kernel), mGw_of (i := 94) (by decide +kernel) (by decide +kernel), by decide +kernel, by decide +kernel⟩⟩
set_option maxRecDepth 100000 in
theorem q1_X12_falls : mQ1 mt_X12_falls := ⟨by decide +kernel, by decide +kernel, by decide +kernel, by decide +kernel⟩
set_option maxRecDepth 100000 in
theorem q2_X12_falls : mQ2 mt_X12_falls := Or.inr ⟨mGw_of (i := 127) (by decide +kernel) (by decide +kernel), by decide +kernel, Or.inl (by decide +kernel), by decide +kernel, by decide, Or.inr ⟨by decide, mGw_of (i := 1994) (by decide +kernel) (by decide +kernel), mGw_of (i := 1995) (by decide +kernel) (by decide +kernel), by decide +kernel, by decide +kernel⟩⟩
set_option maxRecDepth 100000 in
theorem q1_X12_rounds : mQ1 mt_X12_rounds := ⟨by decide +kernel, by decide +kernel, by decide +kernel, by decide +kernel⟩
set_option maxRecDepth 100000 in
theorem q2_X12_rounds : mQ2 mt_X12_rounds := Or.inr ⟨mGw_of (i := 127) (by decide +kernel) (by decide +kernel), by decide +kernel, Or.inl (by decide +kernel), by decide +kernel, by decide, Or.inr ⟨by decide, mGw_of (i := 2006) (by decide +kernel) (by decide +kernel), mGw_of (i := 2007) (by decide +kernel) (by decide +kernel), by decide +kernel, by decide +kernel⟩⟩
set_option maxRecDepth 100000 in
theorem q1_X12_fallen : mQ1 mt_X12_fallen := ⟨by decide +kernel, by decide +kernel, by decide +kernel, by decide +kernel⟩
set_option maxRecDepth 100000 in
theorem q2_X12_fallen : mQ2 mt_X12_fallen := Or.inr ⟨mGw_of (i := 127) (by decide +kernel) (by decide +kernel), by decide +kernel, Or.inl (by decide +kernel), by decide +kernel, by decide, Or.inr ⟨by decide, mGw_of (i := 2010) (by decide +kernel) (by decide +kernel), mGw_of (i := 2011) (by decide +kernel) (by decide +kernel), by decide +kernel, by decide +kernel⟩⟩
set_option maxRecDepth 100000 in
theorem q1_X12_key : mQ1 mt_X12_key := ⟨by decide +kernel, by decide +kernel, by decide +kernel, by decide +kernel⟩
set_option maxRecDepth 100000 in
theorem q2_X12_key : mQ2 mt_X12_key := Or.inr ⟨mGw_of (i := 127) (by decide +kernel) (by decide +kernel), by decide +kernel, Or.inl (by decide +kernel), by decide +kernel, by decide, Or.inr ⟨by decide, mGw_of (i := 2014) (by decide +kernel) (by decide +kernel), mGw_of (i := 2015) (by decide +kernel) (by decide +kernel), by decide +kernel, by decide +kernel⟩⟩
set_option maxRecDepth 100000 in
theorem q1_X12_pillars : mQ1 mt_X12_pillars := ⟨by decide +kernel, by decide +kernel, by decide +kernel, by decide +kernel⟩
set_option maxRecDepth 100000 in
theorem q2_X12_pillars : mQ2 mt_X12_pillars := Or.inr ⟨mGw_of (i := 127) (by decide +kernel) (by decide +kernel), by decide +kernel, Or.inl (by decide +kernel), by decide +kernel, by decide, Or.inr ⟨by decide, mGw_of (i := 2018) (by decide +kernel) (by decide +kernel), mGw_of (i := 2019) (by decide +kernel) (by decide +kernel), by decide +kernel, by decide +kernel⟩⟩
set_option maxRecDepth 100000 in
theorem q1_X12_uppermost : mQ1 mt_X12_uppermost := ⟨by decide +kernel, by decide +kernel, by decide +kernel, by decide +kernel⟩
set_option maxRecDepth 100000 in
theorem q2_X12_uppermost : mQ2 mt_X12_uppermost := Or.inr ⟨mGw_of (i := 127) (by decide +kernel) (by decide +kernel), by decide +kernel, Or.inl (by decide +kernel), by decide +kernel, by decide, Or.inr ⟨by decide, mGw_of (i := 2031) (by decide +kernel) (by decide +kernel), mGw_of (i := 97) (by decide +kernel) (by decide +kernel), by decide +kernel, by decide +kernel⟩⟩
set_option maxRecDepth 100000 in
theorem q1_X12_left : mQ1 mt_X12_left := ⟨by decide +kernel, by decide +kernel, by decide +kernel, by decide +kernel⟩
set_option maxRecDepth 100000 in
theorem q2_X12_left : mQ2 mt_X12_left := Or.inr ⟨mGw_of (i := 127) (by decide +kernel) (by decide +kernel), by decide +kernel, Or.inl (by decide +kernel), by decide +kernel, by decide, Or.inr ⟨by decide, mGw_of (i := 2026) (by decide +kernel) (by decide +kernel), mGw_of (i := 2027) (by decide +kernel) (by decide +kernel), by decide +kernel, by decide +kernel⟩⟩
set_option maxRecDepth 100000 in
theorem q1_X12_isGuard : mQ1 mt_X12_isGuard := ⟨by decide +kernel, by decide +kernel, by decide +kernel, by decide +kernel⟩
set_option maxRecDepth 100000 in
theorem q2_X12_isGuard : mQ2 mt_X12_isGuard := Or.inr ⟨mGw_of (i := 127) (by decide +kernel) (by decide +kernel), by decide +kernel, Or.inl (by decide +kernel), by decide +kernel, by decide, Or.inr ⟨by decide, mGw_of (i := 2039) (by decide +kernel) (by decide +kernel), mGw_of (i := 98) (by decide +kernel) (by decide +kernel), by decide +kernel, by decide +kernel⟩⟩
set_option maxRecDepth 100000 in
theorem q1_X12_relieves : mQ1 mt_X12_relieves := ⟨by decide +kernel, by decide +kernel, by decide +kernel, by decide +kernel⟩
set_option maxRecDepth 100000 in
theorem q2_X12_relieves : mQ2 mt_X12_relieves := Or.inr ⟨mGw_of (i := 127) (by decide +kernel) (by decide +kernel), by decide +kernel, Or.inl (by decide +kernel), by decide +kernel, by decide, Or.inr ⟨by decide, mGw_of (i := 2047) (by decide +kernel) (by decide +kernel), mGw_of (i := 100) (by decide +kernel) (by decide +kernel), by decide +kernel, by decide +kernel⟩⟩
set_option maxRecDepth 100000 in
theorem q1_X12_canBe : mQ1 mt_X12_canBe := ⟨by decide +kernel, by decide +kernel, by decide +kernel, by decide +kernel⟩
set_option maxRecDepth 100000 in
theorem q2_X12_canBe : mQ2 mt_X12_canBe := Or.inr ⟨mGw_of (i := 127) (by decide +kernel) (by decide +kernel), by decide +kernel, Or.inl (by decide +kernel), by decide +kernel, by decide, Or.inr ⟨by decide, mGw_of (i := 2043) (by decide +kernel) (by decide +kernel), mGw_of (i := 99) (by decide +kernel) (by decide +kernel), by decide +kernel, by decide +kernel⟩⟩
set_option maxRecDepth 100000 in
theorem q1_X12_guard : mQ1 mt_X12_guard := ⟨by decide +kernel, by decide +kernel, by decide +kernel, by decide +kernel⟩
set_option maxRecDepth 100000 in
theorem q2_X12_guard : mQ2 mt_X12_guard := Or.inr ⟨mGw_of (i := 127) (by decide +kernel) (by decide +kernel), by decide +kernel, Or.inl (by decide +kernel), by decide +kernel, by decide, Or.inr ⟨by decide, mGw_of (i := 2034) (by decide +kernel) (by decide +kernel), mGw_of (i := 2035) (by decide +kernel) (by decide +kernel), by decide +kernel, by decide +kernel⟩⟩
set_option maxRecDepth 100000 in
theorem q1_X12_solo : mQ1 mt_X12_solo := ⟨by decide +kernel, by decide +kernel, by decide +kernel, by decide +kernel⟩
set_option maxRecDepth 100000 in
theorem q2_X12_solo : mQ2 mt_X12_solo := Or.inr ⟨mGw_of (i := 127) (by decide +kernel) (by decide +kernel), by decide +kernel, Or.inl (by decide +kernel), by decide +kernel, by decide, Or.inr ⟨by decide, mGw_of (i := 2050) (by decide +kernel) (by decide +kernel), mGw_of (i := 2051) (by decide +kernel) (by decide +kernel), by decide +kernel, by decide +kernel⟩⟩
set_option maxRecDepth 100000 in
theorem q1_X12_laysSleepers : mQ1 mt_X12_laysSleepers := ⟨by decide +kernel, by decide +kernel, by decide +kernel, by decide +kernel⟩
set_option maxRecDepth 100000 in
theorem q2_X12_laysSleepers : mQ2 mt_X12_laysSleepers := Or.inr ⟨mGw_of (i := 127) (by decide +kernel) (by decide +kernel), by decide +kernel, Or.inl (by decide +kernel), by decide +kernel, by decide, Or.inr ⟨by decide, mGw_of (i := 2063) (by decide +kernel) (by decide +kernel), mGw_of (i := 102) (by decide +kernel) (by decide +kernel), by decide +kernel, by decide +kernel⟩⟩
set_option maxRecDepth 100000 in
theorem q1_X12_feelsSo : mQ1 mt_X12_feelsSo := ⟨by decide +kernel, by decide +kernel, by decide +kernel, by decide +kernel⟩
set_option maxRecDepth 100000 in
theorem q2_X12_feelsSo : mQ2 mt_X12_feelsSo := Or.inr ⟨mGw_of (i := 127) (by decide +kernel) (by decide +kernel), by decide +kernel, Or.inl (by decide +kernel), by decide +kernel, by decide, Or.inr ⟨by decide, mGw_of (i := 2079) (by decide +kernel) (by decide +kernel), mGw_of (i := 106) (by decide +kernel) (by decide +kernel), by decide +kernel, by decide +kernel⟩⟩
set_option maxRecDepth 100000 in
theorem q1_X12_sleepersUp : mQ1 mt_X12_sleepersUp := ⟨by decide +kernel, by decide +kernel, by decide +kernel, by decide +kernel⟩
set_option maxRecDepth 100000 in
theorem q2_X12_sleepersUp : mQ2 mt_X12_sleepersUp := Or.inr ⟨mGw_of (i := 127) (by decide +kernel) (by decide +kernel), by decide +kernel, Or.inl (by decide +kernel), by decide +kernel, by decide, Or.inr ⟨by decide, mGw_of (i := 2071) (by decide +kernel) (by decide +kernel), mGw_of (i := 104) (by decide +kernel) (by decide +kernel), by decide +kernel, by decide +kernel⟩⟩
set_option maxRecDepth 100000 in
theorem q1_X12_cannotFeel : mQ1 mt_X12_cannotFeel := ⟨by decide +kernel, by decide +kernel, by decide +kernel, by decide +kernel⟩
set_option maxRecDepth 100000 in
theorem q2_X12_cannotFeel : mQ2 mt_X12_cannotFeel := Or.inr ⟨mGw_of (i := 127) (by decide +kernel) (by decide +kernel), by decide +kernel, Or.inl (by decide +kernel), by decide +kernel, by decide, Or.inr ⟨by decide, mGw_of (i := 2059) (by decide +kernel) (by decide +kernel), mGw_of (i := 101) (by decide +kernel) (by decide +kernel), by decide +kernel, by decide +kernel⟩⟩
