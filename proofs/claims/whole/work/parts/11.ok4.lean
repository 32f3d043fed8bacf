set_option maxRecDepth 100000 in
theorem q3_J6_bitCount_0f7a4 : mQ3 10 := Or.inr ⟨mGw_of (i := 532) (by decide +kernel) (by decide +kernel), by decide +kernel⟩
set_option maxRecDepth 100000 in
theorem q3_J9_floorMod_7cf53 : mQ3 11 := Or.inr ⟨mGw_of (i := 1486) (by decide +kernel) (by decide +kernel), by decide +kernel⟩
set_option maxRecDepth 100000 in
theorem q3_X0_copyFrom : mQ3 12 := Or.inr ⟨mGw_of (i := 734) (by decide +kernel) (by decide +kernel), by decide +kernel⟩
set_option maxRecDepth 100000 in
theorem q3_X0_clear : mQ3 13 := Or.inr ⟨mGw_of (i := 1007) (by decide +kernel) (by decide +kernel), by decide +kernel⟩
set_option maxRecDepth 100000 in
theorem q3_X0_addStep : mQ3 14 := Or.inr ⟨mGw_of (i := 1032) (by decide +kernel) (by decide +kernel), by decide +kernel⟩
set_option maxRecDepth 100000 in
theorem q3_X0_endLine : mQ3 15 := Or.inr ⟨mGw_of (i := 1056) (by decide +kernel) (by decide +kernel), by decide +kernel⟩
set_option maxRecDepth 100000 in
theorem q3_X0_amountOf : mQ3 16 := Or.inr ⟨mGw_of (i := 683) (by decide +kernel) (by decide +kernel), by decide +kernel⟩
set_option maxRecDepth 100000 in
theorem q3_X0_untold : mQ3 17 := Or.inr ⟨mGw_of (i := 686) (by decide +kernel) (by decide +kernel), by decide +kernel⟩
set_option maxRecDepth 100000 in
theorem q3_X0_holdsFor : mQ3 18 := Or.inr ⟨mGw_of (i := 692) (by decide +kernel) (by decide +kernel), by decide +kernel⟩
set_option maxRecDepth 100000 in
theorem q3_X0_ofTwo : mQ3 19 := Or.inr ⟨mGw_of (i := 698) (by decide +kernel) (by decide +kernel), by decide +kernel⟩
set_option maxRecDepth 100000 in
theorem q3_X0_ofOne : mQ3 20 := Or.inr ⟨mGw_of (i := 701) (by decide +kernel) (by decide +kernel), by decide +kernel⟩
set_option maxRecDepth 100000 in
theorem q3_X1_read : mQ3 21 := Or.inr ⟨mGw_of (i := 1002) (by decide +kernel) (by decide +kernel), by decide +kernel⟩
set_option maxRecDepth 100000 in
theorem q3_X1_readLine : mQ3 22 := Or.inr ⟨mGw_of (i := 1011) (by decide +kernel) (by decide +kernel), by decide +kernel⟩
set_option maxRecDepth 100000 in
theorem q3_X1_readAny : mQ3 23 := Or.inr ⟨mGw_of (i := 1021) (by decide +kernel) (by decide +kernel), by decide +kernel⟩
set_option maxRecDepth 100000 in
theorem q3_X1_readAll : mQ3 24 := Or.inr ⟨mGw_of (i := 1024) (by decide +kernel) (by decide +kernel), by decide +kernel⟩
set_option maxRecDepth 100000 in
theorem q3_X1_readAtom : mQ3 25 := Or.inr ⟨mGw_of (i := 1027) (by decide +kernel) (by decide +kernel), by decide +kernel⟩
set_option maxRecDepth 100000 in
theorem q3_X1_readSum : mQ3 26 := Or.inr ⟨mGw_of (i := 1040) (by decide +kernel) (by decide +kernel), by decide +kernel⟩
set_option maxRecDepth 100000 in
theorem q3_X1_readPart : mQ3 27 := Or.inr ⟨mGw_of (i := 1043) (by decide +kernel) (by decide +kernel), by decide +kernel⟩
set_option maxRecDepth 100000 in
theorem q3_X2_copyFrom : mQ3 28 := Or.inr ⟨mGw_of (i := 562) (by decide +kernel) (by decide +kernel), by decide +kernel⟩
set_option maxRecDepth 100000 in
theorem q3_X2_add : mQ3 29 := Or.inr ⟨mGw_of (i := 580) (by decide +kernel) (by decide +kernel), by decide +kernel⟩
set_option maxRecDepth 100000 in
theorem q3_X2_at : mQ3 30 := Or.inr ⟨mGw_of (i := 1483) (by decide +kernel) (by decide +kernel), by decide +kernel⟩
set_option maxRecDepth 100000 in
theorem q3_X2_rowsOf : mQ3 31 := Or.inr ⟨mGw_of (i := 1490) (by decide +kernel) (by decide +kernel), by decide +kernel⟩
set_option maxRecDepth 100000 in
theorem q3_X2_latestDay : mQ3 32 := Or.inr ⟨mGw_of (i := 1479) (by decide +kernel) (by decide +kernel), by decide +kernel⟩
set_option maxRecDepth 100000 in
theorem q3_X3_forget : mQ3 33 := Or.inr ⟨mGw_of (i := 743) (by decide +kernel) (by decide +kernel), by decide +kernel⟩
set_option maxRecDepth 100000 in
theorem q3_X3_remember : mQ3 34 := Or.inr ⟨mGw_of (i := 1122) (by decide +kernel) (by decide +kernel), by decide +kernel⟩
set_option maxRecDepth 100000 in
theorem q3_X3_recall : mQ3 35 := Or.inr ⟨mGw_of (i := 725) (by decide +kernel) (by decide +kernel), by decide +kernel⟩
set_option maxRecDepth 100000 in
theorem q3_X4_read : mQ3 36 := Or.inr ⟨mGw_of (i := 1260) (by decide +kernel) (by decide +kernel), by decide +kernel⟩
set_option maxRecDepth 100000 in
theorem q3_X4_tellOne : mQ3 37 := Or.inr ⟨mGw_of (i := 1267) (by decide +kernel) (by decide +kernel), by decide +kernel⟩
set_option maxRecDepth 100000 in
theorem q3_X4_standsAfter : mQ3 38 := Or.inr ⟨mGw_of (i := 1284) (by decide +kernel) (by decide +kernel), by decide +kernel⟩
set_option maxRecDepth 100000 in
theorem q3_X4_firstRows : mQ3 39 := Or.inr ⟨mGw_of (i := 1299) (by decide +kernel) (by decide +kernel), by decide +kernel⟩
set_option maxRecDepth 100000 in
theorem q3_X4_rowOf : mQ3 40 := Or.inr ⟨mGw_of (i := 1271) (by decide +kernel) (by decide +kernel), by decide +kernel⟩
set_option maxRecDepth 100000 in
theorem q3_X4_findGoesOn : mQ3 41 := Or.inr ⟨mGw_of (i := 1275) (by decide +kernel) (by decide +kernel), by decide +kernel⟩
set_option maxRecDepth 100000 in
theorem q3_X4_nextRow : mQ3 42 := Or.inr ⟨mGw_of (i := 1280) (by decide +kernel) (by decide +kernel), by decide +kernel⟩
set_option maxRecDepth 100000 in
theorem q3_X5_places : mQ3 43 := Or.inr ⟨mGw_of (i := 622) (by decide +kernel) (by decide +kernel), by decide +kernel⟩
set_option maxRecDepth 100000 in
theorem q3_X5_sumUp : mQ3 44 := Or.inr ⟨mGw_of (i := 626) (by decide +kernel) (by decide +kernel), by decide +kernel⟩
set_option maxRecDepth 100000 in
theorem q3_X5_fillHour : mQ3 45 := Or.inr ⟨mGw_of (i := 631) (by decide +kernel) (by decide +kernel), by decide +kernel⟩
set_option maxRecDepth 100000 in
theorem q3_X5_fewestOf : mQ3 46 := Or.inr ⟨mGw_of (i := 641) (by decide +kernel) (by decide +kernel), by decide +kernel⟩
set_option maxRecDepth 100000 in
theorem q3_X5_costOf : mQ3 47 := Or.inr ⟨mGw_of (i := 635) (by decide +kernel) (by decide +kernel), by decide +kernel⟩
set_option maxRecDepth 100000 in
theorem q3_X5_setOf : mQ3 48 := Or.inr ⟨mGw_of (i := 1404) (by decide +kernel) (by decide +kernel), by decide +kernel⟩
set_option maxRecDepth 100000 in
theorem q3_X5_leastSet : mQ3 49 := Or.inr ⟨mGw_of (i := 1408) (by decide +kernel) (by decide +kernel), by decide +kernel⟩
set_option maxRecDepth 100000 in
theorem q3_X6_gather : mQ3 50 := Or.inr ⟨mGw_of (i := 1314) (by decide +kernel) (by decide +kernel), by decide +kernel⟩
set_option maxRecDepth 100000 in
theorem q3_X6_keep : mQ3 51 := Or.inr ⟨mGw_of (i := 1322) (by decide +kernel) (by decide +kernel), by decide +kernel⟩
set_option maxRecDepth 100000 in
theorem q3_X6_asleepInAll : mQ3 52 := Or.inr ⟨mGw_of (i := 1334) (by decide +kernel) (by decide +kernel), by decide +kernel⟩
set_option maxRecDepth 100000 in
theorem q3_X6_asleepInSome : mQ3 53 := Or.inr ⟨mGw_of (i := 1345) (by decide +kernel) (by decide +kernel), by decide +kernel⟩
set_option maxRecDepth 100000 in
theorem q3_X6_bestToAsk : mQ3 54 := Or.inr ⟨mGw_of (i := 1363) (by decide +kernel) (by decide +kernel), by decide +kernel⟩
set_option maxRecDepth 100000 in
theorem q3_X6_greatestPart : mQ3 55 := Or.inr ⟨mGw_of (i := 1368) (by decide +kernel) (by decide +kernel), by decide +kernel⟩
set_option maxRecDepth 100000 in
theorem q3_X7_hasRoom : mQ3 56 := Or.inr ⟨mGw_of (i := 458) (by decide +kernel) (by decide +kernel), by decide +kernel⟩
set_option maxRecDepth 100000 in
theorem q3_X7_append : mQ3 57 := Or.inr ⟨mGw_of (i := 462) (by decide +kernel) (by decide +kernel), by decide +kernel⟩
set_option maxRecDepth 100000 in
theorem q3_X7_byteAt : mQ3 58 := Or.inr ⟨mGw_of (i := 801) (by decide +kernel) (by decide +kernel), by decide +kernel⟩
set_option maxRecDepth 100000 in
theorem q3_X7_rewind : mQ3 59 := Or.inr ⟨mGw_of (i := 771) (by decide +kernel) (by decide +kernel), by decide +kernel⟩
set_option maxRecDepth 100000 in
theorem q3_X7_moveTo : mQ3 60 := Or.inr ⟨mGw_of (i := 775) (by decide +kernel) (by decide +kernel), by decide +kernel⟩
set_option maxRecDepth 100000 in
theorem q3_X7_ended : mQ3 61 := Or.inr ⟨mGw_of (i := 779) (by decide +kernel) (by decide +kernel), by decide +kernel⟩
set_option maxRecDepth 100000 in
theorem q3_X7_wrong : mQ3 62 := Or.inr ⟨mGw_of (i := 852) (by decide +kernel) (by decide +kernel), by decide +kernel⟩
set_option maxRecDepth 100000 in
theorem q3_X7_isLetter : mQ3 63 := Or.inr ⟨mGw_of (i := 882) (by decide +kernel) (by decide +kernel), by decide +kernel⟩
set_option maxRecDepth 100000 in
theorem q3_X7_takes : mQ3 64 := Or.inr ⟨mGw_of (i := 787) (by decide +kernel) (by decide +kernel), by decide +kernel⟩
set_option maxRecDepth 100000 in
theorem q3_X7_must : mQ3 65 := Or.inr ⟨mGw_of (i := 847) (by decide +kernel) (by decide +kernel), by decide +kernel⟩
set_option maxRecDepth 100000 in
theorem q3_X7_takesSign : mQ3 66 := Or.inr ⟨mGw_of (i := 904) (by decide +kernel) (by decide +kernel), by decide +kernel⟩
set_option maxRecDepth 100000 in
theorem q3_X7_mustSign : mQ3 67 := Or.inr ⟨mGw_of (i := 900) (by decide +kernel) (by decide +kernel), by decide +kernel⟩
set_option maxRecDepth 100000 in
theorem q3_X7_number : mQ3 68 := Or.inr ⟨mGw_of (i := 856) (by decide +kernel) (by decide +kernel), by decide +kernel⟩
set_option maxRecDepth 100000 in
theorem q3_X7_letters : mQ3 69 := Or.inr ⟨mGw_of (i := 878) (by decide +kernel) (by decide +kernel), by decide +kernel⟩
set_option maxRecDepth 100000 in
theorem q3_X8_touched : mQ3 70 := Or.inr ⟨mGw_of (i := 609) (by decide +kernel) (by decide +kernel), by decide +kernel⟩
set_option maxRecDepth 100000 in
theorem q3_X8_steps : mQ3 71 := Or.inr ⟨mGw_of (i := 603) (by decide +kernel) (by decide +kernel), by decide +kernel⟩
set_option maxRecDepth 100000 in
theorem q3_X8_reached : mQ3 72 := Or.inr ⟨mGw_of (i := 1393) (by decide +kernel) (by decide +kernel), by decide +kernel⟩
set_option maxRecDepth 100000 in
theorem q3_X9_copyFrom : mQ3 73 := Or.inr ⟨mGw_of (i := 555) (by decide +kernel) (by decide +kernel), by decide +kernel⟩
set_option maxRecDepth 100000 in
theorem q3_X9_isPerson : mQ3 74 := Or.inr ⟨mGw_of (i := 870) (by decide +kernel) (by decide +kernel), by decide +kernel⟩
set_option maxRecDepth 100000 in
theorem q3_X9_everyone : mQ3 75 := Or.inr ⟨mGw_of (i := 618) (by decide +kernel) (by decide +kernel), by decide +kernel⟩
set_option maxRecDepth 100000 in
theorem q3_X9_holders : mQ3 76 := Or.inr ⟨mGw_of (i := 505) (by decide +kernel) (by decide +kernel), by decide +kernel⟩
set_option maxRecDepth 100000 in
theorem q3_X9_inRing : mQ3 77 := Or.inr ⟨mGw_of (i := 485) (by decide +kernel) (by decide +kernel), by decide +kernel⟩
set_option maxRecDepth 100000 in
theorem q3_X9_uppermost : mQ3 78 := Or.inr ⟨mGw_of (i := 497) (by decide +kernel) (by decide +kernel), by decide +kernel⟩
set_option maxRecDepth 100000 in
theorem q3_X9_spare : mQ3 79 := Or.inr ⟨mGw_of (i := 509) (by decide +kernel) (by decide +kernel), by decide +kernel⟩
set_option maxRecDepth 100000 in
theorem q3_X9_borneByAll : mQ3 80 := Or.inr ⟨mGw_of (i := 751) (by decide +kernel) (by decide +kernel), by decide +kernel⟩
set_option maxRecDepth 100000 in
theorem q3_X9_strengthOfAll : mQ3 81 := Or.inr ⟨mGw_of (i := 755) (by decide +kernel) (by decide +kernel), by decide +kernel⟩
set_option maxRecDepth 100000 in
theorem q3_X9_addPerson : mQ3 82 := Or.inr ⟨mGw_of (i := 861) (by decide +kernel) (by decide +kernel), by decide +kernel⟩
set_option maxRecDepth 100000 in
theorem q3_X9_fitsRing : mQ3 83 := Or.inr ⟨mGw_of (i := 1139) (by decide +kernel) (by decide +kernel), by decide +kernel⟩
set_option maxRecDepth 100000 in
theorem q3_X9_bringUp : mQ3 84 := Or.inr ⟨mGw_of (i := 888) (by decide +kernel) (by decide +kernel), by decide +kernel⟩
set_option maxRecDepth 100000 in
theorem q3_X9_takeDown : mQ3 85 := Or.inr ⟨mGw_of (i := 567) (by decide +kernel) (by decide +kernel), by decide +kernel⟩
set_option maxRecDepth 100000 in
theorem q3_X9_canSwap : mQ3 86 := Or.inr ⟨mGw_of (i := 1188) (by decide +kernel) (by decide +kernel), by decide +kernel⟩
set_option maxRecDepth 100000 in
theorem q3_X9_swap : mQ3 87 := Or.inr ⟨mGw_of (i := 1192) (by decide +kernel) (by decide +kernel), by decide +kernel⟩
set_option maxRecDepth 100000 in
theorem q3_X9_settle : mQ3 88 := Or.inr ⟨mGw_of (i := 575) (by decide +kernel) (by decide +kernel), by decide +kernel⟩
set_option maxRecDepth 100000 in
theorem q3_X9_carry : mQ3 89 := Or.inr ⟨mGw_of (i := 526) (by decide +kernel) (by decide +kernel), by decide +kernel⟩
set_option maxRecDepth 100000 in
theorem q3_X9_shareOut : mQ3 90 := Or.inr ⟨mGw_of (i := 529) (by decide +kernel) (by decide +kernel), by decide +kernel⟩
set_option maxRecDepth 100000 in
theorem q3_X9_hanging : mQ3 91 := Or.inr ⟨mGw_of (i := 522) (by decide +kernel) (by decide +kernel), by decide +kernel⟩
set_option maxRecDepth 100000 in
theorem q3_X9_yielding : mQ3 92 := Or.inr ⟨mGw_of (i := 539) (by decide +kernel) (by decide +kernel), by decide +kernel⟩
set_option maxRecDepth 100000 in
theorem q3_X9_stands : mQ3 93 := Or.inr ⟨mGw_of (i := 518) (by decide +kernel) (by decide +kernel), by decide +kernel⟩
set_option maxRecDepth 100000 in
theorem q3_X9_collapse : mQ3 94 := Or.inr ⟨mGw_of (i := 571) (by decide +kernel) (by decide +kernel), by decide +kernel⟩
set_option maxRecDepth 100000 in
theorem q3_X9_passHours : mQ3 95 := Or.inr ⟨mGw_of (i := 671) (by decide +kernel) (by decide +kernel), by decide +kernel⟩
set_option maxRecDepth 100000 in
theorem q3_X9_passHour : mQ3 96 := Or.inr ⟨mGw_of (i := 675) (by decide +kernel) (by decide +kernel), by decide +kernel⟩
set_option maxRecDepth 100000 in
theorem q3_X9_fadeAndMend : mQ3 97 := Or.inr ⟨mGw_of (i := 679) (by decide +kernel) (by decide +kernel), by decide +kernel⟩
set_option maxRecDepth 100000 in
theorem q3_X9_drawSleep : mQ3 98 := Or.inr ⟨mGw_of (i := 707) (by decide +kernel) (by decide +kernel), by decide +kernel⟩
set_option maxRecDepth 100000 in
theorem q3_X9_draw : mQ3 99 := Or.inr ⟨mGw_of (i := 711) (by decide +kernel) (by decide +kernel), by decide +kernel⟩
set_option maxRecDepth 100000 in
theorem q3_X10_read : mQ3 100 := Or.inr ⟨mGw_of (i := 767) (by decide +kernel) (by decide +kernel), by decide +kernel⟩
set_option maxRecDepth 100000 in
theorem q3_X10_readLine : mQ3 101 := Or.inr ⟨mGw_of (i := 782) (by decide +kernel) (by decide +kernel), by decide +kernel⟩
set_option maxRecDepth 100000 in
theorem q3_X10_readPerson : mQ3 102 := Or.inr ⟨mGw_of (i := 842) (by decide +kernel) (by decide +kernel), by decide +kernel⟩
set_option maxRecDepth 100000 in
theorem q3_X10_readUp : mQ3 103 := Or.inr ⟨mGw_of (i := 866) (by decide +kernel) (by decide +kernel), by decide +kernel⟩
set_option maxRecDepth 100000 in
theorem q3_X10_readAsleep : mQ3 104 := Or.inr ⟨mGw_of (i := 892) (by decide +kernel) (by decide +kernel), by decide +kernel⟩
set_option maxRecDepth 100000 in
theorem q3_X11_feed : mQ3 105 := Or.inr ⟨mGw_of (i := 454) (by decide +kernel) (by decide +kernel), by decide +kernel⟩
set_option maxRecDepth 100000 in
theorem q3_X11_end : mQ3 106 := Or.inr ⟨mGw_of (i := 466) (by decide +kernel) (by decide +kernel), by decide +kernel⟩
set_option maxRecDepth 100000 in
theorem q3_X11_tower : mQ3 107 := Or.inr ⟨mGw_of (i := 764) (by decide +kernel) (by decide +kernel), by decide +kernel⟩
set_option maxRecDepth 100000 in
theorem q3_X11_law : mQ3 108 := Or.inr ⟨mGw_of (i := 999) (by decide +kernel) (by decide +kernel), by decide +kernel⟩
set_option maxRecDepth 100000 in
theorem q3_X11_fault : mQ3 109 := Or.inr ⟨mGw_of (i := 470) (by decide +kernel) (by decide +kernel), by decide +kernel⟩
set_option maxRecDepth 100000 in
theorem q3_X11_person : mQ3 110 := Or.inr ⟨mGw_of (i := 1065) (by decide +kernel) (by decide +kernel), by decide +kernel⟩
set_option maxRecDepth 100000 in
theorem q3_X11_shareOf : mQ3 111 := Or.inr ⟨mGw_of (i := 1091) (by decide +kernel) (by decide +kernel), by decide +kernel⟩
set_option maxRecDepth 100000 in
theorem q3_X11_hours : mQ3 112 := Or.inr ⟨mGw_of (i := 1114) (by decide +kernel) (by decide +kernel), by decide +kernel⟩
set_option maxRecDepth 100000 in
theorem q3_X11_rise : mQ3 113 := Or.inr ⟨mGw_of (i := 1131) (by decide +kernel) (by decide +kernel), by decide +kernel⟩
set_option maxRecDepth 100000 in
theorem q3_X11_out : mQ3 114 := Or.inr ⟨mGw_of (i := 1173) (by decide +kernel) (by decide +kernel), by decide +kernel⟩
set_option maxRecDepth 100000 in
theorem q3_X11_relieve : mQ3 115 := Or.inr ⟨mGw_of (i := 1184) (by decide +kernel) (by decide +kernel), by decide +kernel⟩
set_option maxRecDepth 100000 in
theorem q3_X11_lean : mQ3 116 := Or.inr ⟨mGw_of (i := 1200) (by decide +kernel) (by decide +kernel), by decide +kernel⟩
set_option maxRecDepth 100000 in
theorem q3_X11_wake : mQ3 117 := Or.inr ⟨mGw_of (i := 1207) (by decide +kernel) (by decide +kernel), by decide +kernel⟩
set_option maxRecDepth 100000 in
theorem q3_X11_sleep : mQ3 118 := Or.inr ⟨mGw_of (i := 1214) (by decide +kernel) (by decide +kernel), by decide +kernel⟩
set_option maxRecDepth 100000 in
theorem q3_X11_need : mQ3 119 := Or.inr ⟨mGw_of (i := 1221) (by decide +kernel) (by decide +kernel), by decide +kernel⟩
set_option maxRecDepth 100000 in
theorem q3_X11_keepNext : mQ3 120 := Or.inr ⟨mGw_of (i := 1165) (by decide +kernel) (by decide +kernel), by decide +kernel⟩
set_option maxRecDepth 100000 in
theorem q3_X11_total : mQ3 121 := Or.inr ⟨mGw_of (i := 474) (by decide +kernel) (by decide +kernel), by decide +kernel⟩
set_option maxRecDepth 100000 in
theorem q3_X11_ground : mQ3 122 := Or.inr ⟨mGw_of (i := 481) (by decide +kernel) (by decide +kernel), by decide +kernel⟩
set_option maxRecDepth 100000 in
theorem q3_X11_height : mQ3 123 := Or.inr ⟨mGw_of (i := 493) (by decide +kernel) (by decide +kernel), by decide +kernel⟩
set_option maxRecDepth 100000 in
theorem q3_X11_weakest : mQ3 124 := Or.inr ⟨mGw_of (i := 501) (by decide +kernel) (by decide +kernel), by decide +kernel⟩
set_option maxRecDepth 100000 in
theorem q3_X11_more : mQ3 125 := Or.inr ⟨mGw_of (i := 1228) (by decide +kernel) (by decide +kernel), by decide +kernel⟩
set_option maxRecDepth 100000 in
theorem q3_X11_outs : mQ3 126 := Or.inr ⟨mGw_of (i := 513) (by decide +kernel) (by decide +kernel), by decide +kernel⟩
set_option maxRecDepth 100000 in
theorem q3_X11_sleeps : mQ3 127 := Or.inr ⟨mGw_of (i := 543) (by decide +kernel) (by decide +kernel), by decide +kernel⟩
set_option maxRecDepth 100000 in
theorem q3_X11_falls : mQ3 128 := Or.inr ⟨mGw_of (i := 1235) (by decide +kernel) (by decide +kernel), by decide +kernel⟩
set_option maxRecDepth 100000 in
theorem q3_X11_rounds : mQ3 129 := Or.inr ⟨mGw_of (i := 1242) (by decide +kernel) (by decide +kernel), by decide +kernel⟩
set_option maxRecDepth 100000 in
theorem q3_X11_fallen : mQ3 130 := Or.inr ⟨mGw_of (i := 1249) (by decide +kernel) (by decide +kernel), by decide +kernel⟩
set_option maxRecDepth 100000 in
theorem q3_X11_fallOf : mQ3 131 := Or.inr ⟨mGw_of (i := 551) (by decide +kernel) (by decide +kernel), by decide +kernel⟩
set_option maxRecDepth 100000 in
theorem q3_X11_key : mQ3 132 := Or.inr ⟨mGw_of (i := 547) (by decide +kernel) (by decide +kernel), by decide +kernel⟩
set_option maxRecDepth 100000 in
theorem q3_X11_pillars : mQ3 133 := Or.inr ⟨mGw_of (i := 588) (by decide +kernel) (by decide +kernel), by decide +kernel⟩
set_option maxRecDepth 100000 in
theorem q3_X11_left : mQ3 134 := Or.inr ⟨mGw_of (i := 595) (by decide +kernel) (by decide +kernel), by decide +kernel⟩
set_option maxRecDepth 100000 in
theorem q3_X11_guard : mQ3 135 := Or.inr ⟨mGw_of (i := 1256) (by decide +kernel) (by decide +kernel), by decide +kernel⟩
set_option maxRecDepth 100000 in
theorem q3_X11_solo : mQ3 136 := Or.inr ⟨mGw_of (i := 1295) (by decide +kernel) (by decide +kernel), by decide +kernel⟩
set_option maxRecDepth 100000 in
theorem q3_X11_feels : mQ3 137 := Or.inr ⟨mGw_of (i := 1306) (by decide +kernel) (by decide +kernel), by decide +kernel⟩
set_option maxRecDepth 100000 in
theorem q3_X11_sure : mQ3 138 := Or.inr ⟨mGw_of (i := 1330) (by decide +kernel) (by decide +kernel), by decide +kernel⟩
set_option maxRecDepth 100000 in
theorem q3_X11_free : mQ3 139 := Or.inr ⟨mGw_of (i := 1341) (by decide +kernel) (by decide +kernel), by decide +kernel⟩
set_option maxRecDepth 100000 in
theorem q3_X11_both : mQ3 140 := Or.inr ⟨mGw_of (i := 1352) (by decide +kernel) (by decide +kernel), by decide +kernel⟩
set_option maxRecDepth 100000 in
theorem q3_X11_ask : mQ3 141 := Or.inr ⟨mGw_of (i := 1359) (by decide +kernel) (by decide +kernel), by decide +kernel⟩
set_option maxRecDepth 100000 in
theorem q3_X11_pushes : mQ3 142 := Or.inr ⟨mGw_of (i := 1376) (by decide +kernel) (by decide +kernel), by decide +kernel⟩
set_option maxRecDepth 100000 in
theorem q3_X11_tell : mQ3 143 := Or.inr ⟨mGw_of (i := 1383) (by decide +kernel) (by decide +kernel), by decide +kernel⟩
set_option maxRecDepth 100000 in
theorem q3_X11_herald : mQ3 144 := Or.inr ⟨mGw_of (i := 600) (by decide +kernel) (by decide +kernel), by decide +kernel⟩
set_option maxRecDepth 100000 in
theorem q3_X11_cuts : mQ3 145 := Or.inr ⟨mGw_of (i := 1390) (by decide +kernel) (by decide +kernel), by decide +kernel⟩
set_option maxRecDepth 100000 in
theorem q3_X11_roster : mQ3 146 := Or.inr ⟨mGw_of (i := 1400) (by decide +kernel) (by decide +kernel), by decide +kernel⟩
set_option maxRecDepth 100000 in
theorem q3_X11_pairs : mQ3 147 := Or.inr ⟨mGw_of (i := 1415) (by decide +kernel) (by decide +kernel), by decide +kernel⟩
set_option maxRecDepth 100000 in
theorem q3_X11_dearest : mQ3 148 := Or.inr ⟨mGw_of (i := 614) (by decide +kernel) (by decide +kernel), by decide +kernel⟩
set_option maxRecDepth 100000 in
theorem q3_X11_rests : mQ3 149 := Or.inr ⟨mGw_of (i := 1422) (by decide +kernel) (by decide +kernel), by decide +kernel⟩
set_option maxRecDepth 100000 in
theorem q3_X11_firstHas : mQ3 150 := Or.inr ⟨mGw_of (i := 1425) (by decide +kernel) (by decide +kernel), by decide +kernel⟩
set_option maxRecDepth 100000 in
theorem q3_X11_secondHas : mQ3 151 := Or.inr ⟨mGw_of (i := 1429) (by decide +kernel) (by decide +kernel), by decide +kernel⟩
set_option maxRecDepth 100000 in
theorem q3_X11_odds : mQ3 152 := Or.inr ⟨mGw_of (i := 1436) (by decide +kernel) (by decide +kernel), by decide +kernel⟩
set_option maxRecDepth 100000 in
theorem q3_X11_alone : mQ3 153 := Or.inr ⟨mGw_of (i := 647) (by decide +kernel) (by decide +kernel), by decide +kernel⟩
set_option maxRecDepth 100000 in
theorem q3_X11_tired : mQ3 154 := Or.inr ⟨mGw_of (i := 651) (by decide +kernel) (by decide +kernel), by decide +kernel⟩
set_option maxRecDepth 100000 in
theorem q3_X11_twins : mQ3 155 := Or.inr ⟨mGw_of (i := 655) (by decide +kernel) (by decide +kernel), by decide +kernel⟩
set_option maxRecDepth 100000 in
theorem q3_X11_ring : mQ3 156 := Or.inr ⟨mGw_of (i := 1444) (by decide +kernel) (by decide +kernel), by decide +kernel⟩
set_option maxRecDepth 100000 in
theorem q3_X11_reserves : mQ3 157 := Or.inr ⟨mGw_of (i := 659) (by decide +kernel) (by decide +kernel), by decide +kernel⟩
set_option maxRecDepth 100000 in
theorem q3_X11_sleepers : mQ3 158 := Or.inr ⟨mGw_of (i := 663) (by decide +kernel) (by decide +kernel), by decide +kernel⟩
set_option maxRecDepth 100000 in
theorem q3_X11_soon : mQ3 159 := Or.inr ⟨mGw_of (i := 667) (by decide +kernel) (by decide +kernel), by decide +kernel⟩
set_option maxRecDepth 100000 in
theorem q3_X11_ahead : mQ3 160 := Or.inr ⟨mGw_of (i := 1451) (by decide +kernel) (by decide +kernel), by decide +kernel⟩
set_option maxRecDepth 100000 in
theorem q3_X11_trial : mQ3 161 := Or.inr ⟨mGw_of (i := 1461) (by decide +kernel) (by decide +kernel), by decide +kernel⟩
set_option maxRecDepth 100000 in
theorem q3_X11_span : mQ3 162 := Or.inr ⟨mGw_of (i := 1468) (by decide +kernel) (by decide +kernel), by decide +kernel⟩
set_option maxRecDepth 100000 in
theorem q3_X11_led : mQ3 163 := Or.inr ⟨mGw_of (i := 1475) (by decide +kernel) (by decide +kernel), by decide +kernel⟩
set_option maxRecDepth 100000 in
theorem q3_X11_log : mQ3 164 := Or.inr ⟨mGw_of (i := 1497) (by decide +kernel) (by decide +kernel), by decide +kernel⟩
set_option maxRecDepth 100000 in
theorem q3_X11_seed : mQ3 165 := Or.inr ⟨mGw_of (i := 717) (by decide +kernel) (by decide +kernel), by decide +kernel⟩
set_option maxRecDepth 100000 in
theorem q3_X11_undo : mQ3 166 := Or.inr ⟨mGw_of (i := 721) (by decide +kernel) (by decide +kernel), by decide +kernel⟩
set_option maxRecDepth 100000 in
theorem q3_X11_image : mQ3 167 := Or.inr ⟨mGw_of (i := 730) (by decide +kernel) (by decide +kernel), by decide +kernel⟩
set_option maxRecDepth 100000 in
theorem q3_X11_back : mQ3 168 := Or.inr ⟨mGw_of (i := 739) (by decide +kernel) (by decide +kernel), by decide +kernel⟩
set_option maxRecDepth 100000 in
theorem q3_X11_count : mQ3 169 := Or.inr ⟨mGw_of (i := 747) (by decide +kernel) (by decide +kernel), by decide +kernel⟩
set_option maxRecDepth 100000 in
theorem q3_X11_mustBePerson : mQ3 170 := Or.inr ⟨mGw_of (i := 1069) (by decide +kernel) (by decide +kernel), by decide +kernel⟩
set_option maxRecDepth 100000 in
theorem q3_X11_mustBeRing : mQ3 171 := Or.inr ⟨mGw_of (i := 1134) (by decide +kernel) (by decide +kernel), by decide +kernel⟩
set_option maxRecDepth 100000 in
theorem q3_X11_mustBeOne : mQ3 172 := Or.inr ⟨mGw_of (i := 1117) (by decide +kernel) (by decide +kernel), by decide +kernel⟩
set_option maxRecDepth 100000 in
theorem q3_X11_mustBeSo : mQ3 173 := Or.inr ⟨mGw_of (i := 1144) (by decide +kernel) (by decide +kernel), by decide +kernel⟩
set_option maxRecDepth 100000 in
theorem q3_X11_mustBeLookAhead : mQ3 174 := Or.inr ⟨mGw_of (i := 1454) (by decide +kernel) (by decide +kernel), by decide +kernel⟩
set_option maxRecDepth 100000 in
theorem q3_X11_mustBeUp : mQ3 175 := Or.inr ⟨mGw_of (i := 1177) (by decide +kernel) (by decide +kernel), by decide +kernel⟩
set_option maxRecDepth 100000 in
theorem q3_X11_mustHold : mQ3 176 := Or.inr ⟨mGw_of (i := 1310) (by decide +kernel) (by decide +kernel), by decide +kernel⟩
set_option maxRecDepth 100000 in
theorem q3_X11_bit : mQ3 177 := Or.inr ⟨mGw_of (i := 489) (by decide +kernel) (by decide +kernel), by decide +kernel⟩
set_option maxRecDepth 100000 in
theorem q3_X11_has : mQ3 178 := Or.inr ⟨mGw_of (i := 477) (by decide +kernel) (by decide +kernel), by decide +kernel⟩
set_option maxRecDepth 100000 in
theorem q3_X11_within : mQ3 179 := Or.inr ⟨mGw_of (i := 591) (by decide +kernel) (by decide +kernel), by decide +kernel⟩
set_option maxRecDepth 100000 in
theorem q3_X12_thrown : mQ3 180 := Or.inr ⟨mGw_of (i := 1502) (by decide +kernel) (by decide +kernel), by decide +kernel⟩
set_option maxRecDepth 100000 in
theorem q3_X12_throwsIf : mQ3 181 := Or.inr ⟨mGw_of (i := 1805) (by decide +kernel) (by decide +kernel), by decide +kernel⟩
set_option maxRecDepth 100000 in
theorem q3_X12_in : mQ3 182 := Or.inr ⟨mGw_of (i := 1820) (by decide +kernel) (by decide +kernel), by decide +kernel⟩
set_option maxRecDepth 100000 in
theorem q3_X12_has : mQ3 183 := Or.inr ⟨mGw_of (i := 1696) (by decide +kernel) (by decide +kernel), by decide +kernel⟩
set_option maxRecDepth 100000 in
theorem q3_X12_image : mQ3 184 := Or.inr ⟨mGw_of (i := 1594) (by decide +kernel) (by decide +kernel), by decide +kernel⟩
set_option maxRecDepth 100000 in
theorem q3_X12_back : mQ3 185 := Or.inr ⟨mGw_of (i := 1598) (by decide +kernel) (by decide +kernel), by decide +kernel⟩
set_option maxRecDepth 100000 in
theorem q3_X12_remembers : mQ3 186 := Or.inr ⟨mGw_of (i := 1869) (by decide +kernel) (by decide +kernel), by decide +kernel⟩
set_option maxRecDepth 100000 in
theorem q3_X12_undo : mQ3 187 := Or.inr ⟨mGw_of (i := 1602) (by decide +kernel) (by decide +kernel), by decide +kernel⟩
set_option maxRecDepth 100000 in
theorem q3_X12_keepsAll : mQ3 188 := Or.inr ⟨mGw_of (i := 1865) (by decide +kernel) (by decide +kernel), by decide +kernel⟩
set_option maxRecDepth 100000 in
theorem q3_X12_bringsBack : mQ3 189 := Or.inr ⟨mGw_of (i := 1927) (by decide +kernel) (by decide +kernel), by decide +kernel⟩
set_option maxRecDepth 100000 in
theorem q3_X12_people : mQ3 190 := Or.inr ⟨mGw_of (i := 1661) (by decide +kernel) (by decide +kernel), by decide +kernel⟩
set_option maxRecDepth 100000 in
theorem q3_X12_everybody : mQ3 191 := Or.inr ⟨mGw_of (i := 1911) (by decide +kernel) (by decide +kernel), by decide +kernel⟩
set_option maxRecDepth 100000 in
theorem q3_X12_at : mQ3 192 := Or.inr ⟨mGw_of (i := 1674) (by decide +kernel) (by decide +kernel), by decide +kernel⟩
set_option maxRecDepth 100000 in
theorem q3_X12_of : mQ3 193 := Or.inr ⟨mGw_of (i := 1687) (by decide +kernel) (by decide +kernel), by decide +kernel⟩
set_option maxRecDepth 100000 in
theorem q3_X12_isUp : mQ3 194 := Or.inr ⟨mGw_of (i := 1683) (by decide +kernel) (by decide +kernel), by decide +kernel⟩
set_option maxRecDepth 100000 in
theorem q3_X12_isAsleep : mQ3 195 := Or.inr ⟨mGw_of (i := 1705) (by decide +kernel) (by decide +kernel), by decide +kernel⟩
set_option maxRecDepth 100000 in
theorem q3_X12_holds : mQ3 196 := Or.inr ⟨mGw_of (i := 1792) (by decide +kernel) (by decide +kernel), by decide +kernel⟩
set_option maxRecDepth 100000 in
theorem q3_X12_upOnes : mQ3 197 := Or.inr ⟨mGw_of (i := 2024) (by decide +kernel) (by decide +kernel), by decide +kernel⟩
set_option maxRecDepth 100000 in
theorem q3_X12_holders : mQ3 198 := Or.inr ⟨mGw_of (i := 1788) (by decide +kernel) (by decide +kernel), by decide +kernel⟩
set_option maxRecDepth 100000 in
theorem q3_X12_asleepOnes : mQ3 199 := Or.inr ⟨mGw_of (i := 2076) (by decide +kernel) (by decide +kernel), by decide +kernel⟩
set_option maxRecDepth 100000 in
theorem q3_X12_those : mQ3 200 := Or.inr ⟨mGw_of (i := 1919) (by decide +kernel) (by decide +kernel), by decide +kernel⟩
set_option maxRecDepth 100000 in
theorem q3_X12_nobody : mQ3 201 := Or.inr ⟨mGw_of (i := 1817) (by decide +kernel) (by decide +kernel), by decide +kernel⟩
set_option maxRecDepth 100000 in
theorem q3_X12_drawn : mQ3 202 := Or.inr ⟨mGw_of (i := 1886) (by decide +kernel) (by decide +kernel), by decide +kernel⟩
set_option maxRecDepth 100000 in
theorem q3_X12_shares : mQ3 203 := Or.inr ⟨mGw_of (i := 1784) (by decide +kernel) (by decide +kernel), by decide +kernel⟩
set_option maxRecDepth 100000 in
theorem q3_X12_lays : mQ3 204 := Or.inr ⟨mGw_of (i := 1780) (by decide +kernel) (by decide +kernel), by decide +kernel⟩
set_option maxRecDepth 100000 in
theorem q3_X12_borneBy : mQ3 205 := Or.inr ⟨mGw_of (i := 1824) (by decide +kernel) (by decide +kernel), by decide +kernel⟩
set_option maxRecDepth 100000 in
theorem q3_X12_borneByAll : mQ3 206 := Or.inr ⟨mGw_of (i := 1857) (by decide +kernel) (by decide +kernel), by decide +kernel⟩
set_option maxRecDepth 100000 in
theorem q3_X12_hangs : mQ3 207 := Or.inr ⟨mGw_of (i := 1801) (by decide +kernel) (by decide +kernel), by decide +kernel⟩
set_option maxRecDepth 100000 in
theorem q3_X12_givesWay : mQ3 208 := Or.inr ⟨mGw_of (i := 1776) (by decide +kernel) (by decide +kernel), by decide +kernel⟩
set_option maxRecDepth 100000 in
theorem q3_X12_hanging : mQ3 209 := Or.inr ⟨mGw_of (i := 1797) (by decide +kernel) (by decide +kernel), by decide +kernel⟩
set_option maxRecDepth 100000 in
theorem q3_X12_stands : mQ3 210 := Or.inr ⟨mGw_of (i := 1772) (by decide +kernel) (by decide +kernel), by decide +kernel⟩
set_option maxRecDepth 100000 in
theorem q3_X12_comesOut : mQ3 211 := Or.inr ⟨mGw_of (i := 1903) (by decide +kernel) (by decide +kernel), by decide +kernel⟩
set_option maxRecDepth 100000 in
theorem q3_X12_comesOutOf : mQ3 212 := Or.inr ⟨mGw_of (i := 1899) (by decide +kernel) (by decide +kernel), by decide +kernel⟩
set_option maxRecDepth 100000 in
theorem q3_X12_tells : mQ3 213 := Or.inr ⟨mGw_of (i := 1895) (by decide +kernel) (by decide +kernel), by decide +kernel⟩
set_option maxRecDepth 100000 in
theorem q3_X12_allFall : mQ3 214 := Or.inr ⟨mGw_of (i := 1891) (by decide +kernel) (by decide +kernel), by decide +kernel⟩
set_option maxRecDepth 100000 in
theorem q3_X12_feed : mQ3 215 := Or.inr ⟨mGw_of (i := 1606) (by decide +kernel) (by decide +kernel), by decide +kernel⟩
set_option maxRecDepth 100000 in
theorem q3_X12_end : mQ3 216 := Or.inr ⟨mGw_of (i := 1610) (by decide +kernel) (by decide +kernel), by decide +kernel⟩
set_option maxRecDepth 100000 in
theorem q3_X12_isAt : mQ3 217 := Or.inr ⟨mGw_of (i := 1634) (by decide +kernel) (by decide +kernel), by decide +kernel⟩
set_option maxRecDepth 100000 in
theorem q3_X12_blanks : mQ3 218 := Or.inr ⟨mGw_of (i := 1630) (by decide +kernel) (by decide +kernel), by decide +kernel⟩
set_option maxRecDepth 100000 in
theorem q3_X12_letters : mQ3 219 := Or.inr ⟨mGw_of (i := 1642) (by decide +kernel) (by decide +kernel), by decide +kernel⟩
set_option maxRecDepth 100000 in
theorem q3_X12_isWord : mQ3 220 := Or.inr ⟨mGw_of (i := 1651) (by decide +kernel) (by decide +kernel), by decide +kernel⟩
set_option maxRecDepth 100000 in
theorem q3_X12_passes : mQ3 221 := Or.inr ⟨mGw_of (i := 1724) (by decide +kernel) (by decide +kernel), by decide +kernel⟩
set_option maxRecDepth 100000 in
theorem q3_X12_sign : mQ3 222 := Or.inr ⟨mGw_of (i := 1740) (by decide +kernel) (by decide +kernel), by decide +kernel⟩
set_option maxRecDepth 100000 in
theorem q3_X12_number : mQ3 223 := Or.inr ⟨mGw_of (i := 1670) (by decide +kernel) (by decide +kernel), by decide +kernel⟩
set_option maxRecDepth 100000 in
theorem q3_X12_after : mQ3 224 := Or.inr ⟨mGw_of (i := 1666) (by decide +kernel) (by decide +kernel), by decide +kernel⟩
set_option maxRecDepth 100000 in
theorem q3_X12_fault : mQ3 225 := Or.inr ⟨mGw_of (i := 1614) (by decide +kernel) (by decide +kernel), by decide +kernel⟩
set_option maxRecDepth 100000 in
theorem q3_X12_uses : mQ3 226 := Or.inr ⟨mGw_of (i := 1626) (by decide +kernel) (by decide +kernel), by decide +kernel⟩
set_option maxRecDepth 100000 in
theorem q3_X12_readNumber : mQ3 227 := Or.inr ⟨mGw_of (i := 1710) (by decide +kernel) (by decide +kernel), by decide +kernel⟩
set_option maxRecDepth 100000 in
theorem q3_X12_readPerson : mQ3 228 := Or.inr ⟨mGw_of (i := 1657) (by decide +kernel) (by decide +kernel), by decide +kernel⟩
set_option maxRecDepth 100000 in
theorem q3_X12_lettersOf : mQ3 229 := Or.inr ⟨mGw_of (i := 1693) (by decide +kernel) (by decide +kernel), by decide +kernel⟩
set_option maxRecDepth 100000 in
theorem q3_X12_readUp : mQ3 230 := Or.inr ⟨mGw_of (i := 1679) (by decide +kernel) (by decide +kernel), by decide +kernel⟩
set_option maxRecDepth 100000 in
theorem q3_X12_readAsleep : mQ3 231 := Or.inr ⟨mGw_of (i := 1701) (by decide +kernel) (by decide +kernel), by decide +kernel⟩
set_option maxRecDepth 100000 in
theorem q3_X12_readTowerLine : mQ3 232 := Or.inr ⟨mGw_of (i := 1646) (by decide +kernel) (by decide +kernel), by decide +kernel⟩
set_option maxRecDepth 100000 in
theorem q3_X12_emits : mQ3 233 := Or.inr ⟨mGw_of (i := 1745) (by decide +kernel) (by decide +kernel), by decide +kernel⟩
set_option maxRecDepth 100000 in
theorem q3_X12_wordOfPart : mQ3 234 := Or.inr ⟨mGw_of (i := 1763) (by decide +kernel) (by decide +kernel), by decide +kernel⟩
set_option maxRecDepth 100000 in
theorem q3_X12_readPart : mQ3 235 := Or.inr ⟨mGw_of (i := 1759) (by decide +kernel) (by decide +kernel), by decide +kernel⟩
set_option maxRecDepth 100000 in
theorem q3_X12_readSum : mQ3 236 := Or.inr ⟨mGw_of (i := 1755) (by decide +kernel) (by decide +kernel), by decide +kernel⟩
set_option maxRecDepth 100000 in
theorem q3_X12_readTag : mQ3 237 := Or.inr ⟨mGw_of (i := 1749) (by decide +kernel) (by decide +kernel), by decide +kernel⟩
set_option maxRecDepth 100000 in
theorem q3_X12_readAtom : mQ3 238 := Or.inr ⟨mGw_of (i := 1736) (by decide +kernel) (by decide +kernel), by decide +kernel⟩
set_option maxRecDepth 100000 in
theorem q3_X12_readAllOf : mQ3 239 := Or.inr ⟨mGw_of (i := 1732) (by decide +kernel) (by decide +kernel), by decide +kernel⟩
set_option maxRecDepth 100000 in
theorem q3_X12_readCond : mQ3 240 := Or.inr ⟨mGw_of (i := 1728) (by decide +kernel) (by decide +kernel), by decide +kernel⟩
set_option maxRecDepth 100000 in
theorem q3_X12_readLawLine : mQ3 241 := Or.inr ⟨mGw_of (i := 1716) (by decide +kernel) (by decide +kernel), by decide +kernel⟩
set_option maxRecDepth 100000 in
theorem q3_X12_readLine : mQ3 242 := Or.inr ⟨mGw_of (i := 1638) (by decide +kernel) (by decide +kernel), by decide +kernel⟩
set_option maxRecDepth 100000 in
theorem q3_X12_readAll : mQ3 243 := Or.inr ⟨mGw_of (i := 1622) (by decide +kernel) (by decide +kernel), by decide +kernel⟩
set_option maxRecDepth 100000 in
theorem q3_X12_tower : mQ3 244 := Or.inr ⟨mGw_of (i := 1618) (by decide +kernel) (by decide +kernel), by decide +kernel⟩
set_option maxRecDepth 100000 in
theorem q3_X12_law : mQ3 245 := Or.inr ⟨mGw_of (i := 1809) (by decide +kernel) (by decide +kernel), by decide +kernel⟩
set_option maxRecDepth 100000 in
theorem q3_X12_isTop : mQ3 246 := Or.inr ⟨mGw_of (i := 1845) (by decide +kernel) (by decide +kernel), by decide +kernel⟩
set_option maxRecDepth 100000 in
theorem q3_X12_factOf : mQ3 247 := Or.inr ⟨mGw_of (i := 1840) (by decide +kernel) (by decide +kernel), by decide +kernel⟩
set_option maxRecDepth 100000 in
theorem q3_X12_holdsLine : mQ3 248 := Or.inr ⟨mGw_of (i := 1836) (by decide +kernel) (by decide +kernel), by decide +kernel⟩
set_option maxRecDepth 100000 in
theorem q3_X12_withoutText : mQ3 249 := Or.inr ⟨mGw_of (i := 1832) (by decide +kernel) (by decide +kernel), by decide +kernel⟩
set_option maxRecDepth 100000 in
theorem q3_X12_byLaw : mQ3 250 := Or.inr ⟨mGw_of (i := 1828) (by decide +kernel) (by decide +kernel), by decide +kernel⟩
set_option maxRecDepth 100000 in
theorem q3_X12_spareOf : mQ3 251 := Or.inr ⟨mGw_of (i := 1849) (by decide +kernel) (by decide +kernel), by decide +kernel⟩
set_option maxRecDepth 100000 in
theorem q3_X12_shareOf : mQ3 252 := Or.inr ⟨mGw_of (i := 1853) (by decide +kernel) (by decide +kernel), by decide +kernel⟩
set_option maxRecDepth 100000 in
theorem q3_X12_person : mQ3 253 := Or.inr ⟨mGw_of (i := 1813) (by decide +kernel) (by decide +kernel), by decide +kernel⟩
set_option maxRecDepth 100000 in
theorem q3_X12_tires : mQ3 254 := Or.inr ⟨mGw_of (i := 1881) (by decide +kernel) (by decide +kernel), by decide +kernel⟩
set_option maxRecDepth 100000 in
theorem q3_X12_oneHour : mQ3 255 := Or.inr ⟨mGw_of (i := 1877) (by decide +kernel) (by decide +kernel), by decide +kernel⟩
set_option maxRecDepth 100000 in
theorem q3_X12_goesOn : mQ3 256 := Or.inr ⟨mGw_of (i := 1873) (by decide +kernel) (by decide +kernel), by decide +kernel⟩
set_option maxRecDepth 100000 in
theorem q3_X12_hours : mQ3 257 := Or.inr ⟨mGw_of (i := 1861) (by decide +kernel) (by decide +kernel), by decide +kernel⟩
set_option maxRecDepth 100000 in
theorem q3_X12_cannot : mQ3 258 := Or.inr ⟨mGw_of (i := 1923) (by decide +kernel) (by decide +kernel), by decide +kernel⟩
set_option maxRecDepth 100000 in
theorem q3_X12_wrongOn : mQ3 259 := Or.inr ⟨mGw_of (i := 1915) (by decide +kernel) (by decide +kernel), by decide +kernel⟩
set_option maxRecDepth 100000 in
theorem q3_X12_rise : mQ3 260 := Or.inr ⟨mGw_of (i := 1907) (by decide +kernel) (by decide +kernel), by decide +kernel⟩
set_option maxRecDepth 100000 in
theorem q3_X12_out : mQ3 261 := Or.inr ⟨mGw_of (i := 1931) (by decide +kernel) (by decide +kernel), by decide +kernel⟩
set_option maxRecDepth 100000 in
theorem q3_X12_changes : mQ3 262 := Or.inr ⟨mGw_of (i := 1939) (by decide +kernel) (by decide +kernel), by decide +kernel⟩
set_option maxRecDepth 100000 in
theorem q3_X12_relieve : mQ3 263 := Or.inr ⟨mGw_of (i := 1935) (by decide +kernel) (by decide +kernel), by decide +kernel⟩
set_option maxRecDepth 100000 in
theorem q3_X12_lean : mQ3 264 := Or.inr ⟨mGw_of (i := 1943) (by decide +kernel) (by decide +kernel), by decide +kernel⟩
set_option maxRecDepth 100000 in
theorem q3_X12_wake : mQ3 265 := Or.inr ⟨mGw_of (i := 1947) (by decide +kernel) (by decide +kernel), by decide +kernel⟩
set_option maxRecDepth 100000 in
theorem q3_X12_sleep : mQ3 266 := Or.inr ⟨mGw_of (i := 1951) (by decide +kernel) (by decide +kernel), by decide +kernel⟩
set_option maxRecDepth 100000 in
theorem q3_X12_need : mQ3 267 := Or.inr ⟨mGw_of (i := 1955) (by decide +kernel) (by decide +kernel), by decide +kernel⟩
set_option maxRecDepth 100000 in
theorem q3_X12_total : mQ3 268 := Or.inr ⟨mGw_of (i := 1959) (by decide +kernel) (by decide +kernel), by decide +kernel⟩
set_option maxRecDepth 100000 in
theorem q3_X12_ground : mQ3 269 := Or.inr ⟨mGw_of (i := 1963) (by decide +kernel) (by decide +kernel), by decide +kernel⟩
set_option maxRecDepth 100000 in
theorem q3_X12_height : mQ3 270 := Or.inr ⟨mGw_of (i := 1967) (by decide +kernel) (by decide +kernel), by decide +kernel⟩
set_option maxRecDepth 100000 in
theorem q3_X12_weakest : mQ3 271 := Or.inr ⟨mGw_of (i := 1971) (by decide +kernel) (by decide +kernel), by decide +kernel⟩
set_option maxRecDepth 100000 in
theorem q3_X12_bearsMore : mQ3 272 := Or.inr ⟨mGw_of (i := 1980) (by decide +kernel) (by decide +kernel), by decide +kernel⟩
set_option maxRecDepth 100000 in
theorem q3_X12_more : mQ3 273 := Or.inr ⟨mGw_of (i := 1976) (by decide +kernel) (by decide +kernel), by decide +kernel⟩
set_option maxRecDepth 100000 in
theorem q3_X12_couldComeOut : mQ3 274 := Or.inr ⟨mGw_of (i := 1988) (by decide +kernel) (by decide +kernel), by decide +kernel⟩
set_option maxRecDepth 100000 in
theorem q3_X12_outs : mQ3 275 := Or.inr ⟨mGw_of (i := 1984) (by decide +kernel) (by decide +kernel), by decide +kernel⟩
set_option maxRecDepth 100000 in
theorem q3_X12_sleeps : mQ3 276 := Or.inr ⟨mGw_of (i := 1992) (by decide +kernel) (by decide +kernel), by decide +kernel⟩
set_option maxRecDepth 100000 in
theorem q3_X12_comesDown : mQ3 277 := Or.inr ⟨mGw_of (i := 2004) (by decide +kernel) (by decide +kernel), by decide +kernel⟩
set_option maxRecDepth 100000 in
theorem q3_X12_cannotFall : mQ3 278 := Or.inr ⟨mGw_of (i := 2000) (by decide +kernel) (by decide +kernel), by decide +kernel⟩
set_option maxRecDepth 100000 in
theorem q3_X12_falls : mQ3 279 := Or.inr ⟨mGw_of (i := 1996) (by decide +kernel) (by decide +kernel), by decide +kernel⟩
set_option maxRecDepth 100000 in
theorem q3_X12_rounds : mQ3 280 := Or.inr ⟨mGw_of (i := 2008) (by decide +kernel) (by decide +kernel), by decide +kernel⟩
set_option maxRecDepth 100000 in
theorem q3_X12_fallen : mQ3 281 := Or.inr ⟨mGw_of (i := 2012) (by decide +kernel) (by decide +kernel), by decide +kernel⟩
set_option maxRecDepth 100000 in
theorem q3_X12_key : mQ3 282 := Or.inr ⟨mGw_of (i := 2016) (by decide +kernel) (by decide +kernel), by decide +kernel⟩
set_option maxRecDepth 100000 in
theorem q3_X12_pillars : mQ3 283 := Or.inr ⟨mGw_of (i := 2020) (by decide +kernel) (by decide +kernel), by decide +kernel⟩
set_option maxRecDepth 100000 in
theorem q3_X12_uppermost : mQ3 284 := Or.inr ⟨mGw_of (i := 2032) (by decide +kernel) (by decide +kernel), by decide +kernel⟩
set_option maxRecDepth 100000 in
theorem q3_X12_left : mQ3 285 := Or.inr ⟨mGw_of (i := 2028) (by decide +kernel) (by decide +kernel), by decide +kernel⟩
set_option maxRecDepth 100000 in
theorem q3_X12_isGuard : mQ3 286 := Or.inr ⟨mGw_of (i := 2040) (by decide +kernel) (by decide +kernel), by decide +kernel⟩
set_option maxRecDepth 100000 in
theorem q3_X12_relieves : mQ3 287 := Or.inr ⟨mGw_of (i := 2048) (by decide +kernel) (by decide +kernel), by decide +kernel⟩
set_option maxRecDepth 100000 in
theorem q3_X12_canBe : mQ3 288 := Or.inr ⟨mGw_of (i := 2044) (by decide +kernel) (by decide +kernel), by decide +kernel⟩
set_option maxRecDepth 100000 in
theorem q3_X12_guard : mQ3 289 := Or.inr ⟨mGw_of (i := 2036) (by decide +kernel) (by decide +kernel), by decide +kernel⟩
set_option maxRecDepth 100000 in
theorem q3_X12_solo : mQ3 290 := Or.inr ⟨mGw_of (i := 2052) (by decide +kernel) (by decide +kernel), by decide +kernel⟩
set_option maxRecDepth 100000 in
theorem q3_X12_laysSleepers : mQ3 291 := Or.inr ⟨mGw_of (i := 2064) (by decide +kernel) (by decide +kernel), by decide +kernel⟩
set_option maxRecDepth 100000 in
theorem q3_X12_feelsSo : mQ3 292 := Or.inr ⟨mGw_of (i := 2080) (by decide +kernel) (by decide +kernel), by decide +kernel⟩
set_option maxRecDepth 100000 in
theorem q3_X12_sleepersUp : mQ3 293 := Or.inr ⟨mGw_of (i := 2072) (by decide +kernel) (by decide +kernel), by decide +kernel⟩
set_option maxRecDepth 100000 in
theorem q3_X12_cannotFeel : mQ3 294 := Or.inr ⟨mGw_of (i := 2060) (by decide +kernel) (by decide +kernel), by decide +kernel⟩
set_option maxRecDepth 100000 in
theorem q3_X12_feelTo : mQ3 295 := Or.inr ⟨mGw_of (i := 2068) (by decide +kernel) (by decide +kernel), by decide +kernel⟩
set_option maxRecDepth 100000 in
theorem q3_X12_feels : mQ3 296 := Or.inr ⟨mGw_of (i := 2056) (by decide +kernel) (by decide +kernel), by decide +kernel⟩
set_option maxRecDepth 100000 in
theorem q3_X12_sure : mQ3 297 := Or.inr ⟨mGw_of (i := 2084) (by decide +kernel) (by decide +kernel), by decide +kernel⟩
set_option maxRecDepth 100000 in
theorem q3_X12_free : mQ3 298 := Or.inr ⟨mGw_of (i := 2088) (by decide +kernel) (by decide +kernel), by decide +kernel⟩
set_option maxRecDepth 100000 in
theorem q3_X12_both : mQ3 299 := Or.inr ⟨mGw_of (i := 2092) (by decide +kernel) (by decide +kernel), by decide +kernel⟩
set_option maxRecDepth 100000 in
theorem q3_X12_partBy : mQ3 300 := Or.inr ⟨mGw_of (i := 2100) (by decide +kernel) (by decide +kernel), by decide +kernel⟩
set_option maxRecDepth 100000 in
theorem q3_X12_ask : mQ3 301 := Or.inr ⟨mGw_of (i := 2096) (by decide +kernel) (by decide +kernel), by decide +kernel⟩
set_option maxRecDepth 100000 in
theorem q3_X12_touches : mQ3 302 := Or.inr ⟨mGw_of (i := 2112) (by decide +kernel) (by decide +kernel), by decide +kernel⟩
set_option maxRecDepth 100000 in
theorem q3_X12_touchedBy : mQ3 303 := Or.inr ⟨mGw_of (i := 2108) (by decide +kernel) (by decide +kernel), by decide +kernel⟩
set_option maxRecDepth 100000 in
theorem q3_X12_reachedFrom : mQ3 304 := Or.inr ⟨mGw_of (i := 2136) (by decide +kernel) (by decide +kernel), by decide +kernel⟩
set_option maxRecDepth 100000 in
theorem q3_X12_pushes : mQ3 305 := Or.inr ⟨mGw_of (i := 2104) (by decide +kernel) (by decide +kernel), by decide +kernel⟩
set_option maxRecDepth 100000 in
theorem q3_X12_tellOf : mQ3 306 := Or.inr ⟨mGw_of (i := 2120) (by decide +kernel) (by decide +kernel), by decide +kernel⟩
set_option maxRecDepth 100000 in
theorem q3_X12_tell : mQ3 307 := Or.inr ⟨mGw_of (i := 2116) (by decide +kernel) (by decide +kernel), by decide +kernel⟩
set_option maxRecDepth 100000 in
theorem q3_X12_herald : mQ3 308 := Or.inr ⟨mGw_of (i := 2124) (by decide +kernel) (by decide +kernel), by decide +kernel⟩
set_option maxRecDepth 100000 in
theorem q3_X12_pairsAmong : mQ3 309 := Or.inr ⟨mGw_of (i := 2132) (by decide +kernel) (by decide +kernel), by decide +kernel⟩
set_option maxRecDepth 100000 in
theorem q3_X12_cuts : mQ3 310 := Or.inr ⟨mGw_of (i := 2128) (by decide +kernel) (by decide +kernel), by decide +kernel⟩
set_option maxRecDepth 100000 in
theorem q3_X12_fullOf : mQ3 311 := Or.inr ⟨mGw_of (i := 2148) (by decide +kernel) (by decide +kernel), by decide +kernel⟩
set_option maxRecDepth 100000 in
theorem q3_X12_laysPlaces : mQ3 312 := Or.inr ⟨mGw_of (i := 2144) (by decide +kernel) (by decide +kernel), by decide +kernel⟩
set_option maxRecDepth 100000 in
theorem q3_X12_fewestPlaces : mQ3 313 := Or.inr ⟨mGw_of (i := 2152) (by decide +kernel) (by decide +kernel), by decide +kernel⟩
set_option maxRecDepth 100000 in
theorem q3_X12_roster : mQ3 314 := Or.inr ⟨mGw_of (i := 2140) (by decide +kernel) (by decide +kernel), by decide +kernel⟩
set_option maxRecDepth 100000 in
theorem q3_X12_pairs : mQ3 315 := Or.inr ⟨mGw_of (i := 2156) (by decide +kernel) (by decide +kernel), by decide +kernel⟩
set_option maxRecDepth 100000 in
theorem q3_X12_dearest : mQ3 316 := Or.inr ⟨mGw_of (i := 2160) (by decide +kernel) (by decide +kernel), by decide +kernel⟩
set_option maxRecDepth 100000 in
theorem q3_X12_firstHas : mQ3 317 := Or.inr ⟨mGw_of (i := 2167) (by decide +kernel) (by decide +kernel), by decide +kernel⟩
set_option maxRecDepth 100000 in
theorem q3_X12_otherHas : mQ3 318 := Or.inr ⟨mGw_of (i := 2170) (by decide +kernel) (by decide +kernel), by decide +kernel⟩
set_option maxRecDepth 100000 in
theorem q3_X12_rests : mQ3 319 := Or.inr ⟨mGw_of (i := 2164) (by decide +kernel) (by decide +kernel), by decide +kernel⟩
set_option maxRecDepth 100000 in
theorem q3_X12_odds : mQ3 320 := Or.inr ⟨mGw_of (i := 2174) (by decide +kernel) (by decide +kernel), by decide +kernel⟩
set_option maxRecDepth 100000 in
theorem q3_X12_alone : mQ3 321 := Or.inr ⟨mGw_of (i := 2178) (by decide +kernel) (by decide +kernel), by decide +kernel⟩
set_option maxRecDepth 100000 in
theorem q3_X12_tired : mQ3 322 := Or.inr ⟨mGw_of (i := 2182) (by decide +kernel) (by decide +kernel), by decide +kernel⟩
set_option maxRecDepth 100000 in
theorem q3_X12_twins : mQ3 323 := Or.inr ⟨mGw_of (i := 2186) (by decide +kernel) (by decide +kernel), by decide +kernel⟩
set_option maxRecDepth 100000 in
theorem q3_X12_ring : mQ3 324 := Or.inr ⟨mGw_of (i := 2190) (by decide +kernel) (by decide +kernel), by decide +kernel⟩
set_option maxRecDepth 100000 in
theorem q3_X12_reserves : mQ3 325 := Or.inr ⟨mGw_of (i := 2194) (by decide +kernel) (by decide +kernel), by decide +kernel⟩
set_option maxRecDepth 100000 in
theorem q3_X12_sleepers : mQ3 326 := Or.inr ⟨mGw_of (i := 2198) (by decide +kernel) (by decide +kernel), by decide +kernel⟩
set_option maxRecDepth 100000 in
theorem q3_X12_noAhead : mQ3 327 := Or.inr ⟨mGw_of (i := 2209) (by decide +kernel) (by decide +kernel), by decide +kernel⟩
set_option maxRecDepth 100000 in
theorem q3_X12_soon : mQ3 328 := Or.inr ⟨mGw_of (i := 2202) (by decide +kernel) (by decide +kernel), by decide +kernel⟩
set_option maxRecDepth 100000 in
theorem q3_X12_ahead : mQ3 329 := Or.inr ⟨mGw_of (i := 2206) (by decide +kernel) (by decide +kernel), by decide +kernel⟩
set_option maxRecDepth 100000 in
theorem q3_X12_trial : mQ3 330 := Or.inr ⟨mGw_of (i := 2213) (by decide +kernel) (by decide +kernel), by decide +kernel⟩
set_option maxRecDepth 100000 in
theorem q3_X12_span : mQ3 331 := Or.inr ⟨mGw_of (i := 2217) (by decide +kernel) (by decide +kernel), by decide +kernel⟩
set_option maxRecDepth 100000 in
theorem q3_X12_ofLog : mQ3 332 := Or.inr ⟨mGw_of (i := 2225) (by decide +kernel) (by decide +kernel), by decide +kernel⟩
set_option maxRecDepth 100000 in
theorem q3_X12_led : mQ3 333 := Or.inr ⟨mGw_of (i := 2221) (by decide +kernel) (by decide +kernel), by decide +kernel⟩
set_option maxRecDepth 100000 in
theorem q3_X12_log : mQ3 334 := Or.inr ⟨mGw_of (i := 2229) (by decide +kernel) (by decide +kernel), by decide +kernel⟩
set_option maxRecDepth 100000 in
theorem q3_X12_seed : mQ3 335 := Or.inr ⟨mGw_of (i := 2233) (by decide +kernel) (by decide +kernel), by decide +kernel⟩
set_option maxRecDepth 100000 in
theorem q3_X12_count : mQ3 336 := Or.inr ⟨mGw_of (i := 2237) (by decide +kernel) (by decide +kernel), by decide +kernel⟩
set_option maxRecDepth 100000 in
theorem q3_L_tower : mQ3 337 := Or.inr ⟨mGw_of (i := 758) (by decide +kernel) (by decide +kernel), by decide +kernel⟩
set_option maxRecDepth 100000 in
theorem q3_L_law : mQ3 338 := Or.inr ⟨mGw_of (i := 995) (by decide +kernel) (by decide +kernel), by decide +kernel⟩
set_option maxRecDepth 100000 in
theorem q3_L_person : mQ3 339 := Or.inr ⟨mGw_of (i := 1059) (by decide +kernel) (by decide +kernel), by decide +kernel⟩
set_option maxRecDepth 100000 in
theorem q3_L_hours : mQ3 340 := Or.inr ⟨mGw_of (i := 1110) (by decide +kernel) (by decide +kernel), by decide +kernel⟩
set_option maxRecDepth 100000 in
theorem q3_L_rise : mQ3 341 := Or.inr ⟨mGw_of (i := 1126) (by decide +kernel) (by decide +kernel), by decide +kernel⟩
set_option maxRecDepth 100000 in
theorem q3_L_out : mQ3 342 := Or.inr ⟨mGw_of (i := 1169) (by decide +kernel) (by decide +kernel), by decide +kernel⟩
set_option maxRecDepth 100000 in
theorem q3_L_relieve : mQ3 343 := Or.inr ⟨mGw_of (i := 1180) (by decide +kernel) (by decide +kernel), by decide +kernel⟩
set_option maxRecDepth 100000 in
theorem q3_L_lean : mQ3 344 := Or.inr ⟨mGw_of (i := 1196) (by decide +kernel) (by decide +kernel), by decide +kernel⟩
set_option maxRecDepth 100000 in
theorem q3_L_wake : mQ3 345 := Or.inr ⟨mGw_of (i := 1203) (by decide +kernel) (by decide +kernel), by decide +kernel⟩
set_option maxRecDepth 100000 in
theorem q3_L_sleep : mQ3 346 := Or.inr ⟨mGw_of (i := 1210) (by decide +kernel) (by decide +kernel), by decide +kernel⟩
set_option maxRecDepth 100000 in
theorem q3_L_need : mQ3 347 := Or.inr ⟨mGw_of (i := 1217) (by decide +kernel) (by decide +kernel), by decide +kernel⟩
set_option maxRecDepth 100000 in
theorem q3_L_more : mQ3 348 := Or.inr ⟨mGw_of (i := 1224) (by decide +kernel) (by decide +kernel), by decide +kernel⟩
set_option maxRecDepth 100000 in
theorem q3_L_falls : mQ3 349 := Or.inr ⟨mGw_of (i := 1231) (by decide +kernel) (by decide +kernel), by decide +kernel⟩
set_option maxRecDepth 100000 in
theorem q3_L_rounds : mQ3 350 := Or.inr ⟨mGw_of (i := 1238) (by decide +kernel) (by decide +kernel), by decide +kernel⟩
set_option maxRecDepth 100000 in
theorem q3_L_fallen : mQ3 351 := Or.inr ⟨mGw_of (i := 1245) (by decide +kernel) (by decide +kernel), by decide +kernel⟩
set_option maxRecDepth 100000 in
theorem q3_L_guard : mQ3 352 := Or.inr ⟨mGw_of (i := 1252) (by decide +kernel) (by decide +kernel), by decide +kernel⟩
set_option maxRecDepth 100000 in
theorem q3_L_solo : mQ3 353 := Or.inr ⟨mGw_of (i := 1291) (by decide +kernel) (by decide +kernel), by decide +kernel⟩
set_option maxRecDepth 100000 in
theorem q3_L_feels : mQ3 354 := Or.inr ⟨mGw_of (i := 1302) (by decide +kernel) (by decide +kernel), by decide +kernel⟩
set_option maxRecDepth 100000 in
theorem q3_L_sure : mQ3 355 := Or.inr ⟨mGw_of (i := 1326) (by decide +kernel) (by decide +kernel), by decide +kernel⟩
set_option maxRecDepth 100000 in
theorem q3_L_free : mQ3 356 := Or.inr ⟨mGw_of (i := 1337) (by decide +kernel) (by decide +kernel), by decide +kernel⟩
set_option maxRecDepth 100000 in
theorem q3_L_both : mQ3 357 := Or.inr ⟨mGw_of (i := 1348) (by decide +kernel) (by decide +kernel), by decide +kernel⟩
set_option maxRecDepth 100000 in
theorem q3_L_ask : mQ3 358 := Or.inr ⟨mGw_of (i := 1355) (by decide +kernel) (by decide +kernel), by decide +kernel⟩
set_option maxRecDepth 100000 in
theorem q3_L_pushes : mQ3 359 := Or.inr ⟨mGw_of (i := 1372) (by decide +kernel) (by decide +kernel), by decide +kernel⟩
set_option maxRecDepth 100000 in
theorem q3_L_tell : mQ3 360 := Or.inr ⟨mGw_of (i := 1379) (by decide +kernel) (by decide +kernel), by decide +kernel⟩
set_option maxRecDepth 100000 in
theorem q3_L_cuts : mQ3 361 := Or.inr ⟨mGw_of (i := 1386) (by decide +kernel) (by decide +kernel), by decide +kernel⟩
set_option maxRecDepth 100000 in
theorem q3_L_roster : mQ3 362 := Or.inr ⟨mGw_of (i := 1396) (by decide +kernel) (by decide +kernel), by decide +kernel⟩
set_option maxRecDepth 100000 in
theorem q3_L_pairs : mQ3 363 := Or.inr ⟨mGw_of (i := 1411) (by decide +kernel) (by decide +kernel), by decide +kernel⟩
set_option maxRecDepth 100000 in
theorem q3_L_rests : mQ3 364 := Or.inr ⟨mGw_of (i := 1418) (by decide +kernel) (by decide +kernel), by decide +kernel⟩
set_option maxRecDepth 100000 in
theorem q3_L_odds : mQ3 365 := Or.inr ⟨mGw_of (i := 1432) (by decide +kernel) (by decide +kernel), by decide +kernel⟩
set_option maxRecDepth 100000 in
theorem q3_L_ring : mQ3 366 := Or.inr ⟨mGw_of (i := 1440) (by decide +kernel) (by decide +kernel), by decide +kernel⟩
set_option maxRecDepth 100000 in
theorem q3_L_ahead : mQ3 367 := Or.inr ⟨mGw_of (i := 1447) (by decide +kernel) (by decide +kernel), by decide +kernel⟩
set_option maxRecDepth 100000 in
theorem q3_L_trial : mQ3 368 := Or.inr ⟨mGw_of (i := 1457) (by decide +kernel) (by decide +kernel), by decide +kernel⟩
set_option maxRecDepth 100000 in
theorem q3_L_span : mQ3 369 := Or.inr ⟨mGw_of (i := 1464) (by decide +kernel) (by decide +kernel), by decide +kernel⟩
set_option maxRecDepth 100000 in
theorem q3_L_led : mQ3 370 := Or.inr ⟨mGw_of (i := 1471) (by decide +kernel) (by decide +kernel), by decide +kernel⟩
set_option maxRecDepth 100000 in
theorem q3_L_log : mQ3 371 := Or.inr ⟨mGw_of (i := 1493) (by decide +kernel) (by decide +kernel), by decide +kernel⟩
theorem q3_L_law_ : mQ3 372 := Or.inl ⟨rfl, rfl⟩
set_option maxRecDepth 100000 in
theorem mQ3_all : ∀ y, 10 ≤ y → y < 373 → mQ3 y
  | 10, _, _ => q3_J6_bitCount_0f7a4
  | 11, _, _ => q3_J9_floorMod_7cf53
  | 12, _, _ => q3_X0_copyFrom
  | 13, _, _ => q3_X0_clear
  | 14, _, _ => q3_X0_addStep
  | 15, _, _ => q3_X0_endLine
  | 16, _, _ => q3_X0_amountOf
  | 17, _, _ => q3_X0_untold
  | 18, _, _ => q3_X0_holdsFor
  | 19, _, _ => q3_X0_ofTwo
  | 20, _, _ => q3_X0_ofOne
  | 21, _, _ => q3_X1_read
  | 22, _, _ => q3_X1_readLine
  | 23, _, _ => q3_X1_readAny
  | 24, _, _ => q3_X1_readAll
  | 25, _, _ => q3_X1_readAtom
  | 26, _, _ => q3_X1_readSum
  | 27, _, _ => q3_X1_readPart
  | 28, _, _ => q3_X2_copyFrom
  | 29, _, _ => q3_X2_add
  | 30, _, _ => q3_X2_at
  | 31, _, _ => q3_X2_rowsOf
  | 32, _, _ => q3_X2_latestDay
  | 33, _, _ => q3_X3_forget
  | 34, _, _ => q3_X3_remember
  | 35, _, _ => q3_X3_recall
  | 36, _, _ => q3_X4_read
  | 37, _, _ => q3_X4_tellOne
  | 38, _, _ => q3_X4_standsAfter
  | 39, _, _ => q3_X4_firstRows
  | 40, _, _ => q3_X4_rowOf
  | 41, _, _ => q3_X4_findGoesOn
  | 42, _, _ => q3_X4_nextRow
  | 43, _, _ => q3_X5_places
  | 44, _, _ => q3_X5_sumUp
  | 45, _, _ => q3_X5_fillHour
  | 46, _, _ => q3_X5_fewestOf
  | 47, _, _ => q3_X5_costOf
  | 48, _, _ => q3_X5_setOf
  | 49, _, _ => q3_X5_leastSet
  | 50, _, _ => q3_X6_gather
  | 51, _, _ => q3_X6_keep
  | 52, _, _ => q3_X6_asleepInAll
  | 53, _, _ => q3_X6_asleepInSome
  | 54, _, _ => q3_X6_bestToAsk
  | 55, _, _ => q3_X6_greatestPart
  | 56, _, _ => q3_X7_hasRoom
  | 57, _, _ => q3_X7_append
  | 58, _, _ => q3_X7_byteAt
  | 59, _, _ => q3_X7_rewind
  | 60, _, _ => q3_X7_moveTo
  | 61, _, _ => q3_X7_ended
  | 62, _, _ => q3_X7_wrong
  | 63, _, _ => q3_X7_isLetter
  | 64, _, _ => q3_X7_takes
  | 65, _, _ => q3_X7_must
  | 66, _, _ => q3_X7_takesSign
  | 67, _, _ => q3_X7_mustSign
  | 68, _, _ => q3_X7_number
  | 69, _, _ => q3_X7_letters
  | 70, _, _ => q3_X8_touched
  | 71, _, _ => q3_X8_steps
  | 72, _, _ => q3_X8_reached
  | 73, _, _ => q3_X9_copyFrom
  | 74, _, _ => q3_X9_isPerson
  | 75, _, _ => q3_X9_everyone
  | 76, _, _ => q3_X9_holders
  | 77, _, _ => q3_X9_inRing
  | 78, _, _ => q3_X9_uppermost
  | 79, _, _ => q3_X9_spare
  | 80, _, _ => q3_X9_borneByAll
  | 81, _, _ => q3_X9_strengthOfAll
  | 82, _, _ => q3_X9_addPerson
  | 83, _, _ => q3_X9_fitsRing
  | 84, _, _ => q3_X9_bringUp
  | 85, _, _ => q3_X9_takeDown
  | 86, _, _ => q3_X9_canSwap
  | 87, _, _ => q3_X9_swap
  | 88, _, _ => q3_X9_settle
  | 89, _, _ => q3_X9_carry
  | 90, _, _ => q3_X9_shareOut
  | 91, _, _ => q3_X9_hanging
  | 92, _, _ => q3_X9_yielding
  | 93, _, _ => q3_X9_stands
  | 94, _, _ => q3_X9_collapse
  | 95, _, _ => q3_X9_passHours
  | 96, _, _ => q3_X9_passHour
  | 97, _, _ => q3_X9_fadeAndMend
  | 98, _, _ => q3_X9_drawSleep
  | 99, _, _ => q3_X9_draw
  | 100, _, _ => q3_X10_read
  | 101, _, _ => q3_X10_readLine
  | 102, _, _ => q3_X10_readPerson
  | 103, _, _ => q3_X10_readUp
  | 104, _, _ => q3_X10_readAsleep
  | 105, _, _ => q3_X11_feed
  | 106, _, _ => q3_X11_end
  | 107, _, _ => q3_X11_tower
  | 108, _, _ => q3_X11_law
  | 109, _, _ => q3_X11_fault
  | 110, _, _ => q3_X11_person
  | 111, _, _ => q3_X11_shareOf
  | 112, _, _ => q3_X11_hours
  | 113, _, _ => q3_X11_rise
  | 114, _, _ => q3_X11_out
  | 115, _, _ => q3_X11_relieve
  | 116, _, _ => q3_X11_lean
  | 117, _, _ => q3_X11_wake
  | 118, _, _ => q3_X11_sleep
  | 119, _, _ => q3_X11_need
  | 120, _, _ => q3_X11_keepNext
  | 121, _, _ => q3_X11_total
  | 122, _, _ => q3_X11_ground
  | 123, _, _ => q3_X11_height
  | 124, _, _ => q3_X11_weakest
  | 125, _, _ => q3_X11_more
  | 126, _, _ => q3_X11_outs
  | 127, _, _ => q3_X11_sleeps
  | 128, _, _ => q3_X11_falls
  | 129, _, _ => q3_X11_rounds
  | 130, _, _ => q3_X11_fallen
  | 131, _, _ => q3_X11_fallOf
  | 132, _, _ => q3_X11_key
  | 133, _, _ => q3_X11_pillars
  | 134, _, _ => q3_X11_left
  | 135, _, _ => q3_X11_guard
  | 136, _, _ => q3_X11_solo
  | 137, _, _ => q3_X11_feels
  | 138, _, _ => q3_X11_sure
  | 139, _, _ => q3_X11_free
  | 140, _, _ => q3_X11_both
  | 141, _, _ => q3_X11_ask
  | 142, _, _ => q3_X11_pushes
  | 143, _, _ => q3_X11_tell
  | 144, _, _ => q3_X11_herald
  | 145, _, _ => q3_X11_cuts
  | 146, _, _ => q3_X11_roster
  | 147, _, _ => q3_X11_pairs
  | 148, _, _ => q3_X11_dearest
  | 149, _, _ => q3_X11_rests
  | 150, _, _ => q3_X11_firstHas
  | 151, _, _ => q3_X11_secondHas
  | 152, _, _ => q3_X11_odds
  | 153, _, _ => q3_X11_alone
  | 154, _, _ => q3_X11_tired
  | 155, _, _ => q3_X11_twins
  | 156, _, _ => q3_X11_ring
  | 157, _, _ => q3_X11_reserves
  | 158, _, _ => q3_X11_sleepers
  | 159, _, _ => q3_X11_soon
  | 160, _, _ => q3_X11_ahead
  | 161, _, _ => q3_X11_trial
  | 162, _, _ => q3_X11_span
  | 163, _, _ => q3_X11_led
  | 164, _, _ => q3_X11_log
  | 165, _, _ => q3_X11_seed
  | 166, _, _ => q3_X11_undo
  | 167, _, _ => q3_X11_image
  | 168, _, _ => q3_X11_back
  | 169, _, _ => q3_X11_count
  | 170, _, _ => q3_X11_mustBePerson
  | 171, _, _ => q3_X11_mustBeRing
  | 172, _, _ => q3_X11_mustBeOne
  | 173, _, _ => q3_X11_mustBeSo
  | 174, _, _ => q3_X11_mustBeLookAhead
  | 175, _, _ => q3_X11_mustBeUp
  | 176, _, _ => q3_X11_mustHold
  | 177, _, _ => q3_X11_bit
  | 178, _, _ => q3_X11_has
  | 179, _, _ => q3_X11_within
  | 180, _, _ => q3_X12_thrown
  | 181, _, _ => q3_X12_throwsIf
  | 182, _, _ => q3_X12_in
  | 183, _, _ => q3_X12_has
  | 184, _, _ => q3_X12_image
  | 185, _, _ => q3_X12_back
  | 186, _, _ => q3_X12_remembers
  | 187, _, _ => q3_X12_undo
  | 188, _, _ => q3_X12_keepsAll
  | 189, _, _ => q3_X12_bringsBack
  | 190, _, _ => q3_X12_people
  | 191, _, _ => q3_X12_everybody
  | 192, _, _ => q3_X12_at
  | 193, _, _ => q3_X12_of
  | 194, _, _ => q3_X12_isUp
  | 195, _, _ => q3_X12_isAsleep
  | 196, _, _ => q3_X12_holds
  | 197, _, _ => q3_X12_upOnes
  | 198, _, _ => q3_X12_holders
  | 199, _, _ => q3_X12_asleepOnes
  | 200, _, _ => q3_X12_those
  | 201, _, _ => q3_X12_nobody
  | 202, _, _ => q3_X12_drawn
  | 203, _, _ => q3_X12_shares
  | 204, _, _ => q3_X12_lays
  | 205, _, _ => q3_X12_borneBy
  | 206, _, _ => q3_X12_borneByAll
  | 207, _, _ => q3_X12_hangs
  | 208, _, _ => q3_X12_givesWay
  | 209, _, _ => q3_X12_hanging
  | 210, _, _ => q3_X12_stands
  | 211, _, _ => q3_X12_comesOut
  | 212, _, _ => q3_X12_comesOutOf
  | 213, _, _ => q3_X12_tells
  | 214, _, _ => q3_X12_allFall
  | 215, _, _ => q3_X12_feed
  | 216, _, _ => q3_X12_end
  | 217, _, _ => q3_X12_isAt
  | 218, _, _ => q3_X12_blanks
  | 219, _, _ => q3_X12_letters
  | 220, _, _ => q3_X12_isWord
  | 221, _, _ => q3_X12_passes
  | 222, _, _ => q3_X12_sign
  | 223, _, _ => q3_X12_number
  | 224, _, _ => q3_X12_after
  | 225, _, _ => q3_X12_fault
  | 226, _, _ => q3_X12_uses
  | 227, _, _ => q3_X12_readNumber
  | 228, _, _ => q3_X12_readPerson
  | 229, _, _ => q3_X12_lettersOf
  | 230, _, _ => q3_X12_readUp
  | 231, _, _ => q3_X12_readAsleep
  | 232, _, _ => q3_X12_readTowerLine
  | 233, _, _ => q3_X12_emits
  | 234, _, _ => q3_X12_wordOfPart
  | 235, _, _ => q3_X12_readPart
  | 236, _, _ => q3_X12_readSum
  | 237, _, _ => q3_X12_readTag
  | 238, _, _ => q3_X12_readAtom
  | 239, _, _ => q3_X12_readAllOf
  | 240, _, _ => q3_X12_readCond
  | 241, _, _ => q3_X12_readLawLine
  | 242, _, _ => q3_X12_readLine
  | 243, _, _ => q3_X12_readAll
  | 244, _, _ => q3_X12_tower
  | 245, _, _ => q3_X12_law
  | 246, _, _ => q3_X12_isTop
  | 247, _, _ => q3_X12_factOf
  | 248, _, _ => q3_X12_holdsLine
  | 249, _, _ => q3_X12_withoutText
  | 250, _, _ => q3_X12_byLaw
  | 251, _, _ => q3_X12_spareOf
  | 252, _, _ => q3_X12_shareOf
  | 253, _, _ => q3_X12_person
  | 254, _, _ => q3_X12_tires
  | 255, _, _ => q3_X12_oneHour
  | 256, _, _ => q3_X12_goesOn
  | 257, _, _ => q3_X12_hours
  | 258, _, _ => q3_X12_cannot
  | 259, _, _ => q3_X12_wrongOn
  | 260, _, _ => q3_X12_rise
  | 261, _, _ => q3_X12_out
  | 262, _, _ => q3_X12_changes
  | 263, _, _ => q3_X12_relieve
  | 264, _, _ => q3_X12_lean
  | 265, _, _ => q3_X12_wake
  | 266, _, _ => q3_X12_sleep
  | 267, _, _ => q3_X12_need
  | 268, _, _ => q3_X12_total
  | 269, _, _ => q3_X12_ground
  | 270, _, _ => q3_X12_height
  | 271, _, _ => q3_X12_weakest
  | 272, _, _ => q3_X12_bearsMore
  | 273, _, _ => q3_X12_more
  | 274, _, _ => q3_X12_couldComeOut
  | 275, _, _ => q3_X12_outs
  | 276, _, _ => q3_X12_sleeps
  | 277, _, _ => q3_X12_comesDown
  | 278, _, _ => q3_X12_cannotFall
  | 279, _, _ => q3_X12_falls
  | 280, _, _ => q3_X12_rounds
  | 281, _, _ => q3_X12_fallen
  | 282, _, _ => q3_X12_key
  | 283, _, _ => q3_X12_pillars
  | 284, _, _ => q3_X12_uppermost
  | 285, _, _ => q3_X12_left
  | 286, _, _ => q3_X12_isGuard
  | 287, _, _ => q3_X12_relieves
  | 288, _, _ => q3_X12_canBe
  | 289, _, _ => q3_X12_guard
  | 290, _, _ => q3_X12_solo
  | 291, _, _ => q3_X12_laysSleepers
  | 292, _, _ => q3_X12_feelsSo
  | 293, _, _ => q3_X12_sleepersUp
  | 294, _, _ => q3_X12_cannotFeel
  | 295, _, _ => q3_X12_feelTo
  | 296, _, _ => q3_X12_feels
  | 297, _, _ => q3_X12_sure
  | 298, _, _ => q3_X12_free
  | 299, _, _ => q3_X12_both
  | 300, _, _ => q3_X12_partBy
  | 301, _, _ => q3_X12_ask
  | 302, _, _ => q3_X12_touches
  | 303, _, _ => q3_X12_touchedBy
  | 304, _, _ => q3_X12_reachedFrom
  | 305, _, _ => q3_X12_pushes
  | 306, _, _ => q3_X12_tellOf
  | 307, _, _ => q3_X12_tell
  | 308, _, _ => q3_X12_herald
  | 309, _, _ => q3_X12_pairsAmong
  | 310, _, _ => q3_X12_cuts
  | 311, _, _ => q3_X12_fullOf
  | 312, _, _ => q3_X12_laysPlaces
  | 313, _, _ => q3_X12_fewestPlaces
  | 314, _, _ => q3_X12_roster
  | 315, _, _ => q3_X12_pairs
  | 316, _, _ => q3_X12_dearest
  | 317, _, _ => q3_X12_firstHas
  | 318, _, _ => q3_X12_otherHas
  | 319, _, _ => q3_X12_rests
  | 320, _, _ => q3_X12_odds
  | 321, _, _ => q3_X12_alone
  | 322, _, _ => q3_X12_tired
  | 323, _, _ => q3_X12_twins
  | 324, _, _ => q3_X12_ring
  | 325, _, _ => q3_X12_reserves
  | 326, _, _ => q3_X12_sleepers
  | 327, _, _ => q3_X12_noAhead
  | 328, _, _ => q3_X12_soon
  | 329, _, _ => q3_X12_ahead
  | 330, _, _ => q3_X12_trial
  | 331, _, _ => q3_X12_span
  | 332, _, _ => q3_X12_ofLog
  | 333, _, _ => q3_X12_led
  | 334, _, _ => q3_X12_log
  | 335, _, _ => q3_X12_seed
  | 336, _, _ => q3_X12_count
  | 337, _, _ => q3_L_tower
  | 338, _, _ => q3_L_law
  | 339, _, _ => q3_L_person
  | 340, _, _ => q3_L_hours
  | 341, _, _ => q3_L_rise
  | 342, _, _ => q3_L_out
  | 343, _, _ => q3_L_relieve
  | 344, _, _ => q3_L_lean
  | 345, _, _ => q3_L_wake
  | 346, _, _ => q3_L_sleep
  | 347, _, _ => q3_L_need
  | 348, _, _ => q3_L_more
  | 349, _, _ => q3_L_falls
  | 350, _, _ => q3_L_rounds
  | 351, _, _ => q3_L_fallen
  | 352, _, _ => q3_L_guard
  | 353, _, _ => q3_L_solo
  | 354, _, _ => q3_L_feels
  | 355, _, _ => q3_L_sure
  | 356, _, _ => q3_L_free
  | 357, _, _ => q3_L_both
  | 358, _, _ => q3_L_ask
  | 359, _, _ => q3_L_pushes
  | 360, _, _ => q3_L_tell
  | 361, _, _ => q3_L_cuts
  | 362, _, _ => q3_L_roster
  | 363, _, _ => q3_L_pairs
  | 364, _, _ => q3_L_rests
  | 365, _, _ => q3_L_odds
  | 366, _, _ => q3_L_ring
  | 367, _, _ => q3_L_ahead
  | 368, _, _ => q3_L_trial
  | 369, _, _ => q3_L_span
  | 370, _, _ => q3_L_led
  | 371, _, _ => q3_L_log
  | 372, _, _ => q3_L_law_
  | n + 373, _, h => absurd h (by omega)
  | 0, h, _ => absurd h (by decide)
  | 1, h, _ => absurd h (by decide)
  | 2, h, _ => absurd h (by decide)
  | 3, h, _ => absurd h (by decide)
  | 4, h, _ => absurd h (by decide)
  | 5, h, _ => absurd h (by decide)
  | 6, h, _ => absurd h (by decide)
  | 7, h, _ => absurd h (by decide)
  | 8, h, _ => absurd h (by decide)
  | 9, h, _ => absurd h (by decide)
