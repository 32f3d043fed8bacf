set_option maxRecDepth 100000 in
theorem q1w_9 : (((List.zipIdx k_L_law_).drop 450).take 50).all q1w = true := by decide +kernel
set_option maxRecDepth 100000 in
theorem q1w_10 : (((List.zipIdx k_L_law_).drop 500).take 50).all q1w = true := by decide +kernel
set_option maxRecDepth 100000 in
theorem q1w_11 : (((List.zipIdx k_L_law_).drop 550).take 50).all q1w = true := by decide +kernel
set_option maxRecDepth 100000 in
theorem q1w_12 : (((List.zipIdx k_L_law_).drop 600).take 50).all q1w = true := by decide +kernel
set_option maxRecDepth 100000 in
theorem q1w_13 : (((List.zipIdx k_L_law_).drop 650).take 50).all q1w = true := by decide +kernel
set_option maxRecDepth 100000 in
theorem q1w_14 : (((List.zipIdx k_L_law_).drop 700).take 50).all q1w = true := by decide +kernel
set_option maxRecDepth 100000 in
theorem q1w_15 : (((List.zipIdx k_L_law_).drop 750).take 50).all q1w = true := by decide +kernel
set_option maxRecDepth 100000 in
theorem q1w_16 : (((List.zipIdx k_L_law_).drop 800).take 50).all q1w = true := by decide +kernel
set_option maxRecDepth 100000 in
theorem q1w_17 : (((List.zipIdx k_L_law_).drop 850).take 50).all q1w = true := by decide +kernel
