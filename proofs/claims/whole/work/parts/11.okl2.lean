set_option maxRecDepth 100000 in
theorem q1w_18 : (((List.zipIdx k_L_law_).drop 900).take 50).all q1w = true := by decide +kernel
set_option maxRecDepth 100000 in
theorem q1w_19 : (((List.zipIdx k_L_law_).drop 950).take 50).all q1w = true := by decide +kernel
set_option maxRecDepth 100000 in
theorem q1w_20 : (((List.zipIdx k_L_law_).drop 1000).take 50).all q1w = true := by decide +kernel
set_option maxRecDepth 100000 in
theorem q1w_21 : (((List.zipIdx k_L_law_).drop 1050).take 50).all q1w = true := by decide +kernel
set_option maxRecDepth 100000 in
theorem q1w_22 : (((List.zipIdx k_L_law_).drop 1100).take 50).all q1w = true := by decide +kernel
set_option maxRecDepth 100000 in
theorem q1w_23 : (((List.zipIdx k_L_law_).drop 1150).take 50).all q1w = true := by decide +kernel
set_option maxRecDepth 100000 in
theorem q1w_24 : (((List.zipIdx k_L_law_).drop 1200).take 50).all q1w = true := by decide +kernel
set_option maxRecDepth 100000 in
theorem q1w_25 : (((List.zipIdx k_L_law_).drop 1250).take 50).all q1w = true := by decide +kernel
set_option maxRecDepth 100000 in
theorem q1w_26 : (((List.zipIdx k_L_law_).drop 1300).take 50).all q1w = true := by decide +kernel
set_option maxRecDepth 100000 in
theorem q1w_27 : (((List.zipIdx k_L_law_).drop 1350).take 50).all q1w = true := by decide +kernel
set_option maxRecDepth 100000 in
theorem q1w_28 : (((List.zipIdx k_L_law_).drop 1400).take 50).all q1w = true := by decide +kernel
set_option maxRecDepth 100000 in
theorem q1w_29 : (((List.zipIdx k_L_law_).drop 1450).take 50).all q1w = true := by decide +kernel
set_option maxRecDepth 100000 in
theorem q1w_30 : (((List.zipIdx k_L_law_).drop 1500).take 50).all q1w = true := by decide +kernel
set_option maxRecDepth 100000 in
theorem q1w_31 : (((List.zipIdx k_L_law_).drop 1550).take 50).all q1w = true := by decide +kernel
set_option maxRecDepth 100000 in
theorem q1w_32 : (((List.zipIdx k_L_law_).drop 1600).take 50).all q1w = true := by decide +kernel
set_option maxRecDepth 100000 in
theorem q1w_33 : (((List.zipIdx k_L_law_).drop 1650).take 50).all q1w = true := by decide +kernel
set_option maxRecDepth 100000 in
theorem q1w_e : ((List.zipIdx k_L_law_).drop 1700).all q1w = true := by decide +kernel
theorem q1w_all : (List.zipIdx k_L_law_).all q1w = true := m_allc 50 q1w_0 (m_allc 50 q1w_1 (by rw [List.drop_drop]; exact m_allc 50 q1w_2 (by rw [List.drop_drop]; exact m_allc 50 q1w_3 (by rw [List.drop_drop]; exact m_allc 50 q1w_4 (by rw [List.drop_drop]; exact m_allc 50 q1w_5 (by rw [List.drop_drop]; exact m_allc 50 q1w_6 (by rw [List.drop_drop]; exact m_allc 50 q1w_7 (by rw [List.drop_drop]; exact m_allc 50 q1w_8 (by rw [List.drop_drop]; exact m_allc 50 q1w_9 (by rw [List.drop_drop]; exact m_allc 50 q1w_10 (by rw [List.drop_drop]; exact m_allc 50 q1w_11 (by rw [List.drop_drop]; exact m_allc 50 q1w_12 (by rw [List.drop_drop]; exact m_allc 50 q1w_13 (by rw [List.drop_drop]; exact m_allc 50 q1w_14 (by rw [List.drop_drop]; exact m_allc 50 q1w_15 (by rw [List.drop_drop]; exact m_allc 50 q1w_16 (by rw [List.drop_drop]; exact m_allc 50 q1w_17 (by rw [List.drop_drop]; exact m_allc 50 q1w_18 (by rw [List.drop_drop]; exact m_allc 50 q1w_19 (by rw [List.drop_drop]; exact m_allc 50 q1w_20 (by rw [List.drop_drop]; exact m_allc 50 q1w_21 (by rw [List.drop_drop]; exact m_allc 50 q1w_22 (by rw [List.drop_drop]; exact m_allc 50 q1w_23 (by rw [List.drop_drop]; exact m_allc 50 q1w_24 (by rw [List.drop_drop]; exact m_allc 50 q1w_25 (by rw [List.drop_drop]; exact m_allc 50 q1w_26 (by rw [List.drop_drop]; exact m_allc 50 q1w_27 (by rw [List.drop_drop]; exact m_allc 50 q1w_28 (by rw [List.drop_drop]; exact m_allc 50 q1w_29 (by rw [List.drop_drop]; exact m_allc 50 q1w_30 (by rw [List.drop_drop]; exact m_allc 50 q1w_31 (by rw [List.drop_drop]; exact m_allc 50 q1w_32 (by rw [List.drop_drop]; exact m_allc 50 q1w_33 (by rw [List.drop_drop]; exact by rw [List.drop_drop]; exact q1w_e))))))))))))))))))))))))))))))))))
set_option maxRecDepth 100000 in
theorem q1_L_law_ : mQ1 mt_L_law_ := ⟨q1w_all, by decide +kernel, by decide +kernel, by decide +kernel⟩
theorem q2_L_law_ : mQ2 mt_L_law_ := Or.inl rfl
