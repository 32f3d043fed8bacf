set_option maxRecDepth 100000 in
theorem q1w_18 : (((List.zipIdx k_L_law_).drop 900).take 50).all q1w = true := by decide +kernel
set_option maxRecDepth 100000 in
theorem q1w_19 : (((List.zipIdx k_L_law_).drop 950).take 50).all q1w = true := by decide +kernel
set_option maxRecDepth 100000 in
theorem q1w_20 : (((List.zipIdx k_L_law_).drop 1000).take 50).all q1w = true := by decide +kernel
set_option maxRecDepth 100000 in
theorem q1w_21 : (((List.zipIdx k_L_law_).drop 1050).take 50).all q1w = true := by decide +kernel
set_option maxRecDepth 100000 in
theorem q1w_22 : (((List.zipIdx k_L_law_).drop 1100).take 50).all q1w = true := by decide +kernel
set_option maxRecDepth 100000 in
theorem q1w_23 : (((List.zipIdx k_L_law_).drop 1150).take 50).all q1w = true := by decide +kernel
set_option maxRecDepth 100000 in
theorem q1w_24 : (((List.zipIdx k_L_law_).drop 1200).take 50).all q1w = true := by decide +kernel
set_option maxRecDepth 100000 in
theorem q1w_25 : (((List.zipIdx k_L_law_).drop 1250).take 50).all q1w = true := by decide +kernel
set_option maxRecDepth 100000 in
theorem q1w_26 : (((List.zipIdx k_L_law_).drop 1300).take 50).all q1w = true := by decide +kernel
set_option maxRecDepth 100000 in
theorem q1w_27 : (((List.zipIdx k_L_law_).drop 1350).take 50).all q1w = true := by decide +kernel
set_option maxRecDepth 100000 in
theorem q1w_28 : (((List.zipIdx k_L_law_).drop 1400).take 50).all q1w = true := by decide +kernel
set_option maxRecDepth 100000 in
theorem q1w_29 : (((List.zipIdx k_L_law_).drop 1450).take 50).all q1w = true := by decide +kernel
set_option maxRecDepth 100000 in
theorem q1w_30 : (((List.zipIdx k_L_law_).drop 1500).take 50).all q1w = true := by decide +kernel
set_option maxRecDepth 100000 in
theorem q1w_31 : (((List.zipIdx k_L_law_).drop 1550).take 50).all q1w = true := by decide +kernel
set_option maxRecDepth 100000 in
theorem q1w_32 : (((List.zipIdx k_L_law_).drop 1600).take 50).all q1w = true := by decide +kernel
set_option maxRecDepth 100000 in
theorem q1w_33 : (((List.zipIdx k_L_law_).drop 1650).take 50).all q1w = true := by decide +kernel
set_option maxRecDepth 100000 in
theorem q1w_e : ((List.zipIdx k_L_law_).drop 1700).all q1w = true := by decide +kernel
theorem q1r_34 : ((List.zipIdx k_L_law_).drop 1700).all q1w = true := q1w_e
theorem q1r_33 : ((List.zipIdx k_L_law_).drop 1650).all q1w = true := m_allc 50 q1w_33 (by rw [List.drop_drop]; exact q1r_34)
theorem q1r_32 : ((List.zipIdx k_L_law_).drop 1600).all q1w = true := m_allc 50 q1w_32 (by rw [List.drop_drop]; exact q1r_33)
theorem q1r_31 : ((List.zipIdx k_L_law_).drop 1550).all q1w = true := m_allc 50 q1w_31 (by rw [List.drop_drop]; exact q1r_32)
theorem q1r_30 : ((List.zipIdx k_L_law_).drop 1500).all q1w = true := m_allc 50 q1w_30 (by rw [List.drop_drop]; exact q1r_31)
theorem q1r_29 : ((List.zipIdx k_L_law_).drop 1450).all q1w = true := m_allc 50 q1w_29 (by rw [List.drop_drop]; exact q1r_30)
theorem q1r_28 : ((List.zipIdx k_L_law_).drop 1400).all q1w = true := m_allc 50 q1w_28 (by rw [List.drop_drop]; exact q1r_29)
theorem q1r_27 : ((List.zipIdx k_L_law_).drop 1350).all q1w = true := m_allc 50 q1w_27 (by rw [List.drop_drop]; exact q1r_28)
theorem q1r_26 : ((List.zipIdx k_L_law_).drop 1300).all q1w = true := m_allc 50 q1w_26 (by rw [List.drop_drop]; exact q1r_27)
theorem q1r_25 : ((List.zipIdx k_L_law_).drop 1250).all q1w = true := m_allc 50 q1w_25 (by rw [List.drop_drop]; exact q1r_26)
theorem q1r_24 : ((List.zipIdx k_L_law_).drop 1200).all q1w = true := m_allc 50 q1w_24 (by rw [List.drop_drop]; exact q1r_25)
theorem q1r_23 : ((List.zipIdx k_L_law_).drop 1150).all q1w = true := m_allc 50 q1w_23 (by rw [List.drop_drop]; exact q1r_24)
theorem q1r_22 : ((List.zipIdx k_L_law_).drop 1100).all q1w = true := m_allc 50 q1w_22 (by rw [List.drop_drop]; exact q1r_23)
theorem q1r_21 : ((List.zipIdx k_L_law_).drop 1050).all q1w = true := m_allc 50 q1w_21 (by rw [List.drop_drop]; exact q1r_22)
theorem q1r_20 : ((List.zipIdx k_L_law_).drop 1000).all q1w = true := m_allc 50 q1w_20 (by rw [List.drop_drop]; exact q1r_21)
theorem q1r_19 : ((List.zipIdx k_L_law_).drop 950).all q1w = true := m_allc 50 q1w_19 (by rw [List.drop_drop]; exact q1r_20)
theorem q1r_18 : ((List.zipIdx k_L_law_).drop 900).all q1w = true := m_allc 50 q1w_18 (by rw [List.drop_drop]; exact q1r_19)
theorem q1r_17 : ((List.zipIdx k_L_law_).drop 850).all q1w = true := m_allc 50 q1w_17 (by rw [List.drop_drop]; exact q1r_18)
theorem q1r_16 : ((List.zipIdx k_L_law_).drop 800).all q1w = true := m_allc 50 q1w_16 (by rw [List.drop_drop]; exact q1r_17)
theorem q1r_15 : ((List.zipIdx k_L_law_).drop 750).all q1w = true := m_allc 50 q1w_15 (by rw [List.drop_drop]; exact q1r_16)
theorem q1r_14 : ((List.zipIdx k_L_law_).drop 700).all q1w = true := m_allc 50 q1w_14 (by rw [List.drop_drop]; exact q1r_15)
theorem q1r_13 : ((List.zipIdx k_L_law_).drop 650).all q1w = true := m_allc 50 q1w_13 (by rw [List.drop_drop]; exact q1r_14)
theorem q1r_12 : ((List.zipIdx k_L_law_).drop 600).all q1w = true := m_allc 50 q1w_12 (by rw [List.drop_drop]; exact q1r_13)
theorem q1r_11 : ((List.zipIdx k_L_law_).drop 550).all q1w = true := m_allc 50 q1w_11 (by rw [List.drop_drop]; exact q1r_12)
theorem q1r_10 : ((List.zipIdx k_L_law_).drop 500).all q1w = true := m_allc 50 q1w_10 (by rw [List.drop_drop]; exact q1r_11)
theorem q1r_9 : ((List.zipIdx k_L_law_).drop 450).all q1w = true := m_allc 50 q1w_9 (by rw [List.drop_drop]; exact q1r_10)
theorem q1r_8 : ((List.zipIdx k_L_law_).drop 400).all q1w = true := m_allc 50 q1w_8 (by rw [List.drop_drop]; exact q1r_9)
theorem q1r_7 : ((List.zipIdx k_L_law_).drop 350).all q1w = true := m_allc 50 q1w_7 (by rw [List.drop_drop]; exact q1r_8)
theorem q1r_6 : ((List.zipIdx k_L_law_).drop 300).all q1w = true := m_allc 50 q1w_6 (by rw [List.drop_drop]; exact q1r_7)
theorem q1r_5 : ((List.zipIdx k_L_law_).drop 250).all q1w = true := m_allc 50 q1w_5 (by rw [List.drop_drop]; exact q1r_6)
theorem q1r_4 : ((List.zipIdx k_L_law_).drop 200).all q1w = true := m_allc 50 q1w_4 (by rw [List.drop_drop]; exact q1r_5)
theorem q1r_3 : ((List.zipIdx k_L_law_).drop 150).all q1w = true := m_allc 50 q1w_3 (by rw [List.drop_drop]; exact q1r_4)
theorem q1r_2 : ((List.zipIdx k_L_law_).drop 100).all q1w = true := m_allc 50 q1w_2 (by rw [List.drop_drop]; exact q1r_3)
theorem q1r_1 : ((List.zipIdx k_L_law_).drop 50).all q1w = true := m_allc 50 q1w_1 (by rw [List.drop_drop]; exact q1r_2)
theorem q1r_0 : ((List.zipIdx k_L_law_).drop 0).all q1w = true := m_allc 50 q1w_0 (by rw [List.drop_drop]; exact q1r_1)
theorem q1w_all : (List.zipIdx k_L_law_).all q1w = true := q1r_0
set_option maxRecDepth 100000 in
theorem q1_L_law_ : mQ1 mt_L_law_ := ⟨q1w_all, by decide +kernel, by decide +kernel, by decide +kernel⟩
theorem q2_L_law_ : mQ2 mt_L_law_ := Or.inl rfl
