theorem m_allc {a : Type} {f : a → Bool} {l : List a} (k : Nat) (h1 : (l.take k).all f = true) (h2 : (l.drop k).all f = true) : l.all f = true := by
  rw [← List.take_append_drop k l, List.all_append, h1, h2]; rfl
def q1w : mE × Nat → Bool := fun q => mOkE yL_law_.cls cL_law_ k_L_law_ q.2 q.1
set_option maxRecDepth 100000 in
theorem q1w_0 : (((List.zipIdx k_L_law_).drop 0).take 50).all q1w = true := by decide +kernel
set_option maxRecDepth 100000 in
theorem q1w_1 : (((List.zipIdx k_L_law_).drop 50).take 50).all q1w = true := by decide +kernel
set_option maxRecDepth 100000 in
theorem q1w_2 : (((List.zipIdx k_L_law_).drop 100).take 50).all q1w = true := by decide +kernel
set_option maxRecDepth 100000 in
theorem q1w_3 : (((List.zipIdx k_L_law_).drop 150).take 50).all q1w = true := by decide +kernel
set_option maxRecDepth 100000 in
theorem q1w_4 : (((List.zipIdx k_L_law_).drop 200).take 50).all q1w = true := by decide +kernel
set_option maxRecDepth 100000 in
theorem q1w_5 : (((List.zipIdx k_L_law_).drop 250).take 50).all q1w = true := by decide +kernel
set_option maxRecDepth 100000 in
theorem q1w_6 : (((List.zipIdx k_L_law_).drop 300).take 50).all q1w = true := by decide +kernel
set_option maxRecDepth 100000 in
theorem q1w_7 : (((List.zipIdx k_L_law_).drop 350).take 50).all q1w = true := by decide +kernel
set_option maxRecDepth 100000 in
theorem q1w_8 : (((List.zipIdx k_L_law_).drop 400).take 50).all q1w = true := by decide +kernel
