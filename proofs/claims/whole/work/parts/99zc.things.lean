/-! the things by their numbers, as the constructors made them -/
def gAf (b q0 qo : Nat) (u : (Nat → Nat → Nat) × Nat × (Nat → Nat → Nat)) (um adK : Nat → Nat) (o : Nat) : Nat :=
  bif Nat.ble 400 o then adK (o - 400) else bif Nat.beq o 0 then q0 else bif Nat.blt o 3 then u.1 0 (o - 1) else bif Nat.beq o 3 then u.2.1 else bif Nat.beq o 4 then u.2.2 0 0 else bif Nat.blt o 10 then u.1 7 (o - 5) else bif Nat.blt o 13 then u.1 8 (o - 10) else bif Nat.blt o 17 then u.1 9 (o - 13) else bif Nat.blt o 35 then u.1 (4 + (o - 17) / 6) ((o - 17) % 6) else bif Nat.blt o 71 then u.1 (1 + (o - 35) / 12) ((o - 35) % 12) else bif Nat.blt o 215 then u.2.2 ((o - 71) / 12 + 1) ((o - 71) % 12) else bif Nat.blt o 231 then um (o - 215) else bif Nat.beq o 231 then qo else b
def gE (D : va_G) (gc : Nat → ClassId) (z b q0 qo : Nat) (u : (Nat → Nat → Nat) × Nat × (Nat → Nat → Nat)) (um adK adV : Nat → Nat) : mG := (D, gc, gAf b q0 qo u um adK, z, adV)
def fE (G : mG) (xs : Nat → Int32) (len : Nat) (o : Nat) : Nat × va_E := (gA G o, mCel G (mM0 xs len) o)
section
variable {D : va_G} {gc : Nat → ClassId} {z b q0 qo : Nat} {u : (Nat → Nat → Nat) × Nat × (Nat → Nat → Nat)} {um adK adV : Nat → Nat} {xs : Nat → Int32} {len : Nat}
theorem gE_txt (j : Nat) : gA (gE D gc z b q0 qo u um adK adV) (400 + j) = adK j := by
  show (bif Nat.ble 400 (400 + j) then adK (400 + j - 400) else _) = adK j
  rw [Nat.ble_eq_true_of_le (Nat.le_add_right 400 j), cond_true, Nat.add_sub_cancel_left]
set_option maxRecDepth 100000 in
set_option maxHeartbeats 4000000 in
theorem blk_0 : [0].map (fE (gE D gc z b q0 qo u um adK adV) xs len) = [(q0, (.inr (8, [.ref (u.1 0 0), .ref (u.1 1 0), .ref (u.1 2 0), .ref (u.1 3 0), .ref (u.1 4 0), .ref (u.1 5 0), .ref (u.1 6 0), .ref u.2.1, .ref (u.1 7 0), .ref (u.1 8 0), .ref (u.1 9 0), .int 0]) : va_E))] := rfl
set_option maxRecDepth 100000 in
set_option maxHeartbeats 4000000 in
theorem blk_1 : [1, 2].map (fE (gE D gc z b q0 qo u um adK adV) xs len) = wtX7 (gE D gc z b q0 qo u um adK adV) (u.1 0) := rfl
set_option maxRecDepth 100000 in
set_option maxHeartbeats 4000000 in
theorem blk_2 : [3, 4].map (fE (gE D gc z b q0 qo u um adK adV) xs len) = [(u.2.1, (.inr (2, [.ref (u.2.2 0 0), .int 0, .int 0]) : va_E)), (u.2.2 0 0, (.inl (gC (gE D gc z b q0 qo u um adK adV) 14, 12, .inr (.inr (.inr (.inr (fun j => some (gA (gE D gc z b q0 qo u um adK adV) (71 + 12 * j))))))) : va_E))] := rfl
set_option maxRecDepth 100000 in
set_option maxHeartbeats 4000000 in
theorem blk_3 : [5, 6, 7, 8, 9].map (fE (gE D gc z b q0 qo u um adK adV) xs len) = wtX6 (gE D gc z b q0 qo u um adK adV) (u.1 7) := rfl
set_option maxRecDepth 100000 in
set_option maxHeartbeats 4000000 in
theorem blk_4 : [10, 11, 12].map (fE (gE D gc z b q0 qo u um adK adV) xs len) = wtX5 (gE D gc z b q0 qo u um adK adV) (u.1 8) := rfl
set_option maxRecDepth 100000 in
set_option maxHeartbeats 4000000 in
theorem blk_5 : [13, 14, 15, 16].map (fE (gE D gc z b q0 qo u um adK adV) xs len) = wtX4 (gE D gc z b q0 qo u um adK adV) (u.1 9) := rfl
set_option maxRecDepth 100000 in
set_option maxHeartbeats 4000000 in
theorem blk_6 : [17, 18, 19, 20, 21, 22].map (fE (gE D gc z b q0 qo u um adK adV) xs len) = wtX0 (gE D gc z b q0 qo u um adK adV) (u.1 4) := rfl
set_option maxRecDepth 100000 in
set_option maxHeartbeats 4000000 in
theorem blk_7 : [23, 24, 25, 26, 27, 28].map (fE (gE D gc z b q0 qo u um adK adV) xs len) = wtX0 (gE D gc z b q0 qo u um adK adV) (u.1 5) := rfl
set_option maxRecDepth 100000 in
set_option maxHeartbeats 4000000 in
theorem blk_8 : [29, 30, 31, 32, 33, 34].map (fE (gE D gc z b q0 qo u um adK adV) xs len) = wtX0 (gE D gc z b q0 qo u um adK adV) (u.1 6) := rfl
set_option maxRecDepth 100000 in
set_option maxHeartbeats 4000000 in
theorem blk_9 : [35, 36, 37, 38, 39, 40, 41, 42, 43, 44, 45, 46].map (fE (gE D gc z b q0 qo u um adK adV) xs len) = wtX9 (gE D gc z b q0 qo u um adK adV) (u.1 1) := rfl
set_option maxRecDepth 100000 in
set_option maxHeartbeats 4000000 in
theorem blk_10 : [47, 48, 49, 50, 51, 52, 53, 54, 55, 56, 57, 58].map (fE (gE D gc z b q0 qo u um adK adV) xs len) = wtX9 (gE D gc z b q0 qo u um adK adV) (u.1 2) := rfl
set_option maxRecDepth 100000 in
set_option maxHeartbeats 4000000 in
theorem blk_11 : [59, 60, 61, 62, 63, 64, 65, 66, 67, 68, 69, 70].map (fE (gE D gc z b q0 qo u um adK adV) xs len) = wtX9 (gE D gc z b q0 qo u um adK adV) (u.1 3) := rfl
set_option maxRecDepth 100000 in
set_option maxHeartbeats 4000000 in
theorem blk_12_0 : [71, 72, 73, 74, 75, 76, 77, 78, 79, 80, 81, 82].map (fE (gE D gc z b q0 qo u um adK adV) xs len) = wtX9 (gE D gc z b q0 qo u um adK adV) (u.2.2 (0 + 1)) := rfl
set_option maxRecDepth 100000 in
set_option maxHeartbeats 4000000 in
theorem blk_12_1 : [83, 84, 85, 86, 87, 88, 89, 90, 91, 92, 93, 94].map (fE (gE D gc z b q0 qo u um adK adV) xs len) = wtX9 (gE D gc z b q0 qo u um adK adV) (u.2.2 (1 + 1)) := rfl
set_option maxRecDepth 100000 in
set_option maxHeartbeats 4000000 in
theorem blk_12_2 : [95, 96, 97, 98, 99, 100, 101, 102, 103, 104, 105, 106].map (fE (gE D gc z b q0 qo u um adK adV) xs len) = wtX9 (gE D gc z b q0 qo u um adK adV) (u.2.2 (2 + 1)) := rfl
set_option maxRecDepth 100000 in
set_option maxHeartbeats 4000000 in
theorem blk_12_3 : [107, 108, 109, 110, 111, 112, 113, 114, 115, 116, 117, 118].map (fE (gE D gc z b q0 qo u um adK adV) xs len) = wtX9 (gE D gc z b q0 qo u um adK adV) (u.2.2 (3 + 1)) := rfl
set_option maxRecDepth 100000 in
set_option maxHeartbeats 4000000 in
theorem blk_12_4 : [119, 120, 121, 122, 123, 124, 125, 126, 127, 128, 129, 130].map (fE (gE D gc z b q0 qo u um adK adV) xs len) = wtX9 (gE D gc z b q0 qo u um adK adV) (u.2.2 (4 + 1)) := rfl
set_option maxRecDepth 100000 in
set_option maxHeartbeats 4000000 in
theorem blk_12_5 : [131, 132, 133, 134, 135, 136, 137, 138, 139, 140, 141, 142].map (fE (gE D gc z b q0 qo u um adK adV) xs len) = wtX9 (gE D gc z b q0 qo u um adK adV) (u.2.2 (5 + 1)) := rfl
set_option maxRecDepth 100000 in
set_option maxHeartbeats 4000000 in
theorem blk_12_6 : [143, 144, 145, 146, 147, 148, 149, 150, 151, 152, 153, 154].map (fE (gE D gc z b q0 qo u um adK adV) xs len) = wtX9 (gE D gc z b q0 qo u um adK adV) (u.2.2 (6 + 1)) := rfl
set_option maxRecDepth 100000 in
set_option maxHeartbeats 4000000 in
theorem blk_12_7 : [155, 156, 157, 158, 159, 160, 161, 162, 163, 164, 165, 166].map (fE (gE D gc z b q0 qo u um adK adV) xs len) = wtX9 (gE D gc z b q0 qo u um adK adV) (u.2.2 (7 + 1)) := rfl
set_option maxRecDepth 100000 in
set_option maxHeartbeats 4000000 in
theorem blk_12_8 : [167, 168, 169, 170, 171, 172, 173, 174, 175, 176, 177, 178].map (fE (gE D gc z b q0 qo u um adK adV) xs len) = wtX9 (gE D gc z b q0 qo u um adK adV) (u.2.2 (8 + 1)) := rfl
set_option maxRecDepth 100000 in
set_option maxHeartbeats 4000000 in
theorem blk_12_9 : [179, 180, 181, 182, 183, 184, 185, 186, 187, 188, 189, 190].map (fE (gE D gc z b q0 qo u um adK adV) xs len) = wtX9 (gE D gc z b q0 qo u um adK adV) (u.2.2 (9 + 1)) := rfl
set_option maxRecDepth 100000 in
set_option maxHeartbeats 4000000 in
theorem blk_12_10 : [191, 192, 193, 194, 195, 196, 197, 198, 199, 200, 201, 202].map (fE (gE D gc z b q0 qo u um adK adV) xs len) = wtX9 (gE D gc z b q0 qo u um adK adV) (u.2.2 (10 + 1)) := rfl
set_option maxRecDepth 100000 in
set_option maxHeartbeats 4000000 in
theorem blk_12_11 : [203, 204, 205, 206, 207, 208, 209, 210, 211, 212, 213, 214].map (fE (gE D gc z b q0 qo u um adK adV) xs len) = wtX9 (gE D gc z b q0 qo u um adK adV) (u.2.2 (11 + 1)) := rfl
set_option maxRecDepth 100000 in
set_option maxHeartbeats 4000000 in
theorem blk_13a : mCel (gE D gc z b q0 qo u um adK adV) (mM0 xs len) 216 = .inl (gC (gE D gc z b q0 qo u um adK adV) 10, 2122, .inl (upd (upd (fun _ => 0) 5 1) 7 1)) := by
  have e : mM0 xs len 216 = upd (upd (fun _ => 0) 5 1) 7 1 := by
    funext k
    show (bif Nat.beq k 5 || Nat.beq k 7 then (1 : Int32) else 0) = if k = 7 then 1 else if k = 5 then 1 else 0
    by_cases h7 : k = 7
    · subst h7; rfl
    · by_cases h5 : k = 5
      · subst h5; rfl
      · have e : ∀ a b : Nat, a ≠ b → Nat.beq a b = false := fun a b h => by cases e : Nat.beq a b with | false => rfl | true => exact absurd (Nat.eq_of_beq_eq_true e) h
        rw [e _ _ h5, e _ _ h7, if_neg h7, if_neg h5]
        rfl
  rw [mCel_a (o := 216) (c := 10) rfl (by decide) (by decide), e]
  rfl
set_option maxRecDepth 100000 in
set_option maxHeartbeats 4000000 in
theorem blk_13 : [215, 216, 217, 218, 219, 220, 221, 222, 223, 224, 225, 226, 227, 228, 229, 230].map (fE (gE D gc z b q0 qo u um adK adV) xs len) = wtX12 (gE D gc z b q0 qo u um adK adV) um := by
  show (gA (gE D gc z b q0 qo u um adK adV) 215, mCel (gE D gc z b q0 qo u um adK adV) (mM0 xs len) 215) :: (gA (gE D gc z b q0 qo u um adK adV) 216, mCel (gE D gc z b q0 qo u um adK adV) (mM0 xs len) 216) :: [217, 218, 219, 220, 221, 222, 223, 224, 225, 226, 227, 228, 229, 230].map (fE (gE D gc z b q0 qo u um adK adV) xs len) = _
  rw [blk_13a]
  rfl
set_option maxRecDepth 100000 in
set_option maxHeartbeats 4000000 in
theorem blk_14 : [231].map (fE (gE D gc z b q0 qo u um adK adV) xs len) = [(qo, (.inl (gC (gE D gc z b q0 qo u um adK adV) 13, 1, .inr (.inl (fun _ => 0))) : va_E))] := rfl
set_option maxRecDepth 100000 in
theorem rng_232 : List.range 232 = [0] ++ ([1, 2] ++ ([3, 4] ++ ([5, 6, 7, 8, 9] ++ ([10, 11, 12] ++ ([13, 14, 15, 16] ++ ([17, 18, 19, 20, 21, 22] ++ ([23, 24, 25, 26, 27, 28] ++ ([29, 30, 31, 32, 33, 34] ++ ([35, 36, 37, 38, 39, 40, 41, 42, 43, 44, 45, 46] ++ ([47, 48, 49, 50, 51, 52, 53, 54, 55, 56, 57, 58] ++ ([59, 60, 61, 62, 63, 64, 65, 66, 67, 68, 69, 70] ++ ([71, 72, 73, 74, 75, 76, 77, 78, 79, 80, 81, 82] ++ ([83, 84, 85, 86, 87, 88, 89, 90, 91, 92, 93, 94] ++ ([95, 96, 97, 98, 99, 100, 101, 102, 103, 104, 105, 106] ++ ([107, 108, 109, 110, 111, 112, 113, 114, 115, 116, 117, 118] ++ ([119, 120, 121, 122, 123, 124, 125, 126, 127, 128, 129, 130] ++ ([131, 132, 133, 134, 135, 136, 137, 138, 139, 140, 141, 142] ++ ([143, 144, 145, 146, 147, 148, 149, 150, 151, 152, 153, 154] ++ ([155, 156, 157, 158, 159, 160, 161, 162, 163, 164, 165, 166] ++ ([167, 168, 169, 170, 171, 172, 173, 174, 175, 176, 177, 178] ++ ([179, 180, 181, 182, 183, 184, 185, 186, 187, 188, 189, 190] ++ ([191, 192, 193, 194, 195, 196, 197, 198, 199, 200, 201, 202] ++ ([203, 204, 205, 206, 207, 208, 209, 210, 211, 212, 213, 214] ++ ([215, 216, 217, 218, 219, 220, 221, 222, 223, 224, 225, 226, 227, 228, 229, 230] ++ ([231]))))))))))))))))))))))))) := by decide +kernel
set_option maxRecDepth 100000 in
theorem tw_12 (G : mG) (v : Nat → Nat → Nat) : (List.range 12).flatMap (fun t => wtX9 G (v (t + 1))) = wtX9 G (v (0 + 1)) ++ (wtX9 G (v (1 + 1)) ++ (wtX9 G (v (2 + 1)) ++ (wtX9 G (v (3 + 1)) ++ (wtX9 G (v (4 + 1)) ++ (wtX9 G (v (5 + 1)) ++ (wtX9 G (v (6 + 1)) ++ (wtX9 G (v (7 + 1)) ++ (wtX9 G (v (8 + 1)) ++ (wtX9 G (v (9 + 1)) ++ (wtX9 G (v (10 + 1)) ++ (wtX9 G (v (11 + 1)) ++ []))))))))))) := rfl
set_option maxRecDepth 100000 in
set_option maxHeartbeats 4000000 in
theorem mWs_0 : mWs (gE D gc z b q0 qo u um adK adV) (mM0 xs len) = [(q0, (.inr (8, [.ref (u.1 0 0), .ref (u.1 1 0), .ref (u.1 2 0), .ref (u.1 3 0), .ref (u.1 4 0), .ref (u.1 5 0), .ref (u.1 6 0), .ref u.2.1, .ref (u.1 7 0), .ref (u.1 8 0), .ref (u.1 9 0), .int 0]) : va_E))] ++ (wtX7 (gE D gc z b q0 qo u um adK adV) (u.1 0) ++ ([(u.2.1, (.inr (2, [.ref (u.2.2 0 0), .int 0, .int 0]) : va_E)), (u.2.2 0 0, (.inl (gC (gE D gc z b q0 qo u um adK adV) 14, 12, .inr (.inr (.inr (.inr (fun j => some (gA (gE D gc z b q0 qo u um adK adV) (71 + 12 * j))))))) : va_E))] ++ (wtX6 (gE D gc z b q0 qo u um adK adV) (u.1 7) ++ (wtX5 (gE D gc z b q0 qo u um adK adV) (u.1 8) ++ (wtX4 (gE D gc z b q0 qo u um adK adV) (u.1 9) ++ (wtX0 (gE D gc z b q0 qo u um adK adV) (u.1 4) ++ (wtX0 (gE D gc z b q0 qo u um adK adV) (u.1 5) ++ (wtX0 (gE D gc z b q0 qo u um adK adV) (u.1 6) ++ (wtX9 (gE D gc z b q0 qo u um adK adV) (u.1 1) ++ (wtX9 (gE D gc z b q0 qo u um adK adV) (u.1 2) ++ (wtX9 (gE D gc z b q0 qo u um adK adV) (u.1 3) ++ ((List.range 12).flatMap (fun t => wtX9 (gE D gc z b q0 qo u um adK adV) (u.2.2 (t + 1))) ++ (wtX12 (gE D gc z b q0 qo u um adK adV) um ++ ([(qo, (.inl (gC (gE D gc z b q0 qo u um adK adV) 13, 1, .inr (.inl (fun _ => 0))) : va_E))])))))))))))))) := by
  show (List.range 232).map (fE (gE D gc z b q0 qo u um adK adV) xs len) = _
  rw [rng_232, tw_12]
  simp only [List.map_append, blk_0, blk_1, blk_2, blk_3, blk_4, blk_5, blk_6, blk_7, blk_8, blk_9, blk_10, blk_11, blk_12_0, blk_12_1, blk_12_2, blk_12_3, blk_12_4, blk_12_5, blk_12_6, blk_12_7, blk_12_8, blk_12_9, blk_12_10, blk_12_11, blk_13, blk_14, List.append_assoc, List.nil_append, List.append_nil]
end
theorem pm_15 (b : Nat → va_W) : (((b 0 ++ ((((((((((([] ++ b 1) ++ b 9) ++ b 10) ++ b 11) ++ b 6) ++ b 7) ++ b 8) ++ (b 2 ++ b 12)) ++ b 3) ++ b 4) ++ b 5)) ++ b 13) ++ b 14).Perm (b 0 ++ (b 1 ++ (b 2 ++ (b 3 ++ (b 4 ++ (b 5 ++ (b 6 ++ (b 7 ++ (b 8 ++ (b 9 ++ (b 10 ++ (b 11 ++ (b 12 ++ (b 13 ++ b 14)))))))))))))) := by
  have e1 : (((b 0 ++ ((((((((((([] ++ b 1) ++ b 9) ++ b 10) ++ b 11) ++ b 6) ++ b 7) ++ b 8) ++ (b 2 ++ b 12)) ++ b 3) ++ b 4) ++ b 5)) ++ b 13) ++ b 14) = [0, 1, 9, 10, 11, 6, 7, 8, 2, 12, 3, 4, 5, 13, 14].flatMap b := by
    simp only [List.flatMap_cons, List.flatMap_nil, List.append_assoc, List.nil_append, List.append_nil]
  have e2 : (b 0 ++ (b 1 ++ (b 2 ++ (b 3 ++ (b 4 ++ (b 5 ++ (b 6 ++ (b 7 ++ (b 8 ++ (b 9 ++ (b 10 ++ (b 11 ++ (b 12 ++ (b 13 ++ b 14)))))))))))))) = [0, 1, 2, 3, 4, 5, 6, 7, 8, 9, 10, 11, 12, 13, 14].flatMap b := by
    simp only [List.flatMap_cons, List.flatMap_nil, List.append_assoc, List.nil_append, List.append_nil]
  rw [e1, e2]
  exact List.Perm.flatMap_right b (by decide)
theorem va_D.perm {A : Nat → Prop} {ws ws' : va_W} (h : va_D A ws) (hp : ws.Perm ws') : va_D A ws' := by
  have n1 : List.Pairwise (fun a b => a ≠ b) (ws.map Prod.fst) := List.pairwise_iff_getElem.mpr (fun i j hi hj hij e => by
    have hi' : i < ws.length := by rw [List.length_map] at hi; exact hi
    have hj' : j < ws.length := by rw [List.length_map] at hj; exact hj
    rw [List.getElem_map, List.getElem_map] at e
    have := h.1 i j _ _ (List.getElem?_eq_getElem hi') (List.getElem?_eq_getElem hj') e
    omega)
  have n2 : (ws'.map Prod.fst).Nodup := (hp.map Prod.fst).nodup n1
  refine ⟨fun i j x y hx hy e => ?_, fun k q hq => ?_⟩
  · have hi : i < (ws'.map Prod.fst).length := by rw [List.length_map]; exact (List.getElem?_eq_some_iff.mp hx).1
    refine (List.getElem?_inj hi n2).mp ?_
    rw [List.getElem?_map, List.getElem?_map, hx, hy]
    show some x.1 = some y.1
    rw [e]
  · obtain ⟨i, hi⟩ := List.getElem?_of_mem (hp.mem_iff.mpr (List.mem_of_getElem? hq))
    exact h.2 i q hi
theorem va_P.perm {D : va_G} {cl : List vw_C} {ws ws' : va_W} {H : Heap} (h : va_P D cl ws H) (hp : ws.Perm ws') : va_P D cl ws' H := fun k q hq => by
  obtain ⟨i, hi⟩ := List.getElem?_of_mem (hp.mem_iff.mpr (List.mem_of_getElem? hq))
  exact h i q hi
theorem alt_P {D : va_G} {cl : List vw_C} {H : Heap} {e1 t1 t2 p1 : Nat × va_E} {a : Nat} {x x' : va_E} {R : va_W} (h : va_P D cl ([e1] ++ ([t1, t2] ++ ([p1, (a, x)] ++ R))) H) (he : va_at D cl (a, x) H → va_at D cl (a, x') H) : va_P D cl ([e1] ++ ([t1, t2] ++ ([p1, (a, x')] ++ R))) H := h.alter (k := 4) rfl he
theorem alt_D {A : Nat → Prop} {e1 t1 t2 p1 : Nat × va_E} {a : Nat} {x x' : va_E} {R : va_W} (h : va_D A ([e1] ++ ([t1, t2] ++ ([p1, (a, x)] ++ R)))) : va_D A ([e1] ++ ([t1, t2] ++ ([p1, (a, x')] ++ R))) := h.set (p := 4) rfl
section
variable {D : va_G} {gc : Nat → ClassId} {z b q0 qo : Nat} {u : (Nat → Nat → Nat) × Nat × (Nat → Nat → Nat)} {um adK adV : Nat → Nat} {xs : Nat → Int32} {len : Nat} {H : Heap} {A : Nat → Prop}
def bkE (G : mG) (q0 qo : Nat) (u : (Nat → Nat → Nat) × Nat × (Nat → Nat → Nat)) (um : Nat → Nat) : Nat → va_W := fun k => [[(q0, (.inr (8, [.ref (u.1 0 0), .ref (u.1 1 0), .ref (u.1 2 0), .ref (u.1 3 0), .ref (u.1 4 0), .ref (u.1 5 0), .ref (u.1 6 0), .ref u.2.1, .ref (u.1 7 0), .ref (u.1 8 0), .ref (u.1 9 0), .int 0]) : va_E))], wtX7 G (u.1 0), [(u.2.1, (.inr (2, [.ref (u.2.2 0 0), .int 0, .int 0]) : va_E)), (u.2.2 0 0, (.inl (gC G 14, 12, .inr (.inr (.inr (.inr (fun j => some (u.2.2 (j + 1) 0)))))) : va_E))], wtX6 G (u.1 7), wtX5 G (u.1 8), wtX4 G (u.1 9), wtX0 G (u.1 4), wtX0 G (u.1 5), wtX0 G (u.1 6), wtX9 G (u.1 1), wtX9 G (u.1 2), wtX9 G (u.1 3), (List.range 12).flatMap (fun t => wtX9 G (u.2.2 (t + 1))), wtX12 G um, [(qo, (.inl (gC G 13, 1, .inr (.inl (fun _ => 0))) : va_E))]].getD k []
set_option maxRecDepth 100000 in
set_option maxHeartbeats 4000000 in
theorem pm_L : ((wtX11 (gE D gc z b q0 qo u um adK adV) q0 u ++ wtX12 (gE D gc z b q0 qo u um adK adV) um) ++ [(qo, (.inl (gC (gE D gc z b q0 qo u um adK adV) 13, 1, .inr (.inl (fun _ => 0))) : va_E))]).Perm ([(q0, (.inr (8, [.ref (u.1 0 0), .ref (u.1 1 0), .ref (u.1 2 0), .ref (u.1 3 0), .ref (u.1 4 0), .ref (u.1 5 0), .ref (u.1 6 0), .ref u.2.1, .ref (u.1 7 0), .ref (u.1 8 0), .ref (u.1 9 0), .int 0]) : va_E))] ++ (wtX7 (gE D gc z b q0 qo u um adK adV) (u.1 0) ++ ([(u.2.1, (.inr (2, [.ref (u.2.2 0 0), .int 0, .int 0]) : va_E)), (u.2.2 0 0, (.inl (gC (gE D gc z b q0 qo u um adK adV) 14, 12, .inr (.inr (.inr (.inr (fun j => some (u.2.2 (j + 1) 0)))))) : va_E))] ++ (wtX6 (gE D gc z b q0 qo u um adK adV) (u.1 7) ++ (wtX5 (gE D gc z b q0 qo u um adK adV) (u.1 8) ++ (wtX4 (gE D gc z b q0 qo u um adK adV) (u.1 9) ++ (wtX0 (gE D gc z b q0 qo u um adK adV) (u.1 4) ++ (wtX0 (gE D gc z b q0 qo u um adK adV) (u.1 5) ++ (wtX0 (gE D gc z b q0 qo u um adK adV) (u.1 6) ++ (wtX9 (gE D gc z b q0 qo u um adK adV) (u.1 1) ++ (wtX9 (gE D gc z b q0 qo u um adK adV) (u.1 2) ++ (wtX9 (gE D gc z b q0 qo u um adK adV) (u.1 3) ++ ((List.range 12).flatMap (fun t => wtX9 (gE D gc z b q0 qo u um adK adV) (u.2.2 (t + 1))) ++ (wtX12 (gE D gc z b q0 qo u um adK adV) um ++ ([(qo, (.inl (gC (gE D gc z b q0 qo u um adK adV) 13, 1, .inr (.inl (fun _ => 0))) : va_E))]))))))))))))))) := pm_15 (bkE (gE D gc z b q0 qo u um adK adV) q0 qo u um)
theorem old_new : ∀ j, j < 12 → some (u.2.2 (j + 1) 0) = some (gA (gE D gc z b q0 qo u um adK adV) (71 + 12 * j)) := fun j hj => by
  rcases (show j = 0 ∨ j = 1 ∨ j = 2 ∨ j = 3 ∨ j = 4 ∨ j = 5 ∨ j = 6 ∨ j = 7 ∨ j = 8 ∨ j = 9 ∨ j = 10 ∨ j = 11 by omega) with rfl | rfl | rfl | rfl | rfl | rfl | rfl | rfl | rfl | rfl | rfl | rfl <;> rfl
set_option maxRecDepth 100000 in
set_option maxHeartbeats 4000000 in
theorem wPs_0 (h : va_P D vwCl ((wtX11 (gE D gc z b q0 qo u um adK adV) q0 u ++ wtX12 (gE D gc z b q0 qo u um adK adV) um) ++ [(qo, (.inl (gC (gE D gc z b q0 qo u um adK adV) 13, 1, .inr (.inl (fun _ => 0))) : va_E))]) H) : va_P D vwCl (mWs (gE D gc z b q0 qo u um adK adV) (mM0 xs len)) H := by
  rw [mWs_0]
  exact alt_P (x := .inl (gC (gE D gc z b q0 qo u um adK adV) 14, 12, .inr (.inr (.inr (.inr (fun j => some (u.2.2 (j + 1) 0))))))) (h.perm pm_L) (va_at_q old_new)
set_option maxRecDepth 100000 in
set_option maxHeartbeats 4000000 in
theorem wDs_0 (h : va_D A ((wtX11 (gE D gc z b q0 qo u um adK adV) q0 u ++ wtX12 (gE D gc z b q0 qo u um adK adV) um) ++ [(qo, (.inl (gC (gE D gc z b q0 qo u um adK adV) 13, 1, .inr (.inl (fun _ => 0))) : va_E))])) : va_D A (mWs (gE D gc z b q0 qo u um adK adV) (mM0 xs len)) := by
  rw [mWs_0]
  exact alt_D (x := .inl (gC (gE D gc z b q0 qo u um adK adV) 14, 12, .inr (.inr (.inr (.inr (fun j => some (u.2.2 (j + 1) 0))))))) (h.perm pm_L)
end
