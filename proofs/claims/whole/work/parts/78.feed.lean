/-! feed -/
/-- a byte of a number, latest place first: shift s -/
def byV (p : Int32) (s : Nat) : Nat := ((p.toBitVec >>> s) &&& 255#32).toNat
theorem byV_lt (p : Int32) (s : Nat) : byV p s < 256 := by
  unfold byV
  rw [BitVec.toNat_and]
  exact Nat.lt_of_le_of_lt Nat.and_le_right (by decide)
theorem byV_nI (p : Int32) (s : Nat) : (nI (byV p s)).toBitVec = (p.toBitVec >>> s) &&& 255#32 := by
  show BitVec.ofNat 32 (byV p s) = _
  unfold byV
  rw [BitVec.ofNat_toNat, BitVec.setWidth_eq]
theorem by_c (p : Int32) : ∀ j, j < 4 → (ushr p (nI (24 - 8 * j))) &&& 255 = nI (byV p (24 - 8 * j)) := fun j hj => by
  apply Int32.toBitVec.inj
  rw [byV_nI]
  match j, hj with
  | 0, _ => rfl
  | 1, _ => rfl
  | 2, _ => rfl
  | 3, _ => rfl
theorem by_s {v : BitVec 32} {s : Nat} (hs' : s ≤ 24) : (v.sshiftRight s).signExtend 8 = ((v >>> s) &&& 255#32).signExtend 8 := by
  rw [BitVec.signExtend_eq_setWidth_of_le _ (by decide), BitVec.signExtend_eq_setWidth_of_le _ (by decide)]
  apply BitVec.eq_of_getLsbD_eq
  intro i hi
  rw [BitVec.getLsbD_setWidth, BitVec.getLsbD_setWidth, BitVec.getLsbD_sshiftRight, BitVec.getLsbD_and, BitVec.getLsbD_ushiftRight]
  have h255 : (255#32).getLsbD i = true := (by decide : ∀ i, i < 8 → (255#32).getLsbD i = true) i hi
  rw [h255, decide_eq_true hi, decide_eq_false (show ¬ 32 ≤ i by omega), if_pos (show s + i < 32 by omega)]
  simp
theorem by_m (p : Int32) : ∀ j, j < 4 → (p >>> (nI (24 - 8 * j) &&& (31 : Int32))).toInt8.toInt32 = (nI (byV p (24 - 8 * j))).toInt8.toInt32 := fun j hj => by
  congr 1
  apply Int8.toBitVec.inj
  have e : (p >>> (nI (24 - 8 * j) &&& (31 : Int32))).toBitVec = p.toBitVec.sshiftRight (24 - 8 * j) := by
    match j, hj with
    | 0, _ => rfl
    | 1, _ => rfl
    | 2, _ => rfl
    | 3, _ => rfl
  show (p >>> (nI (24 - 8 * j) &&& (31 : Int32))).toBitVec.signExtend 8 = (nI (byV p (24 - 8 * j))).toBitVec.signExtend 8
  rw [e, byV_nI, by_s (by omega)]
theorem nar_2 (x : Int32) : vp_nar .byte (x.toInt8.toInt32) = vp_nar .byte x := by
  show (x.toInt8.toInt32).toInt8.toInt32 = x.toInt8.toInt32
  rw [Int8.toInt8_toInt32]
