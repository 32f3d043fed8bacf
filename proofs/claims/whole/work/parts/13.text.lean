/-! the library's length and charAt of a constant text -/
theorem eJ0_length_8abf5_0 : decode cJ0_length_8abf5 0 = .ok (.aload_n 0, 1) := by decide +kernel
theorem eJ0_length_8abf5_1 : decode cJ0_length_8abf5 1 = .ok (.getfield 9, 3) := by decide +kernel
theorem eJ0_length_8abf5_4 : decode cJ0_length_8abf5 4 = .ok (.arraylength, 1) := by decide +kernel
theorem eJ0_length_8abf5_5 : decode cJ0_length_8abf5 5 = .ok (.aload_n 0, 1) := by decide +kernel
theorem eJ0_length_8abf5_6 : decode cJ0_length_8abf5 6 = .ok (.invokevirtual 335, 3) := by decide +kernel
theorem eJ0_length_8abf5_9 : decode cJ0_length_8abf5 9 = .ok (.ishr, 1) := by decide +kernel
theorem eJ0_length_8abf5_10 : decode cJ0_length_8abf5 10 = .ok (.ireturn, 1) := by decide +kernel
theorem eJ0_charAt_5068e_0 : decode cJ0_charAt_5068e 0 = .ok (.aload_n 0, 1) := by decide +kernel
theorem eJ0_charAt_5068e_1 : decode cJ0_charAt_5068e 1 = .ok (.invokevirtual 492, 3) := by decide +kernel
theorem eJ0_charAt_5068e_4 : decode cJ0_charAt_5068e 4 = .ok (.ifCond .eq 12, 3) := by decide +kernel
theorem eJ0_charAt_5068e_7 : decode cJ0_charAt_5068e 7 = .ok (.aload_n 0, 1) := by decide +kernel
theorem eJ0_charAt_5068e_8 : decode cJ0_charAt_5068e 8 = .ok (.getfield 9, 3) := by decide +kernel
theorem eJ0_charAt_5068e_11 : decode cJ0_charAt_5068e 11 = .ok (.iload_n 1, 1) := by decide +kernel
theorem eJ0_charAt_5068e_12 : decode cJ0_charAt_5068e 12 = .ok (.invokestatic 495, 3) := by decide +kernel
theorem eJ0_charAt_5068e_15 : decode cJ0_charAt_5068e 15 = .ok (.ireturn, 1) := by decide +kernel
theorem eJ0_coder_7d493_0 : decode cJ0_coder_7d493 0 = .ok (.getstatic 38, 3) := by decide +kernel
theorem eJ0_coder_7d493_3 : decode cJ0_coder_7d493 3 = .ok (.ifCond .eq 10, 3) := by decide +kernel
theorem eJ0_coder_7d493_6 : decode cJ0_coder_7d493 6 = .ok (.aload_n 0, 1) := by decide +kernel
theorem eJ0_coder_7d493_7 : decode cJ0_coder_7d493 7 = .ok (.getfield 15, 3) := by decide +kernel
theorem eJ0_coder_7d493_10 : decode cJ0_coder_7d493 10 = .ok (.goto 4, 3) := by decide +kernel
theorem eJ0_coder_7d493_13 : decode cJ0_coder_7d493 13 = .ok (.iconst 1, 1) := by decide +kernel
theorem eJ0_coder_7d493_14 : decode cJ0_coder_7d493 14 = .ok (.ireturn, 1) := by decide +kernel
theorem eJ0_isLatin1_aae02_0 : decode cJ0_isLatin1_aae02 0 = .ok (.getstatic 38, 3) := by decide +kernel
theorem eJ0_isLatin1_aae02_3 : decode cJ0_isLatin1_aae02 3 = .ok (.ifCond .eq 14, 3) := by decide +kernel
theorem eJ0_isLatin1_aae02_6 : decode cJ0_isLatin1_aae02 6 = .ok (.aload_n 0, 1) := by decide +kernel
theorem eJ0_isLatin1_aae02_7 : decode cJ0_isLatin1_aae02 7 = .ok (.getfield 15, 3) := by decide +kernel
theorem eJ0_isLatin1_aae02_10 : decode cJ0_isLatin1_aae02 10 = .ok (.ifCond .ne 7, 3) := by decide +kernel
theorem eJ0_isLatin1_aae02_13 : decode cJ0_isLatin1_aae02 13 = .ok (.iconst 1, 1) := by decide +kernel
theorem eJ0_isLatin1_aae02_14 : decode cJ0_isLatin1_aae02 14 = .ok (.goto 4, 3) := by decide +kernel
theorem eJ0_isLatin1_aae02_17 : decode cJ0_isLatin1_aae02 17 = .ok (.iconst 0, 1) := by decide +kernel
theorem eJ0_isLatin1_aae02_18 : decode cJ0_isLatin1_aae02 18 = .ok (.ireturn, 1) := by decide +kernel
theorem eJ0_checkIndex_df160_0 : decode cJ0_checkIndex_df160 0 = .ok (.iload_n 0, 1) := by decide +kernel
theorem eJ0_checkIndex_df160_1 : decode cJ0_checkIndex_df160 1 = .ok (.iload_n 1, 1) := by decide +kernel
theorem eJ0_checkIndex_df160_2 : decode cJ0_checkIndex_df160 2 = .ok (.getstatic 1053, 3) := by decide +kernel
theorem eJ0_checkIndex_df160_5 : decode cJ0_checkIndex_df160 5 = .ok (.invokestatic 1059, 3) := by decide +kernel
theorem eJ0_checkIndex_df160_8 : decode cJ0_checkIndex_df160 8 = .ok (.pop, 1) := by decide +kernel
theorem eJ0_checkIndex_df160_9 : decode cJ0_checkIndex_df160 9 = .ok (.return_, 1) := by decide +kernel
theorem eJ1_charAt_3b067_0 : decode cJ1_charAt_3b067 0 = .ok (.iload_n 1, 1) := by decide +kernel
theorem eJ1_charAt_3b067_1 : decode cJ1_charAt_3b067 1 = .ok (.aload_n 0, 1) := by decide +kernel
theorem eJ1_charAt_3b067_2 : decode cJ1_charAt_3b067 2 = .ok (.arraylength, 1) := by decide +kernel
theorem eJ1_charAt_3b067_3 : decode cJ1_charAt_3b067 3 = .ok (.invokestatic 9, 3) := by decide +kernel
theorem eJ1_charAt_3b067_6 : decode cJ1_charAt_3b067 6 = .ok (.aload_n 0, 1) := by decide +kernel
theorem eJ1_charAt_3b067_7 : decode cJ1_charAt_3b067 7 = .ok (.iload_n 1, 1) := by decide +kernel
theorem eJ1_charAt_3b067_8 : decode cJ1_charAt_3b067 8 = .ok (.baload, 1) := by decide +kernel
theorem eJ1_charAt_3b067_9 : decode cJ1_charAt_3b067 9 = .ok (.sipush 255, 3) := by decide +kernel
theorem eJ1_charAt_3b067_12 : decode cJ1_charAt_3b067 12 = .ok (.iand, 1) := by decide +kernel
theorem eJ1_charAt_3b067_13 : decode cJ1_charAt_3b067 13 = .ok (.i2c, 1) := by decide +kernel
theorem eJ1_charAt_3b067_14 : decode cJ1_charAt_3b067 14 = .ok (.ireturn, 1) := by decide +kernel
theorem eJ3_checkIndex_8e157_0 : decode cJ3_checkIndex_8e157 0 = .ok (.iload_n 0, 1) := by decide +kernel
theorem eJ3_checkIndex_8e157_1 : decode cJ3_checkIndex_8e157 1 = .ok (.ifCond .lt 8, 3) := by decide +kernel
theorem eJ3_checkIndex_8e157_4 : decode cJ3_checkIndex_8e157 4 = .ok (.iload_n 0, 1) := by decide +kernel
theorem eJ3_checkIndex_8e157_5 : decode cJ3_checkIndex_8e157 5 = .ok (.iload_n 1, 1) := by decide +kernel
theorem eJ3_checkIndex_8e157_6 : decode cJ3_checkIndex_8e157 6 = .ok (.if_icmp .lt 10, 3) := by decide +kernel
theorem eJ3_checkIndex_8e157_16 : decode cJ3_checkIndex_8e157 16 = .ok (.iload_n 0, 1) := by decide +kernel
theorem eJ3_checkIndex_8e157_17 : decode cJ3_checkIndex_8e157 17 = .ok (.ireturn, 1) := by decide +kernel
section MP
variable {l : Launch}
theorem mTx_ok : ∀ i, i < 29 → (mTl.getD i 0 = (mTx.getD i []).length ∧ (mTx.getD i []).length < 100 ∧ (mTx.getD i []).all (fun k => Nat.blt k 128) = true) := by decide +kernel
theorem mTb_at {i j : Nat} (hi : i < 29) (hj : j < (mTx.getD i []).length) : (mTb.getD i []).getD j 0 = nI ((mTx.getD i []).getD j 0) := by
  have e1 : mTb.getD i [] = (mTx.getD i []).map (fun k => nI k) := by
    unfold mTb
    rw [List.getD_eq_getElem?_getD, List.getD_eq_getElem?_getD, List.getElem?_map]
    cases h : mTx[i]? with
    | none => rfl
    | some t => rfl
  rw [e1]
  generalize mTx.getD i [] = T at hj
  rw [List.getD_eq_getElem?_getD, List.getD_eq_getElem?_getD, List.getElem?_map, List.getElem?_eq_getElem hj]
  rfl
/-- the beginning of a walk -/
theorem m_open {G : mG} {M : mM} {s : State} {av : List Value} {n : Nat} (h : mWd G M s) : mSt G s ∧ mDy G s M s.heap [] := h.st

set_option maxHeartbeats 4000000 in
set_option maxRecDepth 100000 in
/-- coder(): 0 -/
theorem jc_coder (l : Launch) (G : mG) (M : mM) {j : Nat} (hj : j < 29)  : Met l yJ0_coder_7d493 (Cond.code yJ0_coder_7d493 cJ0_coder_7d493 1 (some .byte) :: mGw) (mRm 0 0) (va_Pc [.ref (gA G (400 + j))] (mWd G M)) (mQc G (some 0) M) 0 0 (mA G) := by
  refine mMet_ofW (cc := cJ0_coder_7d493) (maxL := 1) (ret := (some .byte)) (by decide +kernel) rfl ?_
  intro p e s m args below meth c s₁ B hml ht9 hv
  obtain ⟨rfl, hWd⟩ := hv
  have hx := B.exec
  have hb := B.bytes
  have hr := B.returns
  have hts : ∀ w ∈ mGw, w.before _ s = true := fun w hw => atoms_spec (ws := Cond.code yJ0_coder_7d493 cJ0_coder_7d493 1 (some .byte) :: mGw) B.pre w (List.mem_cons_of_mem _ hw)
  have hown : s.vm.findClass (yJ0_coder_7d493).cls = some m.cls := findClass_of_methodNamed B.named
  have hlocks := B.notSynchronized
  obtain ⟨⟨hz, hK, hX⟩, hD⟩ := hWd.st
  have hS := hD.2.2.1
  have hl := lv_entry ([.ref (gA G (400 + j))]) (n := 1) (Nat.le_of_ble_eq_true rfl)
  rw [lg_entry_eq]
  generalize (lg_sl ([.ref (gA G (400 + j))]) ++ List.replicate (1 - (lg_sl ([.ref (gA G (400 + j))])).length) Slot.unset).toArray = ls at hl ⊢
  obtain ⟨-, hco, -, -⟩ := hX.1.1 j hj
  refine va_gets hx hb hX.2.2.2.2.1 hS hown (hts _ (mGw_of (i := 796) (by decide +kernel) (by decide +kernel))) (fun _ h9 => h9) eJ0_coder_7d493_0 ?_
  refine lv_if_eq (tgt := 13) hx hb eJ0_coder_7d493_3 (by decide) (fun h => absurd h (by decide)) (fun _ => ?_)
  refine lv_aload_n hx hb eJ0_coder_7d493_6 rfl (lv_at hl 0 rfl) ?_
  refine vk_getf hx hb hco hS hown (hts _ (mGw_of (i := 2258) (by decide +kernel) (by decide +kernel))) (fun _ h9 => h9) eJ0_coder_7d493_7 ?_
  refine lv_goto (tgt := 14) hx hb eJ0_coder_7d493_10 (by decide) ?_
  exact W.zret (v := 0) hx hb hr rfl (fun t ht hW => ⟨⟨0, (), rfl, rfl, by show va_P (gD G) vwCl (mWs G M) t.heap; rw [ht]; exact hD.1⟩, hD.2.2.1.F ht⟩) hD.2.2.1.2.2 eJ0_coder_7d493_14
set_option maxHeartbeats 4000000 in
set_option maxRecDepth 100000 in
/-- isLatin1(): true -/
theorem jc_latin (l : Launch) (G : mG) (M : mM) {j : Nat} (hj : j < 29)  : Met l yJ0_isLatin1_aae02 (Cond.code yJ0_isLatin1_aae02 cJ0_isLatin1_aae02 1 (some .boolean) :: mGw) (mRm 0 0) (va_Pc [.ref (gA G (400 + j))] (mWd G M)) (mQc G (some 1) M) 0 0 (mA G) := by
  refine mMet_ofW (cc := cJ0_isLatin1_aae02) (maxL := 1) (ret := (some .boolean)) (by decide +kernel) rfl ?_
  intro p e s m args below meth c s₁ B hml ht9 hv
  obtain ⟨rfl, hWd⟩ := hv
  have hx := B.exec
  have hb := B.bytes
  have hr := B.returns
  have hts : ∀ w ∈ mGw, w.before _ s = true := fun w hw => atoms_spec (ws := Cond.code yJ0_isLatin1_aae02 cJ0_isLatin1_aae02 1 (some .boolean) :: mGw) B.pre w (List.mem_cons_of_mem _ hw)
  have hown : s.vm.findClass (yJ0_isLatin1_aae02).cls = some m.cls := findClass_of_methodNamed B.named
  have hlocks := B.notSynchronized
  obtain ⟨⟨hz, hK, hX⟩, hD⟩ := hWd.st
  have hS := hD.2.2.1
  have hl := lv_entry ([.ref (gA G (400 + j))]) (n := 1) (Nat.le_of_ble_eq_true rfl)
  rw [lg_entry_eq]
  generalize (lg_sl ([.ref (gA G (400 + j))]) ++ List.replicate (1 - (lg_sl ([.ref (gA G (400 + j))])).length) Slot.unset).toArray = ls at hl ⊢
  obtain ⟨-, hco, -, -⟩ := hX.1.1 j hj
  refine va_gets hx hb hX.2.2.2.2.1 hS hown (hts _ (mGw_of (i := 796) (by decide +kernel) (by decide +kernel))) (fun _ h9 => h9) eJ0_isLatin1_aae02_0 ?_
  refine lv_if_eq (tgt := 17) hx hb eJ0_isLatin1_aae02_3 (by decide) (fun h => absurd h (by decide)) (fun _ => ?_)
  refine lv_aload_n hx hb eJ0_isLatin1_aae02_6 rfl (lv_at hl 0 rfl) ?_
  refine vk_getf hx hb hco hS hown (hts _ (mGw_of (i := 2258) (by decide +kernel) (by decide +kernel))) (fun _ h9 => h9) eJ0_isLatin1_aae02_7 ?_
  refine lv_if_ne (tgt := 17) hx hb eJ0_isLatin1_aae02_10 (by decide) (fun h => absurd rfl h) (fun _ => ?_)
  refine lv_iconst (v := 1) hx hb eJ0_isLatin1_aae02_13 (by decide) ?_
  refine lv_goto (tgt := 18) hx hb eJ0_isLatin1_aae02_14 (by decide) ?_
  exact W.zret (v := 1) hx hb hr rfl (fun t ht hW => ⟨⟨1, (), rfl, rfl, by show va_P (gD G) vwCl (mWs G M) t.heap; rw [ht]; exact hD.1⟩, hD.2.2.1.F ht⟩) hD.2.2.1.2.2 eJ0_isLatin1_aae02_18
set_option maxHeartbeats 4000000 in
set_option maxRecDepth 100000 in
/-- length() -/
theorem jc_length (l : Launch) (G : mG) (M : mM) {j : Nat} (hj : j < 29)  : Met l yJ0_length_8abf5 (Cond.code yJ0_length_8abf5 cJ0_length_8abf5 1 (some .int) :: mGw) (mRm 2 0) (va_Pc [.ref (gA G (400 + j))] (mWd G M)) (mQc G (some (nI (mTx.getD j []).length)) M) 0 0 (mA G) := by
  refine mMet_ofW (cc := cJ0_length_8abf5) (maxL := 1) (ret := (some .int)) (by decide +kernel) rfl ?_
  intro p e s m args below meth c s₁ B hml ht9 hv
  obtain ⟨rfl, hWd⟩ := hv
  have hx := B.exec
  have hb := B.bytes
  have hr := B.returns
  have hts : ∀ w ∈ mGw, w.before _ s = true := fun w hw => atoms_spec (ws := Cond.code yJ0_length_8abf5 cJ0_length_8abf5 1 (some .int) :: mGw) B.pre w (List.mem_cons_of_mem _ hw)
  have hown : s.vm.findClass (yJ0_length_8abf5).cls = some m.cls := findClass_of_methodNamed B.named
  have hlocks := B.notSynchronized
  obtain ⟨⟨hz, hK, hX⟩, hD⟩ := hWd.st
  have hS := hD.2.2.1
  have hl := lv_entry ([.ref (gA G (400 + j))]) (n := 1) (Nat.le_of_ble_eq_true rfl)
  rw [lg_entry_eq]
  generalize (lg_sl ([.ref (gA G (400 + j))]) ++ List.replicate (1 - (lg_sl ([.ref (gA G (400 + j))])).length) Slot.unset).toArray = ls at hl ⊢
  obtain ⟨-, -, hva, hT⟩ := hX.1.1 j hj
  obtain ⟨t1, t2, -⟩ := mTx_ok j hj
  refine lv_aload_n hx hb eJ0_length_8abf5_0 rfl (lv_at hl 0 rfl) ?_
  refine vk_getf hx hb hva hS hown (hts _ (mGw_of (i := 2257) (by decide +kernel) (by decide +kernel))) (fun _ h9 => h9) eJ0_length_8abf5_1 ?_
  refine va_tlen (v := nI (mTx.getD j []).length) hx hb hT hS (by rw [t1]; rfl) eJ0_length_8abf5_4 ?_
  refine lv_aload_n hx hb eJ0_length_8abf5_5 rfl (lv_at hl 0 rfl) ?_
  refine m_after (v := some 0) (M' := M) (va_runV (As := []) (rest := [.int (nI (mTx.getD j []).length)]) ⟨hx, hb, hml, hown, hts⟩ (jc_coder l G M hj) ⟨callB_of 0 hts (mGood (fun w hw => (List.mem_cons.mp hw).elim (fun q => by rw [q]; exact mGw_of (i := 795) (by decide +kernel) (by decide +kernel)) id)) rfl rfl rfl (hts _ (mGw_of (i := 130) (by decide +kernel) (by decide +kernel))) (hts _ (mGw_of (i := 792) (by decide +kernel) (by decide +kernel))) (by decide +kernel) ⟨by decide, by decide⟩, hts _ (mGw_of (i := 793) (by decide +kernel) (by decide +kernel)), hts _ (mGw_of (i := 794) (by decide +kernel) (by decide +kernel))⟩ ⟨mBlind, vk_recv hX.1 hj hS, fun U hU hW => ⟨rfl, mWd.of ⟨hz, hK, hX⟩ hD hU hW⟩⟩ rfl rfl hl.1 rfl (lv_room (Nat.le_of_ble_eq_true rfl)) eJ0_length_8abf5_6 ⟨Nat.zero_le _, Nat.zero_le _⟩) hD ⟨rfl, rfl⟩ (fun H locs hD => ?_)
  have hS := hD.2.2.1
  refine lv_ishr (y := 0) hx hb eJ0_length_8abf5_9 ?_
  have e0 : nI (mTx.getD j []).length >>> ((0 : Int32) &&& 31) = nI (mTx.getD j []).length := by
    have := pk_shrN (n := (mTx.getD j []).length) (by omega) ((0 : Int32) &&& 31) 0 (by decide)
    rw [this]; simp
  rw [e0]
  exact W.iret (v := nI (mTx.getD j []).length) hx hb hr (fun t ht hW => ⟨⟨nI (mTx.getD j []).length, (), rfl, rfl, by show va_P (gD G) vwCl (mWs G M) t.heap; rw [ht]; exact hD.1⟩, hD.2.2.1.F ht⟩) hD.2.2.1.2.2 eJ0_length_8abf5_10
set_option maxHeartbeats 4000000 in
set_option maxRecDepth 100000 in
/-- checkIndex(i, n, f) of an index within -/
theorem jc_pre0 (l : Launch) (G : mG) (M : mM) {i n : Nat} (hi : i < n) (hn : n < 1000)  : Met l yJ3_checkIndex_8e157 (Cond.code yJ3_checkIndex_8e157 cJ3_checkIndex_8e157 3 (some .int) :: mGw) (mRm 0 0) (va_Pc [.int (nI i), .int (nI n), .null] (mWd G M)) (mQc G (some (nI i)) M) 0 0 (mA G) := by
  refine mMet_ofW (cc := cJ3_checkIndex_8e157) (maxL := 3) (ret := (some .int)) (by decide +kernel) rfl ?_
  intro p e s m args below meth c s₁ B hml ht9 hv
  obtain ⟨rfl, hWd⟩ := hv
  have hx := B.exec
  have hb := B.bytes
  have hr := B.returns
  have hts : ∀ w ∈ mGw, w.before _ s = true := fun w hw => atoms_spec (ws := Cond.code yJ3_checkIndex_8e157 cJ3_checkIndex_8e157 3 (some .int) :: mGw) B.pre w (List.mem_cons_of_mem _ hw)
  have hown : s.vm.findClass (yJ3_checkIndex_8e157).cls = some m.cls := findClass_of_methodNamed B.named
  have hlocks := B.notSynchronized
  obtain ⟨⟨hz, hK, hX⟩, hD⟩ := hWd.st
  have hS := hD.2.2.1
  have hl := lv_entry ([.int (nI i), .int (nI n), .null]) (n := 3) (Nat.le_of_ble_eq_true rfl)
  rw [lg_entry_eq]
  generalize (lg_sl ([.int (nI i), .int (nI n), .null]) ++ List.replicate (3 - (lg_sl ([.int (nI i), .int (nI n), .null])).length) Slot.unset).toArray = ls at hl ⊢
  refine lv_iload_n hx hb eJ3_checkIndex_8e157_0 rfl (lv_at hl 0 rfl) ?_
  refine lv_if_lt (tgt := 9) hx hb eJ3_checkIndex_8e157_1 (by decide) (fun h => absurd h (nI_pos (by omega))) (fun _ => ?_)
  refine lv_iload_n hx hb eJ3_checkIndex_8e157_4 rfl (lv_at hl 0 rfl) ?_
  refine lv_iload_n hx hb eJ3_checkIndex_8e157_5 rfl (lv_at hl 1 rfl) ?_
  refine lv_icmp_lt (tgt := 16) hx hb eJ3_checkIndex_8e157_6 (by decide) (fun _ => ?_) (fun h => absurd (nI_lt hi (by omega)) h)
  refine lv_iload_n hx hb eJ3_checkIndex_8e157_16 rfl (lv_at hl 0 rfl) ?_
  exact W.iret (v := nI i) hx hb hr (fun t ht hW => ⟨⟨nI i, (), rfl, rfl, by show va_P (gD G) vwCl (mWs G M) t.heap; rw [ht]; exact hD.1⟩, hD.2.2.1.F ht⟩) hD.2.2.1.2.2 eJ3_checkIndex_8e157_17
set_option maxHeartbeats 4000000 in
set_option maxRecDepth 100000 in
theorem jc_pre1 (l : Launch) (G : mG) (M : mM) {i n q : Nat} (hi : i < n) (hn : n < 1000)  : Met l yJ3_checkIndex_8e157 (Cond.code yJ3_checkIndex_8e157 cJ3_checkIndex_8e157 3 (some .int) :: mGw) (mRm 0 0) (va_Pc [.int (nI i), .int (nI n), .ref q] (mWd G M)) (mQc G (some (nI i)) M) 0 0 (mA G) := by
  refine mMet_ofW (cc := cJ3_checkIndex_8e157) (maxL := 3) (ret := (some .int)) (by decide +kernel) rfl ?_
  intro p e s m args below meth c s₁ B hml ht9 hv
  obtain ⟨rfl, hWd⟩ := hv
  have hx := B.exec
  have hb := B.bytes
  have hr := B.returns
  have hts : ∀ w ∈ mGw, w.before _ s = true := fun w hw => atoms_spec (ws := Cond.code yJ3_checkIndex_8e157 cJ3_checkIndex_8e157 3 (some .int) :: mGw) B.pre w (List.mem_cons_of_mem _ hw)
  have hown : s.vm.findClass (yJ3_checkIndex_8e157).cls = some m.cls := findClass_of_methodNamed B.named
  have hlocks := B.notSynchronized
  obtain ⟨⟨hz, hK, hX⟩, hD⟩ := hWd.st
  have hS := hD.2.2.1
  have hl := lv_entry ([.int (nI i), .int (nI n), .ref q]) (n := 3) (Nat.le_of_ble_eq_true rfl)
  rw [lg_entry_eq]
  generalize (lg_sl ([.int (nI i), .int (nI n), .ref q]) ++ List.replicate (3 - (lg_sl ([.int (nI i), .int (nI n), .ref q])).length) Slot.unset).toArray = ls at hl ⊢
  refine lv_iload_n hx hb eJ3_checkIndex_8e157_0 rfl (lv_at hl 0 rfl) ?_
  refine lv_if_lt (tgt := 9) hx hb eJ3_checkIndex_8e157_1 (by decide) (fun h => absurd h (nI_pos (by omega))) (fun _ => ?_)
  refine lv_iload_n hx hb eJ3_checkIndex_8e157_4 rfl (lv_at hl 0 rfl) ?_
  refine lv_iload_n hx hb eJ3_checkIndex_8e157_5 rfl (lv_at hl 1 rfl) ?_
  refine lv_icmp_lt (tgt := 16) hx hb eJ3_checkIndex_8e157_6 (by decide) (fun _ => ?_) (fun h => absurd (nI_lt hi (by omega)) h)
  refine lv_iload_n hx hb eJ3_checkIndex_8e157_16 rfl (lv_at hl 0 rfl) ?_
  exact W.iret (v := nI i) hx hb hr (fun t ht hW => ⟨⟨nI i, (), rfl, rfl, by show va_P (gD G) vwCl (mWs G M) t.heap; rw [ht]; exact hD.1⟩, hD.2.2.1.F ht⟩) hD.2.2.1.2.2 eJ3_checkIndex_8e157_17
theorem jc_pre (l : Launch) (G : mG) (M : mM) {i n : Nat} {q : Option Nat} (hi : i < n) (hn : n < 1000) : Met l yJ3_checkIndex_8e157 (Cond.code yJ3_checkIndex_8e157 cJ3_checkIndex_8e157 3 (some .int) :: mGw) (mRm 0 0) (va_Pc [.int (nI i), .int (nI n), va_rf q] (mWd G M)) (mQc G (some (nI i)) M) 0 0 (mA G) := by
  cases q with
  | none => exact jc_pre0 l G M hi hn
  | some q => exact jc_pre1 l G M hi hn
set_option maxHeartbeats 4000000 in
set_option maxRecDepth 100000 in
/-- String.checkIndex(i, n) of an index within -/
theorem jc_chk (l : Launch) (G : mG) (M : mM) {i n : Nat} (hi : i < n) (hn : n < 1000)  : Met l yJ0_checkIndex_df160 (Cond.code yJ0_checkIndex_df160 cJ0_checkIndex_df160 2 none :: mGw) (mRm 2 0) (va_Pc [.int (nI i), .int (nI n)] (mWd G M)) (mQc G none M) 0 0 (mA G) := by
  refine mMet_ofW (cc := cJ0_checkIndex_df160) (maxL := 2) (ret := none) (by decide +kernel) rfl ?_
  intro p e s m args below meth c s₁ B hml ht9 hv
  obtain ⟨rfl, hWd⟩ := hv
  have hx := B.exec
  have hb := B.bytes
  have hr := B.returns
  have hts : ∀ w ∈ mGw, w.before _ s = true := fun w hw => atoms_spec (ws := Cond.code yJ0_checkIndex_df160 cJ0_checkIndex_df160 2 none :: mGw) B.pre w (List.mem_cons_of_mem _ hw)
  have hown : s.vm.findClass (yJ0_checkIndex_df160).cls = some m.cls := findClass_of_methodNamed B.named
  have hlocks := B.notSynchronized
  obtain ⟨⟨hz, hK, hX⟩, hD⟩ := hWd.st
  have hS := hD.2.2.1
  have hl := lv_entry ([.int (nI i), .int (nI n)]) (n := 2) (Nat.le_of_ble_eq_true rfl)
  rw [lg_entry_eq]
  generalize (lg_sl ([.int (nI i), .int (nI n)]) ++ List.replicate (2 - (lg_sl ([.int (nI i), .int (nI n)])).length) Slot.unset).toArray = ls at hl ⊢
  obtain ⟨t, hZ⟩ := hX.2.2.2.2.2.1
  cases t with
  | none =>
    refine lv_iload_n hx hb eJ0_checkIndex_df160_0 rfl (lv_at hl 0 rfl) ?_
    refine lv_iload_n hx hb eJ0_checkIndex_df160_1 rfl (lv_at hl 1 rfl) ?_
    refine va_gets hx hb hZ hS hown (hts _ (mGw_of (i := 816) (by decide +kernel) (by decide +kernel))) (fun _ h9 => h9) eJ0_checkIndex_df160_2 ?_
    refine m_after (v := some (nI i)) (M' := M) (va_runS (As := [.int (nI i), .int (nI n), .null]) (rest := []) ⟨hx, hb, hml, hown, hts⟩ (jc_pre0 l G M hi hn) ⟨callB_of 3 hts (mGood (fun w hw => (List.mem_cons.mp hw).elim (fun q => by rw [q]; exact mGw_of (i := 820) (by decide +kernel) (by decide +kernel)) id)) rfl rfl rfl (hts _ (mGw_of (i := 132) (by decide +kernel) (by decide +kernel))) (hts _ (mGw_of (i := 818) (by decide +kernel) (by decide +kernel))) (by decide +kernel) ⟨by decide, by decide⟩, hts _ (mGw_of (i := 819) (by decide +kernel) (by decide +kernel))⟩ ⟨mBlind, fun U hU hW => ⟨rfl, mWd.of ⟨hz, hK, hX⟩ hD hU hW⟩⟩ rfl rfl hl.1 rfl (lv_room (Nat.le_of_ble_eq_true rfl)) eJ0_checkIndex_df160_5 ⟨Nat.zero_le _, Nat.zero_le _⟩) hD ⟨rfl, rfl⟩ (fun H locs hD => ?_)
    have hS := hD.2.2.1
    refine lv_pop hx hb eJ0_checkIndex_df160_8 rfl ?_
    exact W.vret hx hb hr (fun t ht hW => ⟨⟨(), rfl, trivial, by show va_P (gD G) vwCl (mWs G M) t.heap; rw [ht]; exact hD.1⟩, hD.2.2.1.F ht⟩) hD.2.2.1.2.2 eJ0_checkIndex_df160_9
  | some t =>
    refine lv_iload_n hx hb eJ0_checkIndex_df160_0 rfl (lv_at hl 0 rfl) ?_
    refine lv_iload_n hx hb eJ0_checkIndex_df160_1 rfl (lv_at hl 1 rfl) ?_
    refine va_gets hx hb hZ hS hown (hts _ (mGw_of (i := 816) (by decide +kernel) (by decide +kernel))) (fun _ h9 => h9) eJ0_checkIndex_df160_2 ?_
    refine m_after (v := some (nI i)) (M' := M) (va_runS (As := [.int (nI i), .int (nI n), .ref t]) (rest := []) ⟨hx, hb, hml, hown, hts⟩ (jc_pre1 l G M hi hn) ⟨callB_of 3 hts (mGood (fun w hw => (List.mem_cons.mp hw).elim (fun q => by rw [q]; exact mGw_of (i := 820) (by decide +kernel) (by decide +kernel)) id)) rfl rfl rfl (hts _ (mGw_of (i := 132) (by decide +kernel) (by decide +kernel))) (hts _ (mGw_of (i := 818) (by decide +kernel) (by decide +kernel))) (by decide +kernel) ⟨by decide, by decide⟩, hts _ (mGw_of (i := 819) (by decide +kernel) (by decide +kernel))⟩ ⟨mBlind, fun U hU hW => ⟨rfl, mWd.of ⟨hz, hK, hX⟩ hD hU hW⟩⟩ rfl rfl hl.1 rfl (lv_room (Nat.le_of_ble_eq_true rfl)) eJ0_checkIndex_df160_5 ⟨Nat.zero_le _, Nat.zero_le _⟩) hD ⟨rfl, rfl⟩ (fun H locs hD => ?_)
    have hS := hD.2.2.1
    refine lv_pop hx hb eJ0_checkIndex_df160_8 rfl ?_
    exact W.vret hx hb hr (fun t ht hW => ⟨⟨(), rfl, trivial, by show va_P (gD G) vwCl (mWs G M) t.heap; rw [ht]; exact hD.1⟩, hD.2.2.1.F ht⟩) hD.2.2.1.2.2 eJ0_checkIndex_df160_9
set_option maxHeartbeats 4000000 in
set_option maxRecDepth 100000 in
/-- StringLatin1.charAt -/
theorem jc_lat (l : Launch) (G : mG) (M : mM) {i j : Nat} (hj : j < 29) (hi : i < (mTx.getD j []).length)  : Met l yJ1_charAt_3b067 (Cond.code yJ1_charAt_3b067 cJ1_charAt_3b067 2 (some .char) :: mGw) (mRm 4 0) (va_Pc [.ref (gV G j), .int (nI i)] (mWd G M)) (mQc G (some (nI ((mTx.getD j []).getD i 0))) M) 0 0 (mA G) := by
  refine mMet_ofW (cc := cJ1_charAt_3b067) (maxL := 2) (ret := (some .char)) (by decide +kernel) rfl ?_
  intro p e s m args below meth c s₁ B hml ht9 hv
  obtain ⟨rfl, hWd⟩ := hv
  have hx := B.exec
  have hb := B.bytes
  have hr := B.returns
  have hts : ∀ w ∈ mGw, w.before _ s = true := fun w hw => atoms_spec (ws := Cond.code yJ1_charAt_3b067 cJ1_charAt_3b067 2 (some .char) :: mGw) B.pre w (List.mem_cons_of_mem _ hw)
  have hown : s.vm.findClass (yJ1_charAt_3b067).cls = some m.cls := findClass_of_methodNamed B.named
  have hlocks := B.notSynchronized
  obtain ⟨⟨hz, hK, hX⟩, hD⟩ := hWd.st
  have hS := hD.2.2.1
  have hl := lv_entry ([.ref (gV G j), .int (nI i)]) (n := 2) (Nat.le_of_ble_eq_true rfl)
  rw [lg_entry_eq]
  generalize (lg_sl ([.ref (gV G j), .int (nI i)]) ++ List.replicate (2 - (lg_sl ([.ref (gV G j), .int (nI i)])).length) Slot.unset).toArray = ls at hl ⊢
  obtain ⟨-, -, hva, hT⟩ := hX.1.1 j hj
  obtain ⟨t1, t2, t3⟩ := mTx_ok j hj
  have hlt : (mTx.getD j []).getD i 0 < 128 := by
    rw [List.getD_eq_getElem?_getD, List.getElem?_eq_getElem hi]
    exact Nat.blt_eq.mp (List.all_eq_true.mp t3 _ (List.getElem_mem hi))
  refine lv_iload_n hx hb eJ1_charAt_3b067_0 rfl (lv_at hl 1 rfl) ?_
  refine lv_aload_n hx hb eJ1_charAt_3b067_1 rfl (lv_at hl 0 rfl) ?_
  refine va_tlen (v := nI (mTx.getD j []).length) hx hb hT hS (by rw [t1]; rfl) eJ1_charAt_3b067_2 ?_
  refine m_after (v := none) (M' := M) (va_runS (As := [.int (nI i), .int (nI (mTx.getD j []).length)]) (rest := []) ⟨hx, hb, hml, hown, hts⟩ (jc_chk l G M hi (by omega)) ⟨callB_of 2 hts (mGood (fun w hw => (List.mem_cons.mp hw).elim (fun q => by rw [q]; exact mGw_of (i := 815) (by decide +kernel) (by decide +kernel)) id)) rfl rfl rfl (hts _ (mGw_of (i := 130) (by decide +kernel) (by decide +kernel))) (hts _ (mGw_of (i := 813) (by decide +kernel) (by decide +kernel))) (by decide +kernel) ⟨by decide, by decide⟩, hts _ (mGw_of (i := 814) (by decide +kernel) (by decide +kernel))⟩ ⟨mBlind, fun U hU hW => ⟨rfl, mWd.of ⟨hz, hK, hX⟩ hD hU hW⟩⟩ rfl rfl hl.1 rfl (lv_room (Nat.le_of_ble_eq_true rfl)) eJ1_charAt_3b067_3 ⟨Nat.zero_le _, Nat.zero_le _⟩) hD ⟨rfl, rfl⟩ (fun H locs hD => ?_)
  have hS := hD.2.2.1
  refine lv_aload_n hx hb eJ1_charAt_3b067_6 rfl (lv_at hl 0 rfl) ?_
  refine lv_iload_n hx hb eJ1_charAt_3b067_7 rfl (lv_at hl 1 rfl) ?_
  refine va_tb (v := .int (nI ((mTx.getD j []).getD i 0))) hx hb hT hS (vp_in_nI (by rw [t1]; exact hi) (by omega)) (by rw [nI_clamp (by omega), mTb_at hj hi]) eJ1_charAt_3b067_8 ?_
  refine lv_sipush (v := 255) hx hb eJ1_charAt_3b067_9 (by decide) ?_
  refine lv_iand hx hb eJ1_charAt_3b067_12 ?_
  refine lv_i2c (v := nI ((mTx.getD j []).getD i 0)) hx hb eJ1_charAt_3b067_13 ?_ ?_
  · generalize (mTx.getD j []).getD i 0 = z at hlt
    rw [pk_andN (n := z) (by omega) (m := 255) 8 (by decide), Nat.mod_eq_of_lt (by omega)]
    rw [pk_char, pk_tn (by omega), Nat.mod_eq_of_lt (by omega)]
  · exact W.zret (v := nI ((mTx.getD j []).getD i 0)) hx hb hr (pk_charN (by omega)).1 (fun t ht hW => ⟨⟨_, (), rfl, rfl, by show va_P (gD G) vwCl (mWs G M) t.heap; rw [ht]; exact hD.1⟩, hD.2.2.1.F ht⟩) hD.2.2.1.2.2 eJ1_charAt_3b067_14
set_option maxHeartbeats 4000000 in
set_option maxRecDepth 100000 in
/-- charAt -/
theorem jc_charAt (l : Launch) (G : mG) (M : mM) {i j : Nat} (hj : j < 29) (hi : i < (mTx.getD j []).length)  : Met l yJ0_charAt_5068e (Cond.code yJ0_charAt_5068e cJ0_charAt_5068e 2 (some .char) :: mGw) (mRm 6 0) (va_Pc [.ref (gA G (400 + j)), .int (nI i)] (mWd G M)) (mQc G (some (nI ((mTx.getD j []).getD i 0))) M) 0 0 (mA G) := by
  refine mMet_ofW (cc := cJ0_charAt_5068e) (maxL := 2) (ret := (some .char)) (by decide +kernel) rfl ?_
  intro p e s m args below meth c s₁ B hml ht9 hv
  obtain ⟨rfl, hWd⟩ := hv
  have hx := B.exec
  have hb := B.bytes
  have hr := B.returns
  have hts : ∀ w ∈ mGw, w.before _ s = true := fun w hw => atoms_spec (ws := Cond.code yJ0_charAt_5068e cJ0_charAt_5068e 2 (some .char) :: mGw) B.pre w (List.mem_cons_of_mem _ hw)
  have hown : s.vm.findClass (yJ0_charAt_5068e).cls = some m.cls := findClass_of_methodNamed B.named
  have hlocks := B.notSynchronized
  obtain ⟨⟨hz, hK, hX⟩, hD⟩ := hWd.st
  have hS := hD.2.2.1
  have hl := lv_entry ([.ref (gA G (400 + j)), .int (nI i)]) (n := 2) (Nat.le_of_ble_eq_true rfl)
  rw [lg_entry_eq]
  generalize (lg_sl ([.ref (gA G (400 + j)), .int (nI i)]) ++ List.replicate (2 - (lg_sl ([.ref (gA G (400 + j)), .int (nI i)])).length) Slot.unset).toArray = ls at hl ⊢
  obtain ⟨t1, t2, t3⟩ := mTx_ok j hj
  have hlt : (mTx.getD j []).getD i 0 < 128 := by
    rw [List.getD_eq_getElem?_getD, List.getElem?_eq_getElem hi]
    exact Nat.blt_eq.mp (List.all_eq_true.mp t3 _ (List.getElem_mem hi))
  refine lv_aload_n hx hb eJ0_charAt_5068e_0 rfl (lv_at hl 0 rfl) ?_
  refine m_after (v := some 1) (M' := M) (va_runV (As := []) (rest := []) ⟨hx, hb, hml, hown, hts⟩ (jc_latin l G M hj) ⟨callB_of 0 hts (mGood (fun w hw => (List.mem_cons.mp hw).elim (fun q => by rw [q]; exact mGw_of (i := 809) (by decide +kernel) (by decide +kernel)) id)) rfl rfl rfl (hts _ (mGw_of (i := 130) (by decide +kernel) (by decide +kernel))) (hts _ (mGw_of (i := 806) (by decide +kernel) (by decide +kernel))) (by decide +kernel) ⟨by decide, by decide⟩, hts _ (mGw_of (i := 807) (by decide +kernel) (by decide +kernel)), hts _ (mGw_of (i := 808) (by decide +kernel) (by decide +kernel))⟩ ⟨mBlind, vk_recv hX.1 hj hS, fun U hU hW => ⟨rfl, mWd.of ⟨hz, hK, hX⟩ hD hU hW⟩⟩ rfl rfl hl.1 rfl (lv_room (Nat.le_of_ble_eq_true rfl)) eJ0_charAt_5068e_1 ⟨Nat.zero_le _, Nat.zero_le _⟩) hD ⟨rfl, rfl⟩ (fun H locs hD => ?_)
  have hS := hD.2.2.1
  refine lv_if_eq (tgt := 16) hx hb eJ0_charAt_5068e_4 (by decide) (fun h => absurd h (by decide)) (fun _ => ?_)
  refine lv_aload_n hx hb eJ0_charAt_5068e_7 rfl (lv_at hl 0 rfl) ?_
  obtain ⟨-, -, hva, hT⟩ := hX.1.1 j hj
  refine vk_getf hx hb hva hS hown (hts _ (mGw_of (i := 2257) (by decide +kernel) (by decide +kernel))) (fun _ h9 => h9) eJ0_charAt_5068e_8 ?_
  refine lv_iload_n hx hb eJ0_charAt_5068e_11 rfl (lv_at hl 1 rfl) ?_
  refine m_after (v := some (nI ((mTx.getD j []).getD i 0))) (M' := M) (va_runS (As := [.ref (gV G j), .int (nI i)]) (rest := []) ⟨hx, hb, hml, hown, hts⟩ (jc_lat l G M hj hi) ⟨callB_of 2 hts (mGood (fun w hw => (List.mem_cons.mp hw).elim (fun q => by rw [q]; exact mGw_of (i := 812) (by decide +kernel) (by decide +kernel)) id)) rfl rfl rfl (hts _ (mGw_of (i := 131) (by decide +kernel) (by decide +kernel))) (hts _ (mGw_of (i := 810) (by decide +kernel) (by decide +kernel))) (by decide +kernel) ⟨by decide, by decide⟩, hts _ (mGw_of (i := 811) (by decide +kernel) (by decide +kernel))⟩ ⟨mBlind, fun U hU hW => ⟨rfl, mWd.of ⟨hz, hK, hX⟩ hD hU hW⟩⟩ rfl rfl hl.1 rfl (lv_room (Nat.le_of_ble_eq_true rfl)) eJ0_charAt_5068e_12 ⟨Nat.zero_le _, Nat.zero_le _⟩) hD ⟨rfl, rfl⟩ (fun H locs hD => ?_)
  have hS := hD.2.2.1
  exact W.zret (v := nI ((mTx.getD j []).getD i 0)) hx hb hr (pk_charN (by omega)).1 (fun t ht hW => ⟨⟨_, (), rfl, rfl, by show va_P (gD G) vwCl (mWs G M) t.heap; rw [ht]; exact hD.1⟩, hD.2.2.1.F ht⟩) hD.2.2.1.2.2 eJ0_charAt_5068e_15
end MP
