/-! m_step: any step of the small machine -/
section MT
variable {p : Program} {l : Launch} {e : Env} {R : Room} {s : State} {m : MethodId} {args : Array Value} {below : List Frame} {meth : Method} {c : Code} {H : Heap} {locs : List Loc} {cells slots : Nat} {Q : State → Prop} {ls : Array Slot}
theorem mv_ldcSW {cc : ByteArray} {pc : Nat} {rest : List Value} (hexec : p.tables.exec = Jvm.exec) (hb : c.code = cc) {own tx : String} {index q : Nat} (hown : s.vm.findClass own = some m.cls) (hZ : vk_R own index tx q s) (hdg : decode cc pc = .ok (.ldc_w index, 3))
    (k : W p l e R s m args below meth c H locs cells slots Q (F0 m (pc + 3) ls (.ref q :: rest))) : W p l e R s m args below meth c H locs cells slots Q (F0 m pc ls rest) := by
  intro T hT X
  obtain ⟨t, a1, b1⟩ := k T hT X
  exact ⟨t, Jvm.Stand.ldcStringW X hexec hown (text := tx) (a := q) hZ.1 hZ.2 (g := F0 m pc ls rest) rfl (by rw [hb]; exact hdg) t a1, b1⟩
def mTxt (G : mG) (s : State) : Prop := ∀ (j : Nat) (q : String × Nat × String × Nat), mStr[j]? = some q → vk_R q.1 q.2.1 q.2.2.1 (gA G (400 + q.2.2.2)) s
theorem mCst_0 {own : String} {idx b w : Nat} (h : mCst own idx 0 b w = true) : lw_tbl[w]? = some (.constant own idx (Int32.ofNat b)) := of_decide_eq_true h
theorem mCst_1 {own : String} {idx a b w : Nat} (h : mCst own idx (a + 1) b w = true) : ∃ q, mStr[w]? = some q ∧ q.1 = own ∧ q.2.1 = idx ∧ q.2.2.2 = b := by
  unfold mCst at h
  rw [m_bff (by rfl)] at h
  split at h
  · simp only [Bool.and_eq_true, decide_eq_true_eq] at h
    exact ⟨_, by assumption, h.1.1, h.1.2, h.2⟩
  · cases h
theorem mSwOk_at {code : List mE} {pc : Nat} : ∀ {ts : List Nat} {os : List Int}, mSwOk code pc ts os = true → ∀ {k t : Nat}, ts[k]? = some t → ∃ o, os[k]? = some o ∧ (pc : Int) + o = (mPc code t : Int)
  | [], [], _, k, t, h => by simp at h
  | t0 :: ts, o0 :: os, hs, 0, t, h => by
    have hs : (mJ code pc o0 t0 && mSwOk code pc ts os) = true := hs
    rw [Bool.and_eq_true] at hs
    cases h
    exact ⟨o0, rfl, mJ_eq hs.1⟩
  | t0 :: ts, o0 :: os, hs, k + 1, t, h => by
    have hs : (mJ code pc o0 t0 && mSwOk code pc ts os) = true := hs
    rw [Bool.and_eq_true] at hs
    exact mSwOk_at hs.2 (by simpa using h)
  | [], o0 :: os, hs, k, t, h => by cases hs
  | t0 :: ts, [], hs, k, t, h => by cases hs
theorem mLdl_inv {i : Nat} {L : List (Option Value)} {st : List Value} {M : mM} {r : mS} (h : mLdl i L st M = some r) : ∃ x o st', st = .int x :: .ref o :: st' ∧ (mSh o).1 = 13 ∧ mIn x (mSh o).2 = true ∧ r = (i + 1, L, .long (M o x.toNatClampNeg).toInt64 :: st', M) := by
  unfold mLdl at h
  split at h
  · split at h
    · rename_i q
      exact ⟨_, _, _, rfl, q.1, q.2, (Option.some.inj h).symm⟩
    · cases h
  · cases h
theorem mLdt_inv {i : Nat} {L : List (Option Value)} {st : List Value} {M : mM} {r : mS} (h : mLdt i L st M = some r) : ∃ x o st', st = .int x :: .ref o :: st' ∧ (mSh o).1 = 14 ∧ mIn x (mSh o).2 = true ∧ r = (i + 1, L, .ref (71 + 12 * x.toNatClampNeg) :: st', M) := by
  unfold mLdt at h
  split at h
  · split at h
    · rename_i q
      exact ⟨_, _, _, rfl, q.1, q.2, (Option.some.inj h).symm⟩
    · cases h
  · cases h
theorem mStl_inv {i : Nat} {L : List (Option Value)} {st : List Value} {M : mM} {r : mS} (h : mStl i L st M = some r) : ∃ v x o st', st = .long v :: .int x :: .ref o :: st' ∧ (mSh o).1 = 13 ∧ mIn x (mSh o).2 = true ∧ v.toInt32.toInt64 = v ∧ r = (i + 1, L, st', mst M o x.toNatClampNeg v.toInt32) := by
  unfold mStl at h
  split at h
  · split at h
    · rename_i q
      exact ⟨_, _, _, _, rfl, q.1, q.2.1, q.2.2, (Option.some.inj h).symm⟩
    · cases h
  · cases h
theorem mAl2_inv {i : Nat} {L : List (Option Value)} {st : List Value} {M : mM} {r : mS} (h : mAl2 i L st M = some r) : ∃ o st', st = .ref o :: st' ∧ (((mSh o).1 = 15 ∧ r = (i + 1, L, .int (M 233 0) :: st', M)) ∨ (10 ≤ (mSh o).1 ∧ (mSh o).1 ≤ 14 ∧ r = (i + 1, L, .int (nI (mSh o).2) :: st', M))) := by
  unfold mAl2 at h
  split at h
  · split at h
    · exact ⟨_, _, rfl, Or.inl ⟨by assumption, (Option.some.inj h).symm⟩⟩
    · split at h
      · rename_i q
        exact ⟨_, _, rfl, Or.inr ⟨q.1, q.2, (Option.some.inj h).symm⟩⟩
      · cases h
  · cases h
theorem mLds_inv {i : Nat} {L : List (Option Value)} {st : List Value} {M : mM} {r : mS} (h : mLds i L st M = some r) : mLda 10 i L st M = some r ∨ ∃ x o st', st = .int x :: .ref o :: st' ∧ (mSh o).1 = 15 ∧ mIn x (M 233 0).toNatClampNeg = true ∧ r = (i + 1, L, .int (M o x.toNatClampNeg) :: st', M) := by
  unfold mLds at h
  split at h
  · split at h
    · rename_i q
      exact Or.inr ⟨_, _, _, rfl, q.1, q.2, (Option.some.inj h).symm⟩
    · exact Or.inl h
  · cases h
theorem mSh_scr {o : Nat} (h : (mSh o).1 = 15) : o = 232 := by
  rcases Nat.lt_or_ge o 232 with q | q
  · exfalso
    have key : (List.range 232).all (fun z => !(Nat.beq (mSh z).1 15)) = true := by decide +kernel
    have h1 := List.all_eq_true.mp key o (List.mem_range.mpr q)
    rw [h] at h1
    cases h1
  · rcases Nat.lt_or_ge o 233 with r | r
    · omega
    · exfalso
      have h1 : Nat.blt o 35 = false := by cases e : Nat.blt o 35 with | false => rfl | true => exact absurd (Nat.blt_eq.mp e) (by omega)
      have h2 : Nat.blt o 215 = false := by cases e : Nat.blt o 215 with | false => rfl | true => exact absurd (Nat.blt_eq.mp e) (by omega)
      have h3 : mSh o = mS3.getD (o - 215) (99, 0) := by unfold mSh; simp only [cond, h1, h2]
      have h4 : mS3.getD (o - 215) (99, 0) = (99, 0) := by
        rw [List.getD_eq_getElem?_getD, List.getElem?_eq_none (by show mS3.length ≤ _; have : mS3.length = 18 := rfl; omega)]
        rfl
      rw [h3, h4] at h
      exact absurd h (by decide)
theorem mC1_ref {G : mG} {v : Value} (h : mC1 v = true) : (mRf G v).category = 1 := mC1_cat h
set_option maxHeartbeats 8000000 in
set_option maxRecDepth 10000 in
theorem m_step {G : mG} {y i : Nat} {en : mE} {L : List (Option Value)} {st : List Value} {M : mM} {r : mS}
    (hF : mFr y p s m args c) (hK : va_K (gD G) vwCl (mTys G) s) (hT : mTxt G s) (hok : mOkE (mT y).1.cls (mT y).2.1 (mKc y) i en = true) (hLL : L.length = mKl y)
    (hst : mstep en i L st M = some r) (hl : lv_has ls (mKl y) (mLv G L)) (hD : mDy G s M H locs)
    (kk : ∀ (H1 : Heap) (locs1 : List Loc) (ls1 : Array Slot), lv_has ls1 (mKl y) (mLv G r.2.1) → mDy G s r.2.2.2 H1 locs1 → W p l e R s m args below meth c H1 locs1 cells slots Q (F0 m (mPc (mKc y) r.1) ls1 (r.2.2.1.map (mRf G)))) :
    W p l e R s m args below meth c H locs cells slots Q (F0 m en.2.1 ls (st.map (mRf G))) := by
  obtain ⟨ins, pc, ln, a, b, w⟩ := en
  have hF0 := hF
  obtain ⟨hx, hb, hml, hown, hts⟩ := hF
  have k0 := kk H locs ls
  cases ins
  case iconst n =>
    have hst : some _ = some r := hst
    cases hst
    obtain ⟨hd, hn⟩ := mk2 (k := 1) hok
    have k1 := k0 hl hD
    dsimp only at k1
    rw [hn] at k1
    exact lv_iconst hx hb hd rfl k1
  case bipush n =>
    have hst : some _ = some r := hst
    cases hst
    obtain ⟨hd, hn⟩ := mk2 (k := 2) hok
    have k1 := k0 hl hD
    dsimp only at k1
    rw [hn] at k1
    exact lv_bipush hx hb hd rfl k1
  case sipush n =>
    have hst : some _ = some r := hst
    cases hst
    obtain ⟨hd, hn⟩ := mk2 (k := 3) hok
    have k1 := k0 hl hD
    dsimp only at k1
    rw [hn] at k1
    exact lv_sipush hx hb hd rfl k1
  case aconst_null =>
    have hst : some _ = some r := hst
    cases hst
    obtain ⟨hd, hn⟩ := mk2 (k := 1) hok
    have k1 := k0 hl hD
    dsimp only at k1
    rw [hn] at k1
    exact lv_null hx hb hd k1
  case ldc idx =>
    obtain ⟨hd, hn, hc⟩ := mk4 (k := 2) hok
    match a, hst, hc with
    | 0, hst, hc =>
      have hst : some _ = some r := hst
      cases hst
      have k1 := k0 hl hD
      dsimp only at k1
      rw [hn] at k1
      exact lv_ldc hx hb hown (hts _ (mGw_of (mCst_0 hc) rfl)) hd k1
    | a + 1, hst, hc =>
      have hst : some _ = some r := hst
      cases hst
      obtain ⟨q, hq, e1, e2, e3⟩ := mCst_1 hc
      have k1 := k0 hl hD
      dsimp only at k1
      rw [hn] at k1
      have hR := hT _ _ hq
      rw [e1, e2, e3] at hR
      exact va_ldcS hx hb hown hR hd k1
  case ldc_w idx =>
    obtain ⟨hd, hn, hc⟩ := mk4 (k := 3) hok
    match a, hst, hc with
    | 0, hst, hc =>
      have hst : some _ = some r := hst
      cases hst
      have k1 := k0 hl hD
      dsimp only at k1
      rw [hn] at k1
      exact lv_ldcw hx hb hown (hts _ (mGw_of (mCst_0 hc) rfl)) hd k1
    | a + 1, hst, hc =>
      have hst : some _ = some r := hst
      cases hst
      obtain ⟨q, hq, e1, e2, e3⟩ := mCst_1 hc
      have k1 := k0 hl hD
      dsimp only at k1
      rw [hn] at k1
      have hR := hT _ _ hq
      rw [e1, e2, e3] at hR
      exact mv_ldcSW hx hb hown hR hd k1
  case iload k =>
    obtain ⟨hd, hn⟩ := mk2 (k := 2) hok
    obtain ⟨x, hv, rfl⟩ := mIl_inv hst
    have k1 := k0 hl hD
    dsimp only at k1
    rw [hn] at k1
    exact lv_iload hx hb hd  (mLv_get hl hv rfl) k1
  case iload_n k =>
    obtain ⟨hd, hn⟩ := mk2 (k := 1) hok
    obtain ⟨x, hv, rfl⟩ := mIl_inv hst
    have k1 := k0 hl hD
    dsimp only at k1
    rw [hn] at k1
    exact lv_iload_n hx hb hd rfl (mLv_get hl hv rfl) k1
  case aload k =>
    obtain ⟨hd, hn⟩ := mk2 (k := 2) hok
    rcases mAl_inv hst with ⟨x, hv, rfl⟩ | ⟨hv, rfl⟩
    · have k1 := k0 hl hD
      dsimp only at k1
      rw [hn] at k1
      exact lv_aload hx hb hd  (mLv_get hl hv rfl) k1
    · have k1 := k0 hl hD
      dsimp only at k1
      rw [hn] at k1
      exact lv_aloadN hx hb hd  (mLv_get hl hv rfl) k1
  case aload_n k =>
    obtain ⟨hd, hn⟩ := mk2 (k := 1) hok
    rcases mAl_inv hst with ⟨x, hv, rfl⟩ | ⟨hv, rfl⟩
    · have k1 := k0 hl hD
      dsimp only at k1
      rw [hn] at k1
      exact lv_aload_n hx hb hd rfl (mLv_get hl hv rfl) k1
    · have k1 := k0 hl hD
      dsimp only at k1
      rw [hn] at k1
      exact lv_aload_nN hx hb hd rfl (mLv_get hl hv rfl) k1
  case istore k =>
    obtain ⟨hd, hn⟩ := mk2 (k := 2) hok
    have hst : mIst i L k st M = some r := hst
    unfold mIst at hst
    split at hst
    · exact m_store (Or.inl ⟨rfl, rfl⟩) (fun _ => ⟨_, _, rfl⟩) (fun h => by rcases h with h | ⟨f, h⟩ <;> cases h) hF0 hd hn hst hLL hl hD kk
    · cases hst
  case istore_n k =>
    obtain ⟨hd, hn⟩ := mk2 (k := 1) hok
    have hst : mIst i L k.val st M = some r := hst
    unfold mIst at hst
    split at hst
    · exact m_store (Or.inr (Or.inr ⟨⟨k, rfl, Or.inl rfl⟩, rfl⟩)) (fun _ => ⟨_, _, rfl⟩) (fun h => by rcases h with h | ⟨f, h⟩ <;> cases h) hF0 hd hn hst hLL hl hD kk
    · cases hst
  case astore k =>
    obtain ⟨hd, hn⟩ := mk2 (k := 2) hok
    have hst : mAsr i L k st M = some r := hst
    unfold mAsr at hst
    split at hst
    · exact m_store (Or.inr (Or.inl ⟨rfl, rfl⟩)) (fun h => by rcases h with h | ⟨f, h⟩ <;> cases h) (fun _ => ⟨_, _, rfl, Or.inr ⟨_, rfl⟩⟩) hF0 hd hn hst hLL hl hD kk
    · exact m_store (Or.inr (Or.inl ⟨rfl, rfl⟩)) (fun h => by rcases h with h | ⟨f, h⟩ <;> cases h) (fun _ => ⟨_, _, rfl, Or.inl rfl⟩) hF0 hd hn hst hLL hl hD kk
    · cases hst
  case astore_n k =>
    obtain ⟨hd, hn⟩ := mk2 (k := 1) hok
    have hst : mAsr i L k.val st M = some r := hst
    unfold mAsr at hst
    split at hst
    · exact m_store (Or.inr (Or.inr ⟨⟨k, rfl, Or.inr rfl⟩, rfl⟩)) (fun h => by rcases h with h | ⟨f, h⟩ <;> cases h) (fun _ => ⟨_, _, rfl, Or.inr ⟨_, rfl⟩⟩) hF0 hd hn hst hLL hl hD kk
    · exact m_store (Or.inr (Or.inr ⟨⟨k, rfl, Or.inr rfl⟩, rfl⟩)) (fun h => by rcases h with h | ⟨f, h⟩ <;> cases h) (fun _ => ⟨_, _, rfl, Or.inl rfl⟩) hF0 hd hn hst hLL hl hD kk
    · cases hst
  case iinc k n =>
    obtain ⟨hd, hn⟩ := mk2 (k := 3) hok
    obtain ⟨x, hv, rfl⟩ := mIi_inv hst
    have hkl : k < L.length := (List.getElem?_eq_some_iff.mp (mLd_at hv)).1
    obtain ⟨j, hj⟩ := List.getElem?_of_mem (mLv_mem (G := G) (q := (k, Value.int x)) |>.mpr ⟨.int x, hv, rfl, rfl⟩)
    exact lv_iinc hx hb hd hl hj rfl (by rw [← hLL]; exact hkl) rfl (fun ls1 h => by
      have k1 := kk H locs ls1 (mLv_put hkl rfl h) hD
      dsimp only at k1
      rw [hn] at k1
      exact k1)
  case iadd =>
    obtain ⟨hd, hn⟩ := mk2 (k := 1) hok
    obtain ⟨x, z, st1, rfl, rfl⟩ := mB2_inv hst
    have k1 := k0 hl hD
    dsimp only at k1
    rw [hn] at k1
    exact lv_iadd hx hb hd k1
  case isub =>
    obtain ⟨hd, hn⟩ := mk2 (k := 1) hok
    obtain ⟨x, z, st1, rfl, rfl⟩ := mB2_inv hst
    have k1 := k0 hl hD
    dsimp only at k1
    rw [hn] at k1
    exact lv_isub hx hb hd k1
  case imul =>
    obtain ⟨hd, hn⟩ := mk2 (k := 1) hok
    obtain ⟨x, z, st1, rfl, rfl⟩ := mB2_inv hst
    have k1 := k0 hl hD
    dsimp only at k1
    rw [hn] at k1
    exact lv_imul hx hb hd k1
  case iand =>
    obtain ⟨hd, hn⟩ := mk2 (k := 1) hok
    obtain ⟨x, z, st1, rfl, rfl⟩ := mB2_inv hst
    have k1 := k0 hl hD
    dsimp only at k1
    rw [hn] at k1
    exact lv_iand hx hb hd k1
  case ior =>
    obtain ⟨hd, hn⟩ := mk2 (k := 1) hok
    obtain ⟨x, z, st1, rfl, rfl⟩ := mB2_inv hst
    have k1 := k0 hl hD
    dsimp only at k1
    rw [hn] at k1
    exact lv_ior hx hb hd k1
  case ixor =>
    obtain ⟨hd, hn⟩ := mk2 (k := 1) hok
    obtain ⟨x, z, st1, rfl, rfl⟩ := mB2_inv hst
    have k1 := k0 hl hD
    dsimp only at k1
    rw [hn] at k1
    exact lv_ixor hx hb hd k1
  case ishl =>
    obtain ⟨hd, hn⟩ := mk2 (k := 1) hok
    obtain ⟨x, z, st1, rfl, rfl⟩ := mB2_inv hst
    have k1 := k0 hl hD
    dsimp only at k1
    rw [hn] at k1
    exact lv_ishl hx hb hd k1
  case ishr =>
    obtain ⟨hd, hn⟩ := mk2 (k := 1) hok
    obtain ⟨x, z, st1, rfl, rfl⟩ := mB2_inv hst
    have k1 := k0 hl hD
    dsimp only at k1
    rw [hn] at k1
    exact lv_ishr hx hb hd k1
  case iushr =>
    obtain ⟨hd, hn⟩ := mk2 (k := 1) hok
    obtain ⟨x, z, st1, rfl, rfl⟩ := mB2_inv hst
    have k1 := k0 hl hD
    dsimp only at k1
    rw [hn] at k1
    exact lv_iushr hx hb hd rfl k1
  case idiv =>
    obtain ⟨hd, hn⟩ := mk2 (k := 1) hok
    obtain ⟨x, z, st1, rfl, hne, rfl⟩ := mDv_inv hst
    have k1 := k0 hl hD
    dsimp only at k1
    rw [hn] at k1
    exact lv_idiv hx hb hd hne k1
  case irem =>
    obtain ⟨hd, hn⟩ := mk2 (k := 1) hok
    obtain ⟨x, z, st1, rfl, hne, rfl⟩ := mDv_inv hst
    have k1 := k0 hl hD
    dsimp only at k1
    rw [hn] at k1
    exact lv_irem hx hb hd hne k1
  case ineg =>
    obtain ⟨hd, hn⟩ := mk2 (k := 1) hok
    obtain ⟨x, st1, rfl, rfl⟩ := mU1_inv hst
    have k1 := k0 hl hD
    dsimp only at k1
    rw [hn] at k1
    exact lv_ineg hx hb hd  k1
  case i2b =>
    obtain ⟨hd, hn⟩ := mk2 (k := 1) hok
    obtain ⟨x, st1, rfl, rfl⟩ := mU1_inv hst
    have k1 := k0 hl hD
    dsimp only at k1
    rw [hn] at k1
    exact lv_i2b hx hb hd rfl k1
  case i2l =>
    obtain ⟨hd, hn⟩ := mk2 (k := 1) hok
    have hst : mI2l i L st M = some r := hst
    unfold mI2l at hst
    split at hst
    · cases hst
      have k1 := k0 hl hD
      dsimp only at k1
      rw [hn] at k1
      exact lv_i2l hx hb hd rfl k1
    · cases hst
  case lcmp =>
    obtain ⟨hd, hn⟩ := mk2 (k := 1) hok
    have hst : mLcm i L st M = some r := hst
    unfold mLcm at hst
    split at hst
    · cases hst
      have k1 := k0 hl hD
      dsimp only at k1
      rw [hn] at k1
      exact W.lcmp hx hb hd k1
    · cases hst
  case dup =>
    obtain ⟨hd, hn⟩ := mk2 (k := 1) hok
    have hst : mDup i L st M = some r := hst
    unfold mDup at hst
    split at hst
    · split at hst
      · cases hst
        have k1 := k0 hl hD
        dsimp only at k1
        rw [hn] at k1
        exact lv_dup hx hb hd (mC1_cat (by assumption)) k1
      · cases hst
    · cases hst
  case dup2 =>
    obtain ⟨hd, hn⟩ := mk2 (k := 1) hok
    have hst : mDup2 i L st M = some r := hst
    unfold mDup2 at hst
    split at hst
    · split at hst
      · rename_i hcc
        cases hst
        have k1 := k0 hl hD
        dsimp only at k1
        rw [hn] at k1
        exact lv_dup2_11 hx hb hd (mC1_cat hcc.1) (mC1_cat hcc.2) k1
      · cases hst
    · cases hst
  case pop =>
    obtain ⟨hd, hn⟩ := mk2 (k := 1) hok
    have hst : mPop i L st M = some r := hst
    unfold mPop at hst
    split at hst
    · split at hst
      · cases hst
        have k1 := k0 hl hD
        dsimp only at k1
        rw [hn] at k1
        exact lv_pop hx hb hd (mC1_cat (by assumption)) k1
      · cases hst
    · cases hst
  case goto off =>
    have hst : some _ = some r := hst
    cases hst
    obtain ⟨hd, hj⟩ := mk1 (k := 3) hok
    exact lv_goto hx hb hd (mJ_eq hj) (k0 hl hD)
  case ifCond cd off =>
    have hok : (decide (decode _ pc = .ok (.ifCond cd off, ln)) && (Nat.beq ln 3 && mJ (mKc y) pc off a && mNx (mKc y) i pc ln)) = true := hok
    obtain ⟨hd, hj, hn⟩ := mk3 (k := 3) hok
    have ht := mJ_eq hj
    cases cd
    case eq =>
      obtain ⟨x, st1, rfl, rfl⟩ := mIf_inv hst
      have k1 := k0 hl hD
      dsimp only at k1
      refine lv_if_eq hx hb hd ht (fun h => ?_) (fun h => ?_)
      · rw [m_bif (decide_eq_true h)] at k1; exact k1
      · rw [m_bff (decide_eq_false h), hn] at k1; exact k1
    case ne =>
      obtain ⟨x, st1, rfl, rfl⟩ := mIf_inv hst
      have k1 := k0 hl hD
      dsimp only at k1
      refine lv_if_ne hx hb hd ht (fun h => ?_) (fun h => ?_)
      · rw [m_bif (decide_eq_true h)] at k1; exact k1
      · rw [m_bff (decide_eq_false (fun z => z h)), hn] at k1; exact k1
    case lt =>
      obtain ⟨x, st1, rfl, rfl⟩ := mIf_inv hst
      have k1 := k0 hl hD
      dsimp only at k1
      refine lv_if_lt hx hb hd ht (fun h => ?_) (fun h => ?_)
      · rw [m_bif (decide_eq_true h)] at k1; exact k1
      · rw [m_bff (decide_eq_false h), hn] at k1; exact k1
    case ge =>
      obtain ⟨x, st1, rfl, rfl⟩ := mIf_inv hst
      have k1 := k0 hl hD
      dsimp only at k1
      refine lv_if_ge hx hb hd ht (fun h => ?_) (fun h => ?_)
      · rw [m_bif (decide_eq_true h)] at k1; exact k1
      · rw [m_bff (decide_eq_false h), hn] at k1; exact k1
    case gt =>
      obtain ⟨x, st1, rfl, rfl⟩ := mIf_inv hst
      have k1 := k0 hl hD
      dsimp only at k1
      refine lv_if_gt hx hb hd ht (fun h => ?_) (fun h => ?_)
      · rw [m_bif (decide_eq_true h)] at k1; exact k1
      · rw [m_bff (decide_eq_false h), hn] at k1; exact k1
    case le =>
      obtain ⟨x, st1, rfl, rfl⟩ := mIf_inv hst
      have k1 := k0 hl hD
      dsimp only at k1
      refine lv_if_le hx hb hd ht (fun h => ?_) (fun h => ?_)
      · rw [m_bif (decide_eq_true h)] at k1; exact k1
      · rw [m_bff (decide_eq_false h), hn] at k1; exact k1
  case if_icmp cd off =>
    have hok : (decide (decode _ pc = .ok (.if_icmp cd off, ln)) && (Nat.beq ln 3 && mJ (mKc y) pc off a && mNx (mKc y) i pc ln)) = true := hok
    obtain ⟨hd, hj, hn⟩ := mk3 (k := 3) hok
    have ht := mJ_eq hj
    cases cd
    case eq =>
      obtain ⟨x, z, st1, rfl, rfl⟩ := mIc_inv hst
      have k1 := k0 hl hD
      dsimp only at k1
      refine lv_icmp_eq hx hb hd ht (fun h => ?_) (fun h => ?_)
      · rw [m_bif (decide_eq_true h)] at k1; exact k1
      · rw [m_bff (decide_eq_false h), hn] at k1; exact k1
    case ne =>
      obtain ⟨x, z, st1, rfl, rfl⟩ := mIc_inv hst
      have k1 := k0 hl hD
      dsimp only at k1
      refine lv_icmp_ne hx hb hd ht (fun h => ?_) (fun h => ?_)
      · rw [m_bif (decide_eq_true h)] at k1; exact k1
      · rw [m_bff (decide_eq_false (fun z => z h)), hn] at k1; exact k1
    case lt =>
      obtain ⟨x, z, st1, rfl, rfl⟩ := mIc_inv hst
      have k1 := k0 hl hD
      dsimp only at k1
      refine lv_icmp_lt hx hb hd ht (fun h => ?_) (fun h => ?_)
      · rw [m_bif (decide_eq_true h)] at k1; exact k1
      · rw [m_bff (decide_eq_false h), hn] at k1; exact k1
    case ge =>
      obtain ⟨x, z, st1, rfl, rfl⟩ := mIc_inv hst
      have k1 := k0 hl hD
      dsimp only at k1
      refine lv_icmp_ge hx hb hd ht (fun h => ?_) (fun h => ?_)
      · rw [m_bif (decide_eq_true h)] at k1; exact k1
      · rw [m_bff (decide_eq_false h), hn] at k1; exact k1
    case gt =>
      obtain ⟨x, z, st1, rfl, rfl⟩ := mIc_inv hst
      have k1 := k0 hl hD
      dsimp only at k1
      refine lv_icmp_gt hx hb hd ht (fun h => ?_) (fun h => ?_)
      · rw [m_bif (decide_eq_true h)] at k1; exact k1
      · rw [m_bff (decide_eq_false h), hn] at k1; exact k1
    case le =>
      obtain ⟨x, z, st1, rfl, rfl⟩ := mIc_inv hst
      have k1 := k0 hl hD
      dsimp only at k1
      refine lv_icmp_le hx hb hd ht (fun h => ?_) (fun h => ?_)
      · rw [m_bif (decide_eq_true h)] at k1; exact k1
      · rw [m_bff (decide_eq_false h), hn] at k1; exact k1
  case ifnull off =>
    have hok : (decide (decode _ pc = .ok (.ifnull off, ln)) && (Nat.beq ln 3 && mJ (mKc y) pc off a && mNx (mKc y) i pc ln)) = true := hok
    obtain ⟨hd, hj, hn⟩ := mk3 (k := 3) hok
    have ht := mJ_eq hj
    have hst : mIfn a (i + 1) L st M = some r := hst
    unfold mIfn at hst
    split at hst
    · cases hst
      exact lv_ifnullN hx hb hd ht (k0 hl hD)
    · cases hst
      have k1 := k0 hl hD
      dsimp only at k1
      rw [hn] at k1
      exact lv_ifnull hx hb hd k1
    · cases hst
  case ifnonnull off =>
    have hok : (decide (decode _ pc = .ok (.ifnonnull off, ln)) && (Nat.beq ln 3 && mJ (mKc y) pc off a && mNx (mKc y) i pc ln)) = true := hok
    obtain ⟨hd, hj, hn⟩ := mk3 (k := 3) hok
    have ht := mJ_eq hj
    have hst : mIfn (i + 1) a L st M = some r := hst
    unfold mIfn at hst
    split at hst
    · cases hst
      have k1 := k0 hl hD
      dsimp only at k1
      rw [hn] at k1
      exact lv_ifnonnullN hx hb hd k1
    · cases hst
      exact lv_ifnonnull hx hb hd ht (k0 hl hD)
    · cases hst
  case tableswitch dflt lo hi offs =>
    have hok : (decide (decode _ pc = .ok (.tableswitch dflt lo hi offs, ln)) && mSwOk (mKc y) pc (mSw a) (dflt :: offs.toList)) = true := hok
    rw [Bool.and_eq_true] at hok
    have hd := of_decide_eq_true hok.1
    have hsw := hok.2
    have hst : mSwi lo hi a i L st M = some r := hst
    unfold mSwi at hst
    split at hst
    · split at hst
      · cases hst
      · rename_i d0 ts hsw0
        rw [hsw0] at hsw
        split at hst
        · rename_i hout
          cases hst
          obtain ⟨o1, ho1, ho2⟩ := mSwOk_at hsw (k := 0) (t := d0) rfl
          cases ho1
          exact lv_tableOut hx hb hd hout ho2 (k0 hl hD)
        · rename_i hin
          split at hst
          · rename_i t0 ht0
            cases hst
            obtain ⟨o1, ho1, ho2⟩ := mSwOk_at hsw (k := _ + 1) (t := t0) (by simpa using ht0)
            refine lv_tableIn hx hb hd (fun z => hin (Or.inl z)) (fun z => hin (Or.inr z)) (off := o1) ?_ ho2 (k0 hl hD)
            rw [← Array.getElem?_toList]
            simpa using ho1
          · cases hst
    · cases hst
  case getfield idx =>
    obtain ⟨hd, hn, hw⟩ := mk4 (k := 3) hok
    obtain ⟨o, st1, rfl, hsh, hr⟩ := mGf_inv hst
    obtain ⟨q, hq, hbq, hlw⟩ := mFd_eq hw
    obtain ⟨hu, -, -⟩ := mCl_ok a q hq
    have ha10 := vwCl_lt hq
    have ho : o < 232 := mSh_lt (by rw [hsh]; omega)
    have e0 := mCel_o (G := G) (M := M) hsh ha10
    have he : (mWs G M)[o]? = some (gA G o, .inr (a, (List.range (mNf a)).map (mFv G M o a))) := (mWs_at G M ho).trans (by rw [e0])
    have hv : ((List.range (mNf a)).map (mFv G M o a))[b]? = some (mFv G M o a b) := by
      rw [List.getElem?_map, List.getElem?_range (by rw [mNf_of hq]; exact hbq)]
      rfl
    rcases hr with ⟨hz, rfl⟩ | ⟨d, hz, rfl⟩
    · have k1 := k0 hl hD
      dsimp only at k1
      rw [hn] at k1
      refine va_get (D := gD G) (ci := a) (C := q.1) (T := q.2.1) (N := q.2.2) hx hb hts hu hown hK hD.1 o he hq b hbq (hts _ (mGw_of hlw rfl)) (fun _ h9 => h9) hv hd ?_
      have e1 : mFv G M o a b = .int (M o b) := by unfold mFv; rw [hz]
      rw [e1]
      exact k1
    · have k1 := k0 hl hD
      dsimp only at k1
      rw [hn] at k1
      refine va_get (D := gD G) (ci := a) (C := q.1) (T := q.2.1) (N := q.2.2) hx hb hts hu hown hK hD.1 o he hq b hbq (hts _ (mGw_of hlw rfl)) (fun _ h9 => h9) hv hd ?_
      have e1 : mFv G M o a b = .ref (gA G (o + (d + 1))) := by unfold mFv; rw [hz]
      rw [e1]
      exact k1
  case putfield idx =>
    obtain ⟨hd, hn, hw, hp⟩ := mk5 (k := 3) hok
    exact m_put hF0 hK hd hn hw hp hst hl hD kk
  case iastore =>
    obtain ⟨hd, hn⟩ := mk2 (k := 1) hok
    exact m_sta (Or.inl ⟨rfl, rfl, rfl⟩) hF0 hK hd hn hst hl hD kk
  case bastore =>
    obtain ⟨hd, hn⟩ := mk2 (k := 1) hok
    have hst : mStb i L st M = some r := hst
    unfold mStb at hst
    split at hst
    · split at hst
      · exact m_sta (Or.inr (Or.inl ⟨rfl, rfl, rfl⟩)) hF0 hK hd hn hst hl hD kk
      · exact m_sta (Or.inr (Or.inr ⟨rfl, rfl, rfl⟩)) hF0 hK hd hn hst hl hD kk
    · cases hst
  case baload =>
    obtain ⟨hd, hn⟩ := mk2 (k := 1) hok
    have hst : mLdb i L st M = some r := hst
    unfold mLdb at hst
    split at hst
    · split at hst
      · exact m_lda (Or.inr (Or.inl ⟨rfl, rfl⟩)) hF0 hK hd hn hst hl hD kk
      · exact m_lda (Or.inr (Or.inr ⟨rfl, rfl⟩)) hF0 hK hd hn hst hl hD kk
    · cases hst
  case iaload =>
    obtain ⟨hd, hn⟩ := mk2 (k := 1) hok
    rcases mLds_inv hst with hst | ⟨x, o, st1, rfl, hsh, hin, rfl⟩
    · exact m_lda (Or.inl ⟨rfl, rfl⟩) hF0 hK hd hn hst hl hD kk
    · have k1 := k0 hl hD
      dsimp only at k1
      rw [hn] at k1
      obtain ⟨hP, hDD, hS, N, hN, hNlt, hX, hlt, hlz⟩ := hD
      have ho := mSh_scr hsh
      subst ho
      have hin := mIn_vp hin
      rw [m_nI hN hNlt] at hin
      exact va_sld hx hb hX hlt (Nat.not_le.mpr hlz) hS hin hd k1
  case laload =>
    obtain ⟨hd, hn⟩ := mk2 (k := 1) hok
    obtain ⟨x, o, st1, rfl, hsh, hin, rfl⟩ := mLdl_inv hst
    have k1 := k0 hl hD
    dsimp only at k1
    rw [hn] at k1
    have ho := mSh_lt (o := o) (by rw [hsh]; omega)
    exact va_lald (f := fun j => (M o j).toInt64) hx hb hK hD.1 o 3 ((mWs_at G M ho).trans (by rw [mCel_l hsh])) rfl (mIn_vp hin) hd k1
  case lastore =>
    obtain ⟨hd, hn⟩ := mk2 (k := 1) hok
    obtain ⟨v, x, o, st1, rfl, hsh, hin, hv, rfl⟩ := mStl_inv hst
    have k1 := fun H1 locs1 h => kk H1 locs1 ls hl h
    dsimp only at k1
    rw [hn] at k1
    obtain ⟨hP, hDD, hS, hSc⟩ := hD
    have ho := mSh_lt (o := o) (by rw [hsh]; omega)
    have e1 := mCel_l (G := G) (M := mst M o x.toNatClampNeg v.toInt32) hsh
    have e2 : (fun j => (mst M o x.toNatClampNeg v.toInt32 o j).toInt64) = vp_updL (fun j => (M o j).toInt64) x.toNatClampNeg v := by
      funext j
      rw [mst_at]
      unfold upd vp_updL
      by_cases q : j = x.toNatClampNeg
      · rw [if_pos q, if_pos q]; exact hv
      · rw [if_neg q, if_neg q]
    rw [e2] at e1
    refine va_last hx hb hK hP hDD hS o 3 ((mWs_at G M ho).trans (by rw [mCel_l hsh])) rfl (mIn_vp hin) hd (fun H1 locs1 h1 h2 h3 => ?_)
    rw [← e1] at h1 h2
    exact k1 H1 locs1 (mWs_put ho (fun q hq => mst_ne M _ _ hq) hSc h1 h2 h3)
  case aaload =>
    obtain ⟨hd, hn⟩ := mk2 (k := 1) hok
    obtain ⟨x, o, st1, rfl, hsh, hin, rfl⟩ := mLdt_inv hst
    have k1 := k0 hl hD
    dsimp only at k1
    rw [hn] at k1
    have ho := mSh_lt (o := o) (by rw [hsh]; omega)
    exact va_aldq (f := fun j => some (gA G (71 + 12 * j))) hx hb hK hD.1 o 4 ((mWs_at G M ho).trans (by rw [mCel_t hsh])) rfl (mIn_vp hin) hd k1
  case arraylength =>
    obtain ⟨hd, hn⟩ := mk2 (k := 1) hok
    obtain ⟨o, st1, rfl, ⟨hsh, rfl⟩ | ⟨h10, h14, rfl⟩⟩ := mAl2_inv hst
    · have k1 := k0 hl hD
      dsimp only at k1
      rw [hn] at k1
      obtain ⟨hP, hDD, hS, N, hN, hNlt, hX, hlt, hlz⟩ := hD
      have ho := mSh_scr hsh
      subst ho
      rw [hN] at k1
      exact va_slen hx hb hX hlt (Nat.not_le.mpr hlz) hS hd k1
    · have k1 := k0 hl hD
      dsimp only at k1
      rw [hn] at k1
      have ho := mSh_lt (o := o) (by omega)
      obtain ⟨cA, x, t0, ty, he, hx0, ht0⟩ : ∃ (cA : ClassId) (x : vp_A) (t0 : Nat) (ty : FieldType), mCel G M o = .inl (cA, x) ∧ x.1 = (mSh o).2 ∧ (mTys G)[t0]? = some (cA, ty) := by
        have h5 : (mSh o).1 = 10 ∨ (mSh o).1 = 11 ∨ (mSh o).1 = 12 ∨ (mSh o).1 = 13 ∨ (mSh o).1 = 14 := by omega
        rcases h5 with h | h | h | h | h
        · exact ⟨_, _, 0, _, mCel_a h (by omega) (by omega), rfl, rfl⟩
        · exact ⟨_, _, 1, _, mCel_a h (by omega) (by omega), rfl, rfl⟩
        · exact ⟨_, _, 2, _, mCel_a h (by omega) (by omega), rfl, rfl⟩
        · exact ⟨_, _, 3, _, mCel_l h, rfl, rfl⟩
        · exact ⟨_, _, 4, _, mCel_t h, rfl, rfl⟩
      exact va_alen hx hb hK hD.1 o t0 ((mWs_at G M ho).trans (by rw [he])) ht0 (by rw [hx0]; rfl) hd k1
  all_goals (exact absurd hst (by intro z; cases z))
end MT
