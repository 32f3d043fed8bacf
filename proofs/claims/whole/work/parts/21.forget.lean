/-! what is known of the locals may be forgotten -/
def mLe (L L' : List (Option Value)) : Prop := L'.length = L.length ∧ ∀ k v, mLd L k = some v → mLd L' k = some v
theorem mLe.rf {L : List (Option Value)} : mLe L L := ⟨rfl, fun _ _ h => h⟩
theorem mLd_set {L : List (Option Value)} {k j : Nat} {u : Option Value} (hk : k < L.length) : mLd (L.set k u) j = if j = k then u else mLd L j := by
  unfold mLd
  rw [List.getD_eq_getElem?_getD, List.getD_eq_getElem?_getD]
  by_cases h : j = k
  · subst h
    rw [List.getElem?_set_self hk, if_pos rfl]
    rfl
  · rw [List.getElem?_set_ne (Ne.symm h), if_neg h]
theorem mLe.set {L L' : List (Option Value)} {k : Nat} {u : Option Value} (h : mLe L L') (hk : k < L.length) : mLe (L.set k u) (L'.set k u) := by
  refine ⟨by rw [List.length_set, List.length_set]; exact h.1, fun j v hv => ?_⟩
  rw [mLd_set hk] at hv
  rw [mLd_set (by rw [h.1]; exact hk)]
  by_cases e : j = k
  · rw [if_pos e] at hv ⊢; exact hv
  · rw [if_neg e] at hv ⊢; exact h.2 j v hv
set_option maxHeartbeats 4000000 in
theorem mstep_le {en : mE} {i : Nat} {L L' : List (Option Value)} {st : List Value} {M : mM} {r : mS} (hst : mstep en i L st M = some r) (hL : mLe L L') : ∃ L1, mstep en i L' st M = some (r.1, L1, r.2.2.1, r.2.2.2) ∧ mLe r.2.1 L1 := by
  obtain ⟨ins, pc, ln, a, b, w⟩ := en
  cases ins
  case iconst n =>
    have hst : some _ = some r := hst
    cases hst
    exact ⟨L', rfl, hL⟩
  case bipush n =>
    have hst : some _ = some r := hst
    cases hst
    exact ⟨L', rfl, hL⟩
  case sipush n =>
    have hst : some _ = some r := hst
    cases hst
    exact ⟨L', rfl, hL⟩
  case aconst_null  =>
    have hst : some _ = some r := hst
    cases hst
    exact ⟨L', rfl, hL⟩
  case goto off =>
    have hst : some _ = some r := hst
    cases hst
    exact ⟨L', rfl, hL⟩
  case ldc idx =>
    match a, hst with
    | 0, hst =>
      have hst : some _ = some r := hst
      cases hst
      exact ⟨L', rfl, hL⟩
    | a + 1, hst =>
      have hst : some _ = some r := hst
      cases hst
      exact ⟨L', rfl, hL⟩
  case ldc_w idx =>
    match a, hst with
    | 0, hst =>
      have hst : some _ = some r := hst
      cases hst
      exact ⟨L', rfl, hL⟩
    | a + 1, hst =>
      have hst : some _ = some r := hst
      cases hst
      exact ⟨L', rfl, hL⟩
  case iload k =>
    obtain ⟨x, hv, rfl⟩ := mIl_inv hst
    refine ⟨L', ?_, hL⟩
    show mIl i L' k st M = _
    unfold mIl
    rw [hL.2 _ _ hv]
  case iload_n k =>
    obtain ⟨x, hv, rfl⟩ := mIl_inv hst
    refine ⟨L', ?_, hL⟩
    show mIl i L' k.val st M = _
    unfold mIl
    rw [hL.2 _ _ hv]
  case aload k =>
    rcases mAl_inv hst with ⟨x, hv, rfl⟩ | ⟨hv, rfl⟩
    · refine ⟨L', ?_, hL⟩
      show mAl i L' k st M = _
      unfold mAl
      rw [hL.2 _ _ hv]
    · refine ⟨L', ?_, hL⟩
      show mAl i L' k st M = _
      unfold mAl
      rw [hL.2 _ _ hv]
  case aload_n k =>
    rcases mAl_inv hst with ⟨x, hv, rfl⟩ | ⟨hv, rfl⟩
    · refine ⟨L', ?_, hL⟩
      show mAl i L' k.val st M = _
      unfold mAl
      rw [hL.2 _ _ hv]
    · refine ⟨L', ?_, hL⟩
      show mAl i L' k.val st M = _
      unfold mAl
      rw [hL.2 _ _ hv]
  case istore k =>
    have hst : mIst i L k st M = some r := hst
    unfold mIst at hst
    split at hst
    · obtain ⟨v, st1, e, -, hk, rfl⟩ := mAs_inv hst
      cases e
      refine ⟨L'.set _ _, ?_, hL.set hk⟩
      exact if_pos (by rw [hL.1]; exact hk)
    · cases hst
  case istore_n k =>
    have hst : mIst i L k.val st M = some r := hst
    unfold mIst at hst
    split at hst
    · obtain ⟨v, st1, e, -, hk, rfl⟩ := mAs_inv hst
      cases e
      refine ⟨L'.set _ _, ?_, hL.set hk⟩
      exact if_pos (by rw [hL.1]; exact hk)
    · cases hst
  case astore k =>
    have hst : mAsr i L k st M = some r := hst
    unfold mAsr at hst
    split at hst
    · obtain ⟨v, st1, e, -, hk, rfl⟩ := mAs_inv hst
      cases e
      refine ⟨L'.set _ _, ?_, hL.set hk⟩
      exact if_pos (by rw [hL.1]; exact hk)
    · obtain ⟨v, st1, e, -, hk, rfl⟩ := mAs_inv hst
      cases e
      refine ⟨L'.set _ _, ?_, hL.set hk⟩
      exact if_pos (by rw [hL.1]; exact hk)
    · cases hst
  case astore_n k =>
    have hst : mAsr i L k.val st M = some r := hst
    unfold mAsr at hst
    split at hst
    · obtain ⟨v, st1, e, -, hk, rfl⟩ := mAs_inv hst
      cases e
      refine ⟨L'.set _ _, ?_, hL.set hk⟩
      exact if_pos (by rw [hL.1]; exact hk)
    · obtain ⟨v, st1, e, -, hk, rfl⟩ := mAs_inv hst
      cases e
      refine ⟨L'.set _ _, ?_, hL.set hk⟩
      exact if_pos (by rw [hL.1]; exact hk)
    · cases hst
  case iinc k n =>
    obtain ⟨x, hv, rfl⟩ := mIi_inv hst
    refine ⟨L'.set k _, ?_, hL.set (List.getElem?_eq_some_iff.mp (mLd_at hv)).1⟩
    show mIi i L' k n st M = _
    unfold mIi
    rw [hL.2 _ _ hv]
  case iadd =>
    obtain ⟨x, z, st1, rfl, rfl⟩ := mB2_inv hst
    exact ⟨L', rfl, hL⟩
  case isub =>
    obtain ⟨x, z, st1, rfl, rfl⟩ := mB2_inv hst
    exact ⟨L', rfl, hL⟩
  case imul =>
    obtain ⟨x, z, st1, rfl, rfl⟩ := mB2_inv hst
    exact ⟨L', rfl, hL⟩
  case iand =>
    obtain ⟨x, z, st1, rfl, rfl⟩ := mB2_inv hst
    exact ⟨L', rfl, hL⟩
  case ior =>
    obtain ⟨x, z, st1, rfl, rfl⟩ := mB2_inv hst
    exact ⟨L', rfl, hL⟩
  case ixor =>
    obtain ⟨x, z, st1, rfl, rfl⟩ := mB2_inv hst
    exact ⟨L', rfl, hL⟩
  case ishl =>
    obtain ⟨x, z, st1, rfl, rfl⟩ := mB2_inv hst
    exact ⟨L', rfl, hL⟩
  case ishr =>
    obtain ⟨x, z, st1, rfl, rfl⟩ := mB2_inv hst
    exact ⟨L', rfl, hL⟩
  case iushr =>
    obtain ⟨x, z, st1, rfl, rfl⟩ := mB2_inv hst
    exact ⟨L', rfl, hL⟩
  case idiv =>
    obtain ⟨x, z, st1, rfl, hne, rfl⟩ := mDv_inv hst
    refine ⟨L', ?_, hL⟩
    exact if_neg hne
  case irem =>
    obtain ⟨x, z, st1, rfl, hne, rfl⟩ := mDv_inv hst
    refine ⟨L', ?_, hL⟩
    exact if_neg hne
  case ineg =>
    obtain ⟨x, st1, rfl, rfl⟩ := mU1_inv hst
    exact ⟨L', rfl, hL⟩
  case i2b =>
    obtain ⟨x, st1, rfl, rfl⟩ := mU1_inv hst
    exact ⟨L', rfl, hL⟩
  case i2l =>
    have hst : mI2l i L st M = some r := hst
    unfold mI2l at hst
    split at hst
    · cases hst
      exact ⟨L', rfl, hL⟩
    · cases hst
  case lcmp =>
    have hst : mLcm i L st M = some r := hst
    unfold mLcm at hst
    split at hst
    · cases hst
      exact ⟨L', rfl, hL⟩
    · cases hst
  case dup =>
    have hst : mDup i L st M = some r := hst
    unfold mDup at hst
    split at hst
    · split at hst
      · rename_i hc
        cases hst
        refine ⟨L', ?_, hL⟩
        exact if_pos hc
      · cases hst
    · cases hst
  case dup2 =>
    have hst : mDup2 i L st M = some r := hst
    unfold mDup2 at hst
    split at hst
    · split at hst
      · rename_i hc
        cases hst
        refine ⟨L', ?_, hL⟩
        exact if_pos hc
      · cases hst
    · cases hst
  case pop =>
    have hst : mPop i L st M = some r := hst
    unfold mPop at hst
    split at hst
    · split at hst
      · rename_i hc
        cases hst
        refine ⟨L', ?_, hL⟩
        exact if_pos hc
      · cases hst
    · cases hst
  case ifCond cd off =>
    cases cd <;> (obtain ⟨x, st1, rfl, rfl⟩ := mIf_inv hst; exact ⟨L', rfl, hL⟩)
  case if_icmp cd off =>
    cases cd <;> (obtain ⟨x, z, st1, rfl, rfl⟩ := mIc_inv hst; exact ⟨L', rfl, hL⟩)
  case ifnull off =>
    have hst : mIfn a (i + 1) L st M = some r := hst
    unfold mIfn at hst
    split at hst
    · cases hst
      exact ⟨L', rfl, hL⟩
    · cases hst
      exact ⟨L', rfl, hL⟩
    · cases hst
  case ifnonnull off =>
    have hst : mIfn (i + 1) a L st M = some r := hst
    unfold mIfn at hst
    split at hst
    · cases hst
      exact ⟨L', rfl, hL⟩
    · cases hst
      exact ⟨L', rfl, hL⟩
    · cases hst
  case tableswitch dflt lo hi offs =>
    have hst : mSwi lo hi a i L st M = some r := hst
    unfold mSwi at hst
    split at hst
    · split at hst
      · cases hst
      · rename_i hsw
        split at hst
        · rename_i hc
          cases hst
          refine ⟨L', ?_, hL⟩
          simp only [mstep, mSwi]
          rw [hsw]
          dsimp only
          rw [if_pos hc]
        · rename_i hc
          split at hst
          · rename_i ht
            cases hst
            refine ⟨L', ?_, hL⟩
            simp only [mstep, mSwi]
            rw [hsw]
            dsimp only
            rw [if_neg hc, ht]
          · cases hst
    · cases hst
  case getfield idx =>
    obtain ⟨o, st1, rfl, hsh, ⟨hz, rfl⟩ | ⟨d, hz, rfl⟩⟩ := mGf_inv hst
    · refine ⟨L', ?_, hL⟩
      simp only [mstep, mGf]
      rw [if_pos hsh, hz]
    · refine ⟨L', ?_, hL⟩
      simp only [mstep, mGf]
      rw [if_pos hsh, hz]
  case putfield idx =>
    obtain ⟨x, o, st1, rfl, hsh, hz, hbo, hc, rfl⟩ := mPf_inv hst
    refine ⟨L', ?_, hL⟩
    simp only [mstep, mPf]
    rw [if_pos ⟨hsh, hc⟩, hz]
    dsimp only
    by_cases hm : (a, b) ∈ mBo
    · rw [if_pos hm, if_pos (hbo hm)]
    · rw [if_neg hm]
  case iastore =>
    obtain ⟨v, x, o, st1, rfl, hsh, hin, rfl⟩ := mSta_inv hst
    refine ⟨L', ?_, hL⟩
    simp only [mstep, mSta]
    rw [if_pos ⟨hsh, hin⟩]
  case bastore =>
    have hst : mStb i L st M = some r := hst
    unfold mStb at hst
    split at hst
    · split at hst
      · rename_i h11
        obtain ⟨v, x, o, st1, e, hsh, hin, rfl⟩ := mSta_inv hst
        cases e
        refine ⟨L', ?_, hL⟩
        simp only [mstep, mStb, mSta]
        rw [if_pos h11, if_pos ⟨hsh, hin⟩]
      · rename_i h11
        obtain ⟨v, x, o, st1, e, hsh, hin, rfl⟩ := mSta_inv hst
        cases e
        refine ⟨L', ?_, hL⟩
        simp only [mstep, mStb, mSta]
        rw [if_neg h11, if_pos ⟨hsh, hin⟩]
    · cases hst
  case baload =>
    have hst : mLdb i L st M = some r := hst
    unfold mLdb at hst
    split at hst
    · split at hst
      · rename_i h11
        obtain ⟨x, o, st1, e, hsh, hin, rfl⟩ := mLda_inv hst
        cases e
        refine ⟨L', ?_, hL⟩
        simp only [mstep, mLdb, mLda]
        rw [if_pos h11, if_pos ⟨hsh, hin⟩]
      · rename_i h11
        obtain ⟨x, o, st1, e, hsh, hin, rfl⟩ := mLda_inv hst
        cases e
        refine ⟨L', ?_, hL⟩
        simp only [mstep, mLdb, mLda]
        rw [if_neg h11, if_pos ⟨hsh, hin⟩]
    · cases hst
  case iaload =>
    have hst : mLds i L st M = some r := hst
    unfold mLds at hst
    split at hst
    · split at hst
      · rename_i hc
        cases hst
        refine ⟨L', ?_, hL⟩
        simp only [mstep, mLds]
        rw [if_pos hc]
      · rename_i hc
        obtain ⟨x, o, st1, e, hsh, hin, rfl⟩ := mLda_inv hst
        cases e
        refine ⟨L', ?_, hL⟩
        simp only [mstep, mLds, mLda]
        rw [if_neg hc, if_pos ⟨hsh, hin⟩]
    · cases hst
  case laload =>
    obtain ⟨x, o, st1, rfl, hsh, hin, rfl⟩ := mLdl_inv hst
    refine ⟨L', ?_, hL⟩
    simp only [mstep, mLdl]
    rw [if_pos ⟨hsh, hin⟩]
  case aaload =>
    obtain ⟨x, o, st1, rfl, hsh, hin, rfl⟩ := mLdt_inv hst
    refine ⟨L', ?_, hL⟩
    simp only [mstep, mLdt]
    rw [if_pos ⟨hsh, hin⟩]
  case lastore =>
    obtain ⟨v, x, o, st1, rfl, hsh, hin, hv, rfl⟩ := mStl_inv hst
    refine ⟨L', ?_, hL⟩
    simp only [mstep, mStl]
    rw [if_pos ⟨hsh, hin, hv⟩]
  case arraylength =>
    have hst : mAl2 i L st M = some r := hst
    unfold mAl2 at hst
    split at hst
    · split at hst
      · rename_i hc
        cases hst
        refine ⟨L', ?_, hL⟩
        simp only [mstep, mAl2]
        rw [if_pos hc]
      · split at hst
        · rename_i hc hc2
          cases hst
          refine ⟨L', ?_, hL⟩
          simp only [mstep, mAl2]
          rw [if_neg hc, if_pos hc2]
        · cases hst
    · cases hst
  all_goals (exact absurd hst (by intro z; cases z))
theorem mx_le : ∀ (n d y i : Nat) (L L' : List (Option Value)) (st : List Value) (M : mM) (r : (Option Int32 ⊕ Nat) × mM × Nat), mLe L L' → mx n d y i L st M = some r → mx n d y i L' st M = some r := by
  intro n
  induction n with
  | zero => intro d y i L L' st M r hL h; cases h
  | succ n ih =>
    intro d y i L L' st M r hL h
    obtain ⟨ins, pc, ln, a, b, w, he, h⟩ := mx_cases h
    rcases h with ⟨hk, q, h1, h2⟩ | ⟨hk, x, rfl, hx, rfl⟩ | ⟨hk, hkr, rfl, rfl⟩ | ⟨hk, hd8, hV, ha5, hem, rfl⟩ | ⟨hk, ha, hd8, hpn, hV, v, M1, h1, h2⟩ | ⟨hk, ha, d0, rfl, hna, hnl, hrec, hal, hV, h2⟩
    · obtain ⟨L1, h3, h4⟩ := mstep_le h1 hL
      rw [mx_s he hk h3]
      exact ih _ _ _ _ _ _ _ _ h4 h2
    · exact mx_r he hk hx
    · exact mx_v he hk hkr
    · exact mx_t he hk hd8 hV ha5 hem
    · rw [mx_l he hk ha hd8 hpn hV h1]
      exact ih _ _ _ _ _ _ _ _ hL h2
    · rw [mx_d he hk ha hna hnl hrec hal hV]
      rcases mRet_cases h2 with ⟨v, M1, k1, o1, M2, k2, e1, e2, rfl⟩ | ⟨E, M1, k1, e1, hb1, hcat, rfl⟩ | ⟨E, M1, k1, hh, z, o1, M2, k2, e1, hb1, hcat, hz, hzl, e2, rfl⟩
      · rw [e1]
        exact mAdd_some (ih _ _ _ _ _ _ _ _ hL e2)
      · rw [e1]
        show (bif Nat.beq b 1 then none else _) = _
        have hbf : Nat.beq b 1 = false := by cases e : Nat.beq b 1 with | false => rfl | true => exact absurd (Nat.eq_of_beq_eq_true e) hb1
        rw [m_bff hbf, hcat]
      · rw [e1]
        show (bif Nat.beq b 1 then none else _) = _
        have hbf : Nat.beq b 1 = false := by cases e : Nat.beq b 1 with | false => rfl | true => exact absurd (Nat.eq_of_beq_eq_true e) hb1
        rw [m_bff hbf, hcat]
        dsimp only
        rw [hz]
        dsimp only
        rw [m_bif (Nat.blt_eq.mpr (by rw [hL.1]; exact hzl))]
        exact mAdd_some (ih _ _ _ _ _ _ _ _ (hL.set hzl) e2)
theorem Ev.forget {d y i : Nat} {L L' : List (Option Value)} {st : List Value} {M : mM} {r : (Option Int32 ⊕ Nat) × mM × Nat} (hL : mLe L L') (h : Ev d y i L st M r) : Ev d y i L' st M r := by
  obtain ⟨n, h⟩ := h
  exact ⟨n, mx_le _ _ _ _ _ _ _ _ _ hL h⟩
/-- forgetting, by a list of the places kept -/
def mKp (L L' : List (Option Value)) : Prop := match L, L' with
  | [], [] => True
  | none :: L, _ :: L' => mKp L L'
  | some v :: L, u :: L' => u = some v ∧ mKp L L'
  | _, _ => False
theorem mKp_le : ∀ {L L' : List (Option Value)}, mKp L L' → mLe L L'
  | [], [], _ => mLe.rf
  | none :: L, u :: L', h => by
    have h1 := mKp_le (L := L) (L' := L') h
    refine ⟨by rw [List.length_cons, List.length_cons, h1.1], fun k v hk => ?_⟩
    cases k with
    | zero => cases hk
    | succ k => exact h1.2 k v hk
  | some w :: L, u :: L', h => by
    obtain ⟨rfl, h⟩ := h
    have h1 := mKp_le (L := L) (L' := L') h
    refine ⟨by rw [List.length_cons, List.length_cons, h1.1], fun k v hk => ?_⟩
    cases k with
    | zero => exact hk
    | succ k => exact h1.2 k v hk
  | [], _ :: _, h => h.elim
  | none :: _, [], h => h.elim
  | some _ :: _, [], h => h.elim
