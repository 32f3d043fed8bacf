/-! what no step changes; the library's methods known by their answers; throws -/
theorem mst_row {M : mM} {o k : Nat} {v : Int32} (h : (mSh o).1 < 15) : mst M o k v 232 = M 232 ∧ mst M o k v 233 = M 233 := by
  have := mSh_lt h
  exact ⟨mst_ne M k v (by omega), mst_ne M k v (by omega)⟩
theorem mKeep {L : List (Option Value)} {M : mM} {r : mS} (h1 : r.2.1 = L) (h2 : r.2.2.2 = M) : r.2.1.length = L.length ∧ r.2.2.2 232 = M 232 ∧ r.2.2.2 233 = M 233 := by rw [h1, h2]; exact ⟨rfl, rfl, rfl⟩
set_option maxHeartbeats 4000000 in
theorem mstep_keep {en : mE} {i : Nat} {L : List (Option Value)} {st : List Value} {M : mM} {r : mS} (hst : mstep en i L st M = some r) : r.2.1.length = L.length ∧ r.2.2.2 232 = M 232 ∧ r.2.2.2 233 = M 233 := by
  obtain ⟨ins, pc, ln, a, b, w⟩ := en
  cases ins
  case iconst n =>
    have hst : some _ = some r := hst
    cases hst
    exact mKeep rfl rfl
  case bipush n =>
    have hst : some _ = some r := hst
    cases hst
    exact mKeep rfl rfl
  case sipush n =>
    have hst : some _ = some r := hst
    cases hst
    exact mKeep rfl rfl
  case aconst_null  =>
    have hst : some _ = some r := hst
    cases hst
    exact mKeep rfl rfl
  case goto off =>
    have hst : some _ = some r := hst
    cases hst
    exact mKeep rfl rfl
  case ldc idx =>
    match a, hst with
    | 0, hst =>
      have hst : some _ = some r := hst
      cases hst
      exact mKeep rfl rfl
    | a + 1, hst =>
      have hst : some _ = some r := hst
      cases hst
      exact mKeep rfl rfl
  case ldc_w idx =>
    match a, hst with
    | 0, hst =>
      have hst : some _ = some r := hst
      cases hst
      exact mKeep rfl rfl
    | a + 1, hst =>
      have hst : some _ = some r := hst
      cases hst
      exact mKeep rfl rfl
  case iload k =>
    obtain ⟨x, hv, rfl⟩ := mIl_inv hst
    exact mKeep rfl rfl
  case iload_n k =>
    obtain ⟨x, hv, rfl⟩ := mIl_inv hst
    exact mKeep rfl rfl
  case aload k =>
    rcases mAl_inv hst with ⟨x, hv, rfl⟩ | ⟨hv, rfl⟩ <;> exact mKeep rfl rfl
  case aload_n k =>
    rcases mAl_inv hst with ⟨x, hv, rfl⟩ | ⟨hv, rfl⟩ <;> exact mKeep rfl rfl
  case istore k =>
    have hst : mIst i L k st M = some r := hst
    unfold mIst at hst
    split at hst
    · obtain ⟨v, st1, -, -, hk, rfl⟩ := mAs_inv hst
      exact ⟨List.length_set, rfl, rfl⟩
    · cases hst
  case istore_n k =>
    have hst : mIst i L k.val st M = some r := hst
    unfold mIst at hst
    split at hst
    · obtain ⟨v, st1, -, -, hk, rfl⟩ := mAs_inv hst
      exact ⟨List.length_set, rfl, rfl⟩
    · cases hst
  case astore k =>
    have hst : mAsr i L k st M = some r := hst
    unfold mAsr at hst
    split at hst
    · obtain ⟨v, st1, -, -, hk, rfl⟩ := mAs_inv hst
      exact ⟨List.length_set, rfl, rfl⟩
    · obtain ⟨v, st1, -, -, hk, rfl⟩ := mAs_inv hst
      exact ⟨List.length_set, rfl, rfl⟩
    · cases hst
  case astore_n k =>
    have hst : mAsr i L k.val st M = some r := hst
    unfold mAsr at hst
    split at hst
    · obtain ⟨v, st1, -, -, hk, rfl⟩ := mAs_inv hst
      exact ⟨List.length_set, rfl, rfl⟩
    · obtain ⟨v, st1, -, -, hk, rfl⟩ := mAs_inv hst
      exact ⟨List.length_set, rfl, rfl⟩
    · cases hst
  case iinc k n =>
    obtain ⟨x, hv, rfl⟩ := mIi_inv hst
    exact ⟨List.length_set, rfl, rfl⟩
  case iadd =>
    obtain ⟨x, z, st1, rfl, rfl⟩ := mB2_inv hst
    exact mKeep rfl rfl
  case isub =>
    obtain ⟨x, z, st1, rfl, rfl⟩ := mB2_inv hst
    exact mKeep rfl rfl
  case imul =>
    obtain ⟨x, z, st1, rfl, rfl⟩ := mB2_inv hst
    exact mKeep rfl rfl
  case iand =>
    obtain ⟨x, z, st1, rfl, rfl⟩ := mB2_inv hst
    exact mKeep rfl rfl
  case ior =>
    obtain ⟨x, z, st1, rfl, rfl⟩ := mB2_inv hst
    exact mKeep rfl rfl
  case ixor =>
    obtain ⟨x, z, st1, rfl, rfl⟩ := mB2_inv hst
    exact mKeep rfl rfl
  case ishl =>
    obtain ⟨x, z, st1, rfl, rfl⟩ := mB2_inv hst
    exact mKeep rfl rfl
  case ishr =>
    obtain ⟨x, z, st1, rfl, rfl⟩ := mB2_inv hst
    exact mKeep rfl rfl
  case iushr =>
    obtain ⟨x, z, st1, rfl, rfl⟩ := mB2_inv hst
    exact mKeep rfl rfl
  case idiv =>
    obtain ⟨x, z, st1, rfl, hne, rfl⟩ := mDv_inv hst
    exact mKeep rfl rfl
  case irem =>
    obtain ⟨x, z, st1, rfl, hne, rfl⟩ := mDv_inv hst
    exact mKeep rfl rfl
  case ineg =>
    obtain ⟨x, st1, rfl, rfl⟩ := mU1_inv hst
    exact mKeep rfl rfl
  case i2b =>
    obtain ⟨x, st1, rfl, rfl⟩ := mU1_inv hst
    exact mKeep rfl rfl
  case i2l =>
    have hst : mI2l i L st M = some r := hst
    unfold mI2l at hst
    split at hst
    · cases hst
      exact mKeep rfl rfl
    · cases hst
  case lcmp =>
    have hst : mLcm i L st M = some r := hst
    unfold mLcm at hst
    split at hst
    · cases hst
      exact mKeep rfl rfl
    · cases hst
  case dup =>
    have hst : mDup i L st M = some r := hst
    unfold mDup at hst
    split at hst
    · split at hst
      · cases hst
        exact mKeep rfl rfl
      · cases hst
    · cases hst
  case dup2 =>
    have hst : mDup2 i L st M = some r := hst
    unfold mDup2 at hst
    split at hst
    · split at hst
      · cases hst
        exact mKeep rfl rfl
      · cases hst
    · cases hst
  case pop =>
    have hst : mPop i L st M = some r := hst
    unfold mPop at hst
    split at hst
    · split at hst
      · cases hst
        exact mKeep rfl rfl
      · cases hst
    · cases hst
  case ifCond cd off =>
    cases cd <;> (obtain ⟨x, st1, hs, hr⟩ := mIf_inv hst; exact mKeep (by rw [hr]) (by rw [hr]))
  case if_icmp cd off =>
    cases cd <;> (obtain ⟨x, z, st1, hs, hr⟩ := mIc_inv hst; exact mKeep (by rw [hr]) (by rw [hr]))
  case ifnull off =>
    have hst : mIfn a (i + 1) L st M = some r := hst
    unfold mIfn at hst
    split at hst
    · cases hst
      exact mKeep rfl rfl
    · cases hst
      exact mKeep rfl rfl
    · cases hst
  case ifnonnull off =>
    have hst : mIfn (i + 1) a L st M = some r := hst
    unfold mIfn at hst
    split at hst
    · cases hst
      exact mKeep rfl rfl
    · cases hst
      exact mKeep rfl rfl
    · cases hst
  case tableswitch dflt lo hi offs =>
    have hst : mSwi lo hi a i L st M = some r := hst
    unfold mSwi at hst
    split at hst
    · split at hst
      · cases hst
      · split at hst
        · cases hst
          exact mKeep rfl rfl
        · split at hst
          · cases hst
            exact mKeep rfl rfl
          · cases hst
    · cases hst
  case getfield idx =>
    obtain ⟨o, st1, rfl, hsh, ⟨hz, rfl⟩ | ⟨d, hz, rfl⟩⟩ := mGf_inv hst <;> exact mKeep rfl rfl
  case putfield idx =>
    obtain ⟨x, o, st1, rfl, hsh, hz, hbo, hc, rfl⟩ := mPf_inv hst
    have hlt : (mSh o).1 < 15 := by rw [hsh]; omega
    have := mst_row (M := M) (k := b) (v := x) hlt
    exact ⟨rfl, this.1, this.2⟩
  case iastore =>
    obtain ⟨v, x, o, st1, rfl, hsh, hin, rfl⟩ := mSta_inv hst
    have := mst_row (M := M) (k := x.toNatClampNeg) (v := v) (o := o) (by rw [hsh]; omega)
    exact ⟨rfl, this.1, this.2⟩
  case bastore =>
    have hst : mStb i L st M = some r := hst
    unfold mStb at hst
    split at hst
    · split at hst
      · obtain ⟨v, x, o, st1, -, hsh, hin, rfl⟩ := mSta_inv hst
        have := mst_row (M := M) (k := x.toNatClampNeg) (v := vp_nar .byte v) (o := o) (by rw [hsh]; omega)
        exact ⟨rfl, this.1, this.2⟩
      · obtain ⟨v, x, o, st1, -, hsh, hin, rfl⟩ := mSta_inv hst
        have := mst_row (M := M) (k := x.toNatClampNeg) (v := vp_nar .boolean v) (o := o) (by rw [hsh]; omega)
        exact ⟨rfl, this.1, this.2⟩
    · cases hst
  case baload =>
    have hst : mLdb i L st M = some r := hst
    unfold mLdb at hst
    split at hst
    · split at hst
      · obtain ⟨x, o, st1, -, hsh, hin, rfl⟩ := mLda_inv hst
        exact mKeep rfl rfl
      · obtain ⟨x, o, st1, -, hsh, hin, rfl⟩ := mLda_inv hst
        exact mKeep rfl rfl
    · cases hst
  case iaload =>
    rcases mLds_inv hst with hst | ⟨x, o, st1, rfl, hsh, hin, rfl⟩
    · obtain ⟨x, o, st1, rfl, hsh, hin, rfl⟩ := mLda_inv hst
      exact mKeep rfl rfl
    · exact mKeep rfl rfl
  case laload =>
    obtain ⟨x, o, st1, rfl, hsh, hin, rfl⟩ := mLdl_inv hst
    exact mKeep rfl rfl
  case aaload =>
    obtain ⟨x, o, st1, rfl, hsh, hin, rfl⟩ := mLdt_inv hst
    exact mKeep rfl rfl
  case lastore =>
    obtain ⟨v, x, o, st1, rfl, hsh, hin, hv, rfl⟩ := mStl_inv hst
    have := mst_row (M := M) (k := x.toNatClampNeg) (v := v.toInt32) (o := o) (by rw [hsh]; omega)
    exact ⟨rfl, this.1, this.2⟩
  case arraylength =>
    obtain ⟨o, st1, rfl, ⟨hsh, rfl⟩ | ⟨h10, h14, rfl⟩⟩ := mAl2_inv hst <;> exact mKeep rfl rfl
  all_goals (exact absurd hst (by intro z; cases z))
