/-! the run keeps the script; prims; throws -/
theorem mAdd_inv {k : Nat} {r : mR} {o : Option Int32 ⊕ Nat} {M : mM} {j : Nat} (h : mAdd k r = some (o, M, j)) : ∃ j', r = some (o, M, j') ∧ j = k + j' := by
  unfold mAdd at h
  split at h
  · cases h
    exact ⟨_, rfl, rfl⟩
  · cases h
theorem m_bifN {b : Bool} {α : Type} {x : Option α} {z : α} (h : (bif b then x else none) = some z) : b = true ∧ x = some z := by
  cases b
  · cases h
  · exact ⟨rfl, h⟩
theorem mPrim_row {f : Nat} {av : List Value} {M M' : mM} {v : Option Int32} (h : mPrim f av M = some (v, M')) : M' 232 = M 232 ∧ M' 233 = M 233 := by
  have g1 : mP1 av M = some (v, M') → M' 232 = M 232 ∧ M' 233 = M 233 := fun h => by
    unfold mP1 at h
    split at h
    · cases h; exact ⟨rfl, rfl⟩
    · cases h
  have g2 : mP2 av M = some (v, M') → M' 232 = M 232 ∧ M' 233 = M 233 := fun h => by
    unfold mP2 at h
    split at h
    · cases h; exact ⟨rfl, rfl⟩
    · cases h
  have g3 : mP3 av M = some (v, M') → M' 232 = M 232 ∧ M' 233 = M 233 := fun h => by
    unfold mP3 at h
    split at h
    · split at h
      · rename_i hc
        cases h
        have := mSh_lt (show _ < 15 by rw [hc.2.1]; omega)
        exact ⟨if_neg (by omega), if_neg (by omega)⟩
      · cases h
    · cases h
  have g4 : mP4 av M = some (v, M') → M' 232 = M 232 ∧ M' 233 = M 233 := fun h => by
    unfold mP4 at h
    split at h
    · split at h
      · split at h
        · cases h; exact ⟨rfl, rfl⟩
        · cases h
      · cases h
    · cases h
  have g5 : mP5 av M = some (v, M') → M' 232 = M 232 ∧ M' 233 = M 233 := fun h => by
    unfold mP5 at h
    split at h
    · split at h
      · split at h
        · split at h
          · cases h; exact ⟨rfl, rfl⟩
          · cases h
        · cases h
      · cases h
    · cases h
  match f, h with
  | 0, h => cases h
  | 1, h => exact g1 h
  | 2, h => exact g2 h
  | 3, h => exact g3 h
  | 4, h => exact g4 h
  | 5, h => exact g5 h
  | n + 6, h => cases h
/-- the ways a run goes on from an instruction -/
theorem mx_cases {n d y i : Nat} {L : List (Option Value)} {st : List Value} {M : mM} {r : (Option Int32 ⊕ Nat) × mM × Nat} (h : mx (n + 1) d y i L st M = some r) :
    ∃ (ins : Instr) (pc ln a b w : Nat), (mKc y)[i]? = some (ins, pc, ln, a, b, w) ∧
    ((mKd ins = 0 ∧ ∃ q, mstep (ins, pc, ln, a, b, w) i L st M = some q ∧ mx n d y q.1 q.2.1 q.2.2.1 q.2.2.2 = some r) ∨
     (mKd ins = 1 ∧ ∃ x, st = [.int x] ∧ mRok (mKr y) x = true ∧ r = (.inl (some x), M, 0)) ∨
     (mKd ins = 2 ∧ mKr y = none ∧ st = [] ∧ r = (.inl none, M, 0)) ∨
     (mKd ins = 3 ∧ 8 ≤ d ∧ mV4 st = true ∧ a < 5 ∧ (mHd y).isEmpty = true ∧ r = (.inr a, M, 1)) ∨
     (mKd ins = 4 ∧ a < 10 ∧ 8 ≤ d ∧ mPn a ≤ st.length ∧ mV4 (st.drop (mPn a)) = true ∧ ∃ v M1, mPrim a (st.take (mPn a)).reverse M = some (v, M1) ∧ mx n d y (i + 1) L (mVl v ++ st.drop (mPn a)) M1 = some r) ∨
     (mKd ins = 4 ∧ ¬ a < 10 ∧ ∃ d', d = d' + 1 ∧ mKn a ≤ st.length ∧ mKn a ≤ mKl a ∧ mRec (mKi a) (st.take (mKn a)).reverse = true ∧ (st.take (mKn a)).all mC1 = true ∧ mV4 (st.drop (mKn a)) = true ∧
        mRet (fun i' L' st' M' => mx n (d' + 1) y i' L' st' M') y i b L (st.drop (mKn a)) (mx n d' a 0 (mEn (st.take (mKn a)).reverse (mKl a)) [] M) = some r)) := by
  have h : mBody (mx n) d y i L st M = some r := h
  unfold mBody at h
  have hk4 : ∀ ins : Instr, mKd ins = 0 ∨ mKd ins = 1 ∨ mKd ins = 2 ∨ mKd ins = 3 ∨ mKd ins = 4 := by
    intro ins
    cases ins <;> first | exact Or.inl rfl | exact Or.inr (Or.inl rfl) | exact Or.inr (Or.inr (Or.inl rfl)) | exact Or.inr (Or.inr (Or.inr (Or.inl rfl))) | exact Or.inr (Or.inr (Or.inr (Or.inr rfl)))
  cases he : (mKc y)[i]? with
  | none => rw [he] at h; cases h
  | some en =>
    obtain ⟨ins, pc, ln, a, b, w⟩ := en
    rw [he] at h
    refine ⟨ins, pc, ln, a, b, w, rfl, ?_⟩
    have h : mAct (mx n) d y i L st M (ins, pc, ln, a, b, w) = some r := h
    unfold mAct at h
    dsimp only at h
    rcases hk4 ins with hk | hk | hk | hk | hk
    · rw [hk] at h
      have h : mStp (mx n) d y (mstep (ins, pc, ln, a, b, w) i L st M) = some r := h
      cases hs : mstep (ins, pc, ln, a, b, w) i L st M with
      | none => rw [hs] at h; cases h
      | some q => rw [hs] at h; exact Or.inl ⟨hk, q, rfl, h⟩
    · rw [hk] at h
      have h : mIre (mKr y) st M = some r := h
      unfold mIre at h
      split at h
      · obtain ⟨h1, h2⟩ := m_bifN h
        exact Or.inr (Or.inl ⟨hk, _, rfl, h1, (Option.some.inj h2).symm⟩)
      · cases h
    · rw [hk] at h
      have h : mVre (mKr y) st M = some r := h
      unfold mVre at h
      split at h
      · exact Or.inr (Or.inr (Or.inl ⟨hk, by assumption, rfl, (Option.some.inj h).symm⟩))
      · cases h
    · rw [hk] at h
      have h : (bif Nat.ble 8 d && mV4 st && Nat.blt a 5 && (mHd y).isEmpty then some (.inr a, M, 1) else none : mR) = some r := h
      obtain ⟨h1, h2⟩ := m_bifN h
      simp only [Bool.and_eq_true] at h1
      exact Or.inr (Or.inr (Or.inr (Or.inl ⟨hk, Nat.le_of_ble_eq_true h1.1.1.1, h1.1.1.2, Nat.blt_eq.mp h1.1.2, h1.2, (Option.some.inj h2).symm⟩)))
    · rw [hk] at h
      have h : (bif Nat.blt a 10 then mLib (mx n) d y i a L st M else mDeep (mx n) d y i a b L st M) = some r := h
      by_cases ha : a < 10
      · rw [m_bif (Nat.blt_eq.mpr ha)] at h
        obtain ⟨h1, h2⟩ := m_bifN h
        simp only [Bool.and_eq_true] at h1
        cases hp : mPrim a (st.take (mPn a)).reverse M with
        | none => rw [hp] at h2; cases h2
        | some q =>
          rw [hp] at h2
          exact Or.inr (Or.inr (Or.inr (Or.inr (Or.inl ⟨hk, ha, Nat.le_of_ble_eq_true h1.1.1, Nat.le_of_ble_eq_true h1.1.2, h1.2, q.1, q.2, rfl, h2⟩))))
      · have hb : Nat.blt a 10 = false := by cases e : Nat.blt a 10 with | false => rfl | true => exact absurd (Nat.blt_eq.mp e) ha
        rw [m_bff hb] at h
        cases d with
        | zero => cases h
        | succ d' =>
          obtain ⟨h1, h2⟩ := m_bifN h
          simp only [Bool.and_eq_true] at h1
          exact Or.inr (Or.inr (Or.inr (Or.inr (Or.inr ⟨hk, ha, d', rfl, Nat.le_of_ble_eq_true h1.1.1.1.1, Nat.le_of_ble_eq_true h1.1.1.1.2, h1.1.1.2, h1.1.2, h1.2, h2⟩))))
/-- a call's ways on -/
theorem mRet_cases {go : Nat → List (Option Value) → List Value → mM → mR} {y i b : Nat} {L : List (Option Value)} {rest : List Value} {q : mR} {r : (Option Int32 ⊕ Nat) × mM × Nat} (h : mRet go y i b L rest q = some r) :
    (∃ v M1 k1 o M' k2, q = some (.inl v, M1, k1) ∧ go (i + 1) L (mVl v ++ rest) M1 = some (o, M', k2) ∧ r = (o, M', k1 + k2)) ∨
    (∃ E M1 k1, q = some (.inr E, M1, k1) ∧ ¬ b = 1 ∧ mCatch (mHd y) i E = none ∧ r = (.inr E, M1, k1)) ∨
    (∃ E M1 k1 hh z o M' k2, q = some (.inr E, M1, k1) ∧ ¬ b = 1 ∧ mCatch (mHd y) i E = some hh ∧ mAst (mKc y)[hh]? = some z ∧ z < L.length ∧ go (hh + 1) (L.set z none) [] M1 = some (o, M', k2) ∧ r = (o, M', k1 + k2)) := by
  unfold mRet at h
  split at h
  · cases h
  · obtain ⟨o, M', k⟩ := r
    obtain ⟨j, h1, h2⟩ := mAdd_inv h
    exact Or.inl ⟨_, _, _, _, _, _, rfl, h1, by rw [h2]⟩
  · rename_i E M1 k1
    have hb : ¬ b = 1 := by
      intro q
      rw [m_bif (by rw [q]; rfl)] at h
      cases h
    have hbf : Nat.beq b 1 = false := by cases e : Nat.beq b 1 with | false => rfl | true => exact absurd (Nat.eq_of_beq_eq_true e) hb
    rw [m_bff hbf] at h
    cases hc : mCatch (mHd y) i E with
    | none => rw [hc] at h; exact Or.inr (Or.inl ⟨_, _, _, rfl, hb, hc, (Option.some.inj h).symm⟩)
    | some hh =>
      rw [hc] at h
      dsimp only at h
      cases hz : mAst (mKc y)[hh]? with
      | none => rw [hz] at h; cases h
      | some z =>
        rw [hz] at h
        dsimp only at h
        obtain ⟨h1, h2⟩ := m_bifN h
        obtain ⟨o, M', k⟩ := r
        obtain ⟨j, h3, h4⟩ := mAdd_inv h2
        exact Or.inr (Or.inr ⟨_, _, _, _, _, _, _, _, rfl, hb, hc, hz, Nat.blt_eq.mp h1, h3, by rw [h4]⟩)
theorem mx_row : ∀ (n d y i : Nat) (L : List (Option Value)) (st : List Value) (M : mM) (r : (Option Int32 ⊕ Nat) × mM × Nat), mx n d y i L st M = some r → r.2.1 232 = M 232 ∧ r.2.1 233 = M 233 := by
  intro n
  induction n with
  | zero => intro d y i L st M r h; cases h
  | succ n ih =>
    intro d y i L st M r h
    obtain ⟨ins, pc, ln, a, b, w, -, h⟩ := mx_cases h
    rcases h with ⟨-, q, h1, h2⟩ | ⟨-, x, -, -, rfl⟩ | ⟨-, -, -, rfl⟩ | ⟨-, -, -, -, -, rfl⟩ | ⟨-, -, -, -, -, v, M1, h1, h2⟩ | ⟨-, -, d', -, -, -, -, -, -, h2⟩
    · have k1 := mstep_keep h1
      have k2 := ih _ _ _ _ _ _ _ h2
      exact ⟨k2.1.trans k1.2.1, k2.2.trans k1.2.2⟩
    · exact ⟨rfl, rfl⟩
    · exact ⟨rfl, rfl⟩
    · exact ⟨rfl, rfl⟩
    · have k1 := mPrim_row h1
      have k2 := ih _ _ _ _ _ _ _ h2
      exact ⟨k2.1.trans k1.1, k2.2.trans k1.2⟩
    · rcases mRet_cases h2 with ⟨v, M1, k1, o, M', k2, e1, e2, rfl⟩ | ⟨E, M1, k1, e1, -, -, rfl⟩ | ⟨E, M1, k1, hh, z, o, M', k2, e1, -, -, -, -, e2, rfl⟩
      · have g1 := ih _ _ _ _ _ _ _ e1
        have g2 := ih _ _ _ _ _ _ _ e2
        exact ⟨g2.1.trans g1.1, g2.2.trans g1.2⟩
      · exact ih _ _ _ _ _ _ _ e1
      · have g1 := ih _ _ _ _ _ _ _ e1
        have g2 := ih _ _ _ _ _ _ _ e2
        exact ⟨g2.1.trans g1.1, g2.2.trans g1.2⟩
theorem mRf_cat {G : mG} (v : Value) : (mRf G v).category = v.category := by cases v <;> rfl
theorem mV4_sum {G : mG} {st : List Value} (h : mV4 st = true) : ((st.map (mRf G)).map fun v => v.category).sum ≤ 8 := by
  have h1 : (st.map (mRf G)).map (fun v => v.category) = st.map fun v => v.category := by
    rw [List.map_map]
    exact List.map_congr_left fun v _ => mRf_cat v
  rw [h1]
  exact Nat.ble_eq.mp h
theorem mVl_map {G : mG} (v : Option Int32) (rest : List Value) : (mVl v ++ rest).map (mRf G) = mVl v ++ rest.map (mRf G) := by cases v <;> rfl
