/-! the small machine's contents as cells of the heap -/
abbrev mG : Type := va_G × (Nat → ClassId) × (Nat → Nat) × Nat × (Nat → Nat)
def gD (G : mG) : va_G := G.1
def gC (G : mG) : Nat → ClassId := G.2.1
def gA (G : mG) : Nat → Nat := G.2.2.1
def gZ (G : mG) : Nat := G.2.2.2.1
def gV (G : mG) : Nat → Nat := G.2.2.2.2
/-- what may be written: all that came since the law began -/
def mA (G : mG) : Nat → Prop := fun q => gZ G ≤ q
def mRf (G : mG) (v : Value) : Value := match v with
  | .ref k => .ref (gA G k)
  | w => w
def mNf (c : Nat) : Nat := match vwCl[c]? with
  | some q => q.2.2
  | none => 0
def mFv (G : mG) (M : mM) (o c k : Nat) : Value := match mOff c k with
  | 0 => .int (M o k)
  | d + 1 => .ref (gA G (o + (d + 1)))
def mCelK (G : mG) (M : mM) (o : Nat) (q : Nat × Nat) : va_E :=
  if q.1 < 10 then .inr (q.1, (List.range (mNf q.1)).map (mFv G M o q.1))
  else if q.1 < 13 then .inl (gC G q.1, q.2, .inl (M o))
  else if q.1 = 13 then .inl (gC G 13, q.2, .inr (.inl (fun j => (M o j).toInt64)))
  else .inl (gC G 14, q.2, .inr (.inr (.inr (.inr (fun j => some (gA G (71 + 12 * j)))))))
def mCel (G : mG) (M : mM) (o : Nat) : va_E := mCelK G M o (mSh o)
def mWs (G : mG) (M : mM) : va_W := (List.range 232).map fun o => (gA G o, mCel G M o)
def mTys (G : mG) : List (ClassId × FieldType) := [(gC G 10, .int), (gC G 11, .byte), (gC G 12, .boolean), (gC G 13, .long), (gC G 14, .object "WakeTower$Tower")]
theorem mSh_lt {o : Nat} (h : (mSh o).1 < 15) : o < 232 := by
  rcases Nat.lt_or_ge o 232 with q | q
  · exact q
  · exfalso
    have h1 : Nat.blt o 35 = false := by cases e : Nat.blt o 35 with | false => rfl | true => exact absurd (Nat.blt_eq.mp e) (by omega)
    have h2 : Nat.blt o 215 = false := by cases e : Nat.blt o 215 with | false => rfl | true => exact absurd (Nat.blt_eq.mp e) (by omega)
    have h3 : mSh o = mS3.getD (o - 215) (99, 0) := by unfold mSh; simp only [cond, h1, h2]
    rw [h3] at h
    rcases Nat.lt_or_ge o 233 with r | r
    · have : o = 232 := by omega
      subst this
      revert h; decide
    · have h4 : mS3.getD (o - 215) (99, 0) = (99, 0) := by
        rw [List.getD_eq_getElem?_getD, List.getElem?_eq_none (by show mS3.length ≤ _; have : mS3.length = 18 := rfl; omega)]
        rfl
      rw [h4] at h
      exact absurd h (by decide)
theorem mWs_at (G : mG) (M : mM) {o : Nat} (h : o < 232) : (mWs G M)[o]? = some (gA G o, mCel G M o) := by
  unfold mWs
  rw [List.getElem?_map, List.getElem?_range h]
  rfl
theorem mCel_row {G : mG} {M M' : mM} {o : Nat} (h : M' o = M o) : mCel G M' o = mCel G M o := by
  unfold mCel mCelK
  have : mFv G M' o (mSh o).1 = mFv G M o (mSh o).1 := by funext k; unfold mFv; rw [h]
  rw [this, h]
theorem mWs_set (G : mG) {M M' : mM} {o : Nat} (ho : o < 232) (h : ∀ q, q ≠ o → M' q = M q) : mWs G M' = (mWs G M).set o (gA G o, mCel G M' o) := by
  apply List.ext_getElem?
  intro i
  rcases Nat.lt_or_ge i 232 with q | q
  · rw [mWs_at G M' q]
    by_cases e : i = o
    · subst e
      rw [List.getElem?_set_self (by simpa [mWs] using q)]
    · rw [List.getElem?_set_ne (Ne.symm e), mWs_at G M q, mCel_row (h i e)]
  · rw [List.getElem?_eq_none (by simpa [mWs] using q), List.getElem?_eq_none (by simpa [mWs] using q)]
theorem mst_at (M : mM) (o k : Nat) (v : Int32) : mst M o k v o = upd (M o) k v := if_pos rfl
theorem mst_ne (M : mM) {o q : Nat} (k : Nat) (v : Int32) (h : q ≠ o) : mst M o k v q = M q := if_neg h
theorem mCel_o {G : mG} {M : mM} {o c : Nat} (h : (mSh o).1 = c) (hc : c < 10) : mCel G M o = .inr (c, (List.range (mNf c)).map (mFv G M o c)) := by
  unfold mCel mCelK
  rw [h, if_pos hc]
theorem mCel_a {G : mG} {M : mM} {o c : Nat} (h : (mSh o).1 = c) (h1 : 10 ≤ c) (h2 : c < 13) : mCel G M o = .inl (gC G c, (mSh o).2, .inl (M o)) := by
  unfold mCel mCelK
  rw [h, if_neg (by omega), if_pos h2]
theorem mCel_l {G : mG} {M : mM} {o : Nat} (h : (mSh o).1 = 13) : mCel G M o = .inl (gC G 13, (mSh o).2, .inr (.inl (fun j => (M o j).toInt64))) := by
  unfold mCel mCelK
  rw [h, if_neg (by omega), if_neg (by omega), if_pos rfl]
theorem mCel_t {G : mG} {M : mM} {o : Nat} (h : (mSh o).1 = 14) : mCel G M o = .inl (gC G 14, (mSh o).2, .inr (.inr (.inr (.inr (fun j => some (gA G (71 + 12 * j))))))) := by
  unfold mCel mCelK
  rw [h, if_neg (by omega), if_neg (by omega), if_neg (by omega)]
theorem m_mapset {α : Type} (g g' : Nat → α) {N k : Nat} (h : ∀ j, j ≠ k → g' j = g j) : ((List.range N).map g).set k (g' k) = (List.range N).map g' := by
  apply List.ext_getElem?
  intro i
  rcases Nat.lt_or_ge i N with q | q
  · by_cases e : i = k
    · subst e
      rw [List.getElem?_set_self (by simpa using q), List.getElem?_map, List.getElem?_range q]
      rfl
    · rw [List.getElem?_set_ne (Ne.symm e), List.getElem?_map, List.getElem?_range q, List.getElem?_map, List.getElem?_range q]
      show some _ = some _
      rw [h i e]
  · rw [List.getElem?_eq_none (by simpa using q), List.getElem?_eq_none (by simpa using q)]
/-- locals -/
def mLv (G : mG) (L : List (Option Value)) : List (Nat × Value) := (List.range L.length).filterMap fun i => (mLd L i).bind fun v => if mC1 v = true then some (i, mRf G v) else none
theorem mLd_at {L : List (Option Value)} {i : Nat} {v : Value} (h : mLd L i = some v) : L[i]? = some (some v) := by
  unfold mLd at h
  rw [List.getD_eq_getElem?_getD] at h
  cases e : L[i]? with
  | none => rw [e] at h; cases h
  | some x => rw [e] at h; rw [show x = some v from h]
theorem mLd_of {L : List (Option Value)} {i : Nat} {v : Value} (h : L[i]? = some (some v)) : mLd L i = some v := by
  unfold mLd
  rw [List.getD_eq_getElem?_getD, h]
  rfl
theorem mLv_mem {G : mG} {L : List (Option Value)} {q : Nat × Value} : q ∈ mLv G L ↔ ∃ v, mLd L q.1 = some v ∧ mC1 v = true ∧ q.2 = mRf G v := by
  unfold mLv
  rw [List.mem_filterMap]
  constructor
  · rintro ⟨i, -, hi⟩
    cases e : mLd L i with
    | none => rw [e] at hi; cases hi
    | some v =>
      rw [e] at hi
      by_cases c : mC1 v = true
      · have hi : some (i, mRf G v) = some q := by simpa [c] using hi
        cases hi
        exact ⟨v, e, c, rfl⟩
      · simp [c] at hi
  · rintro ⟨v, hv, c, hq⟩
    have hl : q.1 < L.length := (List.getElem?_eq_some_iff.mp (mLd_at hv)).1
    refine ⟨q.1, List.mem_range.mpr hl, ?_⟩
    rw [hv]
    simp only [Option.bind_some, c, if_true]
    rw [← hq]
theorem mC1_cat {G : mG} {v : Value} (h : mC1 v = true) : (mRf G v).category = 1 := by
  cases v <;> first | rfl | exact absurd h (by decide) | (simp [mC1] at h)
theorem mLv_get {G : mG} {L : List (Option Value)} {ls : Array Slot} {n i : Nat} {v : Value} (h : lv_has ls n (mLv G L)) (hv : mLd L i = some v) (hc : mC1 v = true) : ls[i]? = some (.val (mRf G v)) :=
  h.2.2 (i, mRf G v) (mLv_mem.mpr ⟨v, hv, hc, rfl⟩)
theorem mLv_put {G : mG} {L : List (Option Value)} {ls : Array Slot} {n i : Nat} {v w : Value} (hi : i < L.length) (hw : w = mRf G v)
    (h : lv_has ls n ((i, w) :: (mLv G L).filter (fun q => !(q.1 == i) && !(q.1 + 1 == i && q.2.category == 2)))) : lv_has ls n (mLv G (L.set i (some v))) := by
  refine ⟨h.1, h.2.1, fun q hq => ?_⟩
  obtain ⟨u, hu, hc, e⟩ := mLv_mem.mp hq
  have hu' := mLd_at hu
  by_cases c : q.1 = i
  · rw [c, List.getElem?_set_self hi] at hu'
    cases hu'
    rw [c, e, ← hw]
    exact h.2.2 (i, w) List.mem_cons_self
  · rw [List.getElem?_set_ne (Ne.symm c)] at hu'
    have hm : q ∈ mLv G L := mLv_mem.mpr ⟨u, mLd_of hu', hc, e⟩
    refine h.2.2 q (List.mem_cons_of_mem _ (List.mem_filter.mpr ⟨hm, ?_⟩))
    have c2 : q.2.category = 1 := by rw [e]; exact mC1_cat hc
    rw [c2]
    simp [c]
theorem mLv_drop {G : mG} {L : List (Option Value)} {ls : Array Slot} {n i : Nat} (h : lv_has ls n (mLv G L)) : lv_has ls n (mLv G (L.set i none)) := by
  refine ⟨h.1, h.2.1, fun q hq => ?_⟩
  obtain ⟨u, hu, hc, e⟩ := mLv_mem.mp hq
  have hu' := mLd_at hu
  by_cases c : q.1 = i
  · by_cases hi : i < L.length
    · rw [c, List.getElem?_set_self hi] at hu'
      cases hu'
    · rw [List.set_eq_of_length_le (by omega)] at hu'
      exact h.2.2 q (mLv_mem.mpr ⟨u, mLd_of hu', hc, e⟩)
  · rw [List.getElem?_set_ne (Ne.symm c)] at hu'
    exact h.2.2 q (mLv_mem.mpr ⟨u, mLd_of hu', hc, e⟩)
