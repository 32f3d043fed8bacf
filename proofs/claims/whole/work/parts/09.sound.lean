/-! every step of the small machine, over the machine -/
theorem mk1 {bytes : ByteArray} {pc ln k : Nat} {ins : Instr} {B : Bool} (h : (decide (decode bytes pc = .ok (ins, ln)) && (Nat.beq ln k && B)) = true) : decode bytes pc = .ok (ins, k) ∧ B = true := by
  simp only [Bool.and_eq_true, decide_eq_true_eq] at h
  have e : ln = k := Nat.eq_of_beq_eq_true h.2.1
  rw [← e]
  exact ⟨h.1, h.2.2⟩
theorem mk2 {bytes : ByteArray} {code : List mE} {i pc ln k : Nat} {ins : Instr} (h : (decide (decode bytes pc = .ok (ins, ln)) && (Nat.beq ln k && mNx code i pc ln)) = true) : decode bytes pc = .ok (ins, k) ∧ mPc code (i + 1) = pc + k := by
  simp only [Bool.and_eq_true, decide_eq_true_eq] at h
  have e : ln = k := Nat.eq_of_beq_eq_true h.2.1
  subst e
  exact ⟨h.1, of_decide_eq_true h.2.2⟩
theorem mk3 {bytes : ByteArray} {code : List mE} {i pc ln k : Nat} {ins : Instr} {B : Bool} (h : (decide (decode bytes pc = .ok (ins, ln)) && (Nat.beq ln k && B && mNx code i pc ln)) = true) : decode bytes pc = .ok (ins, k) ∧ B = true ∧ mPc code (i + 1) = pc + k := by
  simp only [Bool.and_eq_true, decide_eq_true_eq] at h
  have e : ln = k := Nat.eq_of_beq_eq_true h.2.1.1
  subst e
  exact ⟨h.1, h.2.1.2, of_decide_eq_true h.2.2⟩
theorem mk4 {bytes : ByteArray} {code : List mE} {i pc ln k : Nat} {ins : Instr} {B : Bool} (h : (decide (decode bytes pc = .ok (ins, ln)) && (Nat.beq ln k && mNx code i pc ln && B)) = true) : decode bytes pc = .ok (ins, k) ∧ mPc code (i + 1) = pc + k ∧ B = true := by
  simp only [Bool.and_eq_true, decide_eq_true_eq] at h
  have e : ln = k := Nat.eq_of_beq_eq_true h.2.1.1
  subst e
  exact ⟨h.1, of_decide_eq_true h.2.1.2, h.2.2⟩
theorem mk5 {bytes : ByteArray} {code : List mE} {i pc ln k : Nat} {ins : Instr} {B C : Bool} (h : (decide (decode bytes pc = .ok (ins, ln)) && (Nat.beq ln k && mNx code i pc ln && B && C)) = true) : decode bytes pc = .ok (ins, k) ∧ mPc code (i + 1) = pc + k ∧ B = true ∧ C = true := by
  simp only [Bool.and_eq_true, decide_eq_true_eq] at h
  have e : ln = k := Nat.eq_of_beq_eq_true h.2.1.1.1
  subst e
  exact ⟨h.1, of_decide_eq_true h.2.1.1.2, h.2.1.2, h.2.2⟩
theorem mJ_eq {code : List mE} {pc t : Nat} {off : Int} (h : mJ code pc off t = true) : (pc : Int) + off = (mPc code t : Int) := of_decide_eq_true h
theorem m_bif {b : Bool} {α : Type} {x z : α} (h : b = true) : (bif b then x else z) = x := by rw [h]; rfl
theorem m_bff {b : Bool} {α : Type} {x z : α} (h : b = false) : (bif b then x else z) = z := by rw [h]; rfl
theorem mFd_eq {own : String} {idx a b w : Nat} (h : mFd own idx a b w = true) : ∃ q, vwCl[a]? = some q ∧ b < q.2.2 ∧ lw_tbl[w]? = some (.fieldLink own idx (q.2.1 b).1 (q.2.1 b).2.1 (q.2.1 b).2.2.1) := by
  unfold mFd at h
  split at h
  · simp only [Bool.and_eq_true, decide_eq_true_eq] at h
    exact ⟨_, by assumption, h.1, h.2⟩
  · cases h
theorem mFp_eq {a b : Nat} {q : vw_C} (hq : vwCl[a]? = some q) (h : mFp a b = true) : (q.2.1 b).2.2.2 = false ∧ (((a, b) ∈ mBo ∧ (q.2.1 b).2.2.1 = "Z") ∨ ((a, b) ∉ mBo ∧ (q.2.1 b).2.2.1 = "I")) := by
  unfold mFp at h
  rw [hq] at h
  simp only [Bool.and_eq_true, decide_eq_true_eq] at h
  refine ⟨h.1, ?_⟩
  by_cases c : (a, b) ∈ mBo
  · have h2 := h.2
    rw [m_bif (decide_eq_true c)] at h2
    exact Or.inl ⟨c, of_decide_eq_true h2⟩
  · have h2 := h.2
    rw [m_bff (decide_eq_false c)] at h2
    exact Or.inr ⟨c, of_decide_eq_true h2⟩
theorem vwCl_lt {a : Nat} {q : vw_C} (h : vwCl[a]? = some q) : a < 10 := (List.getElem?_eq_some_iff.mp h).1
theorem mNf_of {a : Nat} {q : vw_C} (h : vwCl[a]? = some q) : mNf a = q.2.2 := by unfold mNf; rw [h]

set_option maxRecDepth 100000 in
theorem mcw_0 : (u_ws (vwCl.getD 0 ("", fun _ => ("", "", "", false), 0)).1 (vwCl.getD 0 ("", fun _ => ("", "", "", false), 0)).2.1 (vwCl.getD 0 ("", fun _ => ("", "", "", false), 0)).2.2).all (fun w => decide (w ∈ lw_tbl) && goodWord w) = true := by decide +kernel
set_option maxRecDepth 100000 in
theorem mcw_1 : (u_ws (vwCl.getD 1 ("", fun _ => ("", "", "", false), 0)).1 (vwCl.getD 1 ("", fun _ => ("", "", "", false), 0)).2.1 (vwCl.getD 1 ("", fun _ => ("", "", "", false), 0)).2.2).all (fun w => decide (w ∈ lw_tbl) && goodWord w) = true := by decide +kernel
set_option maxRecDepth 100000 in
theorem mcw_2 : (u_ws (vwCl.getD 2 ("", fun _ => ("", "", "", false), 0)).1 (vwCl.getD 2 ("", fun _ => ("", "", "", false), 0)).2.1 (vwCl.getD 2 ("", fun _ => ("", "", "", false), 0)).2.2).all (fun w => decide (w ∈ lw_tbl) && goodWord w) = true := by decide +kernel
set_option maxRecDepth 100000 in
theorem mcw_3 : (u_ws (vwCl.getD 3 ("", fun _ => ("", "", "", false), 0)).1 (vwCl.getD 3 ("", fun _ => ("", "", "", false), 0)).2.1 (vwCl.getD 3 ("", fun _ => ("", "", "", false), 0)).2.2).all (fun w => decide (w ∈ lw_tbl) && goodWord w) = true := by decide +kernel
set_option maxRecDepth 100000 in
theorem mcw_4 : (u_ws (vwCl.getD 4 ("", fun _ => ("", "", "", false), 0)).1 (vwCl.getD 4 ("", fun _ => ("", "", "", false), 0)).2.1 (vwCl.getD 4 ("", fun _ => ("", "", "", false), 0)).2.2).all (fun w => decide (w ∈ lw_tbl) && goodWord w) = true := by decide +kernel
set_option maxRecDepth 100000 in
theorem mcw_5 : (u_ws (vwCl.getD 5 ("", fun _ => ("", "", "", false), 0)).1 (vwCl.getD 5 ("", fun _ => ("", "", "", false), 0)).2.1 (vwCl.getD 5 ("", fun _ => ("", "", "", false), 0)).2.2).all (fun w => decide (w ∈ lw_tbl) && goodWord w) = true := by decide +kernel
set_option maxRecDepth 100000 in
theorem mcw_6 : (u_ws (vwCl.getD 6 ("", fun _ => ("", "", "", false), 0)).1 (vwCl.getD 6 ("", fun _ => ("", "", "", false), 0)).2.1 (vwCl.getD 6 ("", fun _ => ("", "", "", false), 0)).2.2).all (fun w => decide (w ∈ lw_tbl) && goodWord w) = true := by decide +kernel
set_option maxRecDepth 100000 in
theorem mcw_7 : (u_ws (vwCl.getD 7 ("", fun _ => ("", "", "", false), 0)).1 (vwCl.getD 7 ("", fun _ => ("", "", "", false), 0)).2.1 (vwCl.getD 7 ("", fun _ => ("", "", "", false), 0)).2.2).all (fun w => decide (w ∈ lw_tbl) && goodWord w) = true := by decide +kernel
set_option maxRecDepth 100000 in
theorem mcw_8 : (u_ws (vwCl.getD 8 ("", fun _ => ("", "", "", false), 0)).1 (vwCl.getD 8 ("", fun _ => ("", "", "", false), 0)).2.1 (vwCl.getD 8 ("", fun _ => ("", "", "", false), 0)).2.2).all (fun w => decide (w ∈ lw_tbl) && goodWord w) = true := by decide +kernel
set_option maxRecDepth 100000 in
theorem mcw_9 : (u_ws (vwCl.getD 9 ("", fun _ => ("", "", "", false), 0)).1 (vwCl.getD 9 ("", fun _ => ("", "", "", false), 0)).2.1 (vwCl.getD 9 ("", fun _ => ("", "", "", false), 0)).2.2).all (fun w => decide (w ∈ lw_tbl) && goodWord w) = true := by decide +kernel
/-- what the tables say of the classes of the world -/
theorem mCl_ok : ∀ (a : Nat) (q : vw_C), vwCl[a]? = some q → (∀ w ∈ u_ws q.1 q.2.1 q.2.2, w ∈ mGw) ∧ (∃ ty0 : Nat → FieldType, ∀ k, k < q.2.2 → parseFieldDescriptor (q.2.1 k).2.2.1 = some (ty0 k)) ∧ (∀ i, i < q.2.2 → ∀ j, j < q.2.2 → i ≠ j → (q.2.1 i).2.1 ≠ (q.2.1 j).2.1) := by
  have key : ∀ (ws : List Cond), ws.all (fun w => decide (w ∈ lw_tbl) && goodWord w) = true → ∀ w ∈ ws, w ∈ mGw := by
    intro ws h w hw
    have h1 := List.all_eq_true.mp h w hw
    simp only [Bool.and_eq_true, decide_eq_true_eq] at h1
    exact List.mem_filter.mpr h1
  intro a q h
  match a, h with
  | 0, h => cases h; exact ⟨key _ mcw_0, ⟨tyX0, tyX0_ok⟩, nmX0⟩
  | 1, h => cases h; exact ⟨key _ mcw_1, ⟨tyX2, tyX2_ok⟩, nmX2⟩
  | 2, h => cases h; exact ⟨key _ mcw_2, ⟨tyX3, tyX3_ok⟩, nmX3⟩
  | 3, h => cases h; exact ⟨key _ mcw_3, ⟨tyX4, tyX4_ok⟩, nmX4⟩
  | 4, h => cases h; exact ⟨key _ mcw_4, ⟨tyX5, tyX5_ok⟩, nmX5⟩
  | 5, h => cases h; exact ⟨key _ mcw_5, ⟨tyX6, tyX6_ok⟩, nmX6⟩
  | 6, h => cases h; exact ⟨key _ mcw_6, ⟨tyX7, tyX7_ok⟩, nmX7⟩
  | 7, h => cases h; exact ⟨key _ mcw_7, ⟨tyX9, tyX9_ok⟩, nmX9⟩
  | 8, h => cases h; exact ⟨key _ mcw_8, ⟨tyX11, tyX11_ok⟩, nmX11⟩
  | 9, h => cases h; exact ⟨key _ mcw_9, ⟨tyX12, tyX12_ok⟩, nmX12⟩
  | n + 10, h => cases h
section MS
variable {p : Program} {l : Launch} {e : Env} {R : Room} {s : State} {m : MethodId} {args : Array Value} {below : List Frame} {meth : Method} {c : Code} {H : Heap} {locs : List Loc} {cells slots : Nat} {Q : State → Prop} {ls : Array Slot}
set_option maxHeartbeats 4000000 in
theorem m_store {G : mG} {y i pc : Nat} {k ln : Nat} {ins : Instr} {L : List (Option Value)} {st : List Value} {M : mM} {r : mS} (hk : ins = .istore k ∧ ln = 2 ∨ ins = .astore k ∧ ln = 2 ∨ (∃ f : Fin 4, f.val = k ∧ (ins = .istore_n f ∨ ins = .astore_n f)) ∧ ln = 1)
    (hi : ins = .istore k ∨ (∃ f : Fin 4, ins = .istore_n f) → ∃ x r, st = .int x :: r) (ha : ins = .astore k ∨ (∃ f : Fin 4, ins = .astore_n f) → ∃ v r, st = v :: r ∧ (v = .null ∨ ∃ x, v = .ref x))
    (hF : mFr y p s m args c) (hd : decode (mT y).2.1 pc = .ok (ins, ln)) (hn : mPc (mKc y) (i + 1) = pc + ln) (hst : mAs i L k st M = some r) (hLL : L.length = mKl y)
    (hl : lv_has ls (mKl y) (mLv G L)) (hD : mDy G s M H locs)
    (kk : ∀ (H1 : Heap) (locs1 : List Loc) (ls1 : Array Slot), lv_has ls1 (mKl y) (mLv G r.2.1) → mDy G s r.2.2.2 H1 locs1 → W p l e R s m args below meth c H1 locs1 cells slots Q (F0 m (mPc (mKc y) r.1) ls1 (r.2.2.1.map (mRf G)))) :
    W p l e R s m args below meth c H locs cells slots Q (F0 m pc ls (st.map (mRf G))) := by
  obtain ⟨hx, hb, hml, hown, hts⟩ := hF
  obtain ⟨v, st1, rfl, hv, hkl, rfl⟩ := mAs_inv hst
  have hkn : k < mKl y := by rw [← hLL]; exact hkl
  have k1 := fun ls1 h => kk H locs ls1 h hD
  dsimp only at k1
  rw [hn] at k1
  rcases hk with ⟨rfl, rfl⟩ | ⟨rfl, rfl⟩ | ⟨⟨f, rfl, rfl | rfl⟩, rfl⟩
  · obtain ⟨x, r, e⟩ := hi (Or.inl rfl)
    cases e
    exact lv_istore hx hb hd hl hkn rfl (fun ls1 h => k1 ls1 (mLv_put hkl rfl h))
  · obtain ⟨u, r, e, hu⟩ := ha (Or.inl rfl)
    cases e
    rcases hu with rfl | ⟨x, rfl⟩
    · exact lv_astoreN hx hb hd hl hkn rfl (fun ls1 h => k1 ls1 (mLv_put hkl rfl h))
    · exact lv_astore hx hb hd hl hkn rfl (fun ls1 h => k1 ls1 (mLv_put hkl rfl h))
  · obtain ⟨x, r, e⟩ := hi (Or.inr ⟨f, rfl⟩)
    cases e
    exact lv_istore_n hx hb hd rfl hl hkn rfl (fun ls1 h => k1 ls1 (mLv_put hkl rfl h))
  · obtain ⟨u, r, e, hu⟩ := ha (Or.inr ⟨f, rfl⟩)
    cases e
    rcases hu with rfl | ⟨x, rfl⟩
    · exact lv_astore_nN hx hb hd rfl hl hkn rfl (fun ls1 h => k1 ls1 (mLv_put hkl rfl h))
    · exact lv_astore_n hx hb hd rfl hl hkn rfl (fun ls1 h => k1 ls1 (mLv_put hkl rfl h))
theorem mWs_put {G : mG} {s : State} {M M' : mM} {o : Nat} {H : Heap} {locs : List Loc} (ho : o < 232) (h : ∀ q, q ≠ o → M' q = M q) (hc : mScr G s M)
    (hP : va_P (gD G) vwCl ((mWs G M).set o (gA G o, mCel G M' o)) H) (hD : va_D (mA G) ((mWs G M).set o (gA G o, mCel G M' o))) (hS : va_S (mA G) s.heap H locs) : mDy G s M' H locs := by
  rw [← mWs_set G ho h] at hP hD
  exact ⟨hP, hD, hS, mScr_row hc (h 232 (by omega)) (h 233 (by omega))⟩
set_option maxHeartbeats 4000000 in
theorem m_put {G : mG} {y i pc idx a b w : Nat} {L : List (Option Value)} {st : List Value} {M : mM} {r : mS}
    (hF : mFr y p s m args c) (hK : va_K (gD G) vwCl (mTys G) s) (hd : decode (mT y).2.1 pc = .ok (.putfield idx, 3)) (hn : mPc (mKc y) (i + 1) = pc + 3) (hw : mFd (mT y).1.cls idx a b w = true) (hp : mFp a b = true) (hst : mPf a b i L st M = some r)
    (hl : lv_has ls (mKl y) (mLv G L)) (hD : mDy G s M H locs)
    (kk : ∀ (H1 : Heap) (locs1 : List Loc) (ls1 : Array Slot), lv_has ls1 (mKl y) (mLv G r.2.1) → mDy G s r.2.2.2 H1 locs1 → W p l e R s m args below meth c H1 locs1 cells slots Q (F0 m (mPc (mKc y) r.1) ls1 (r.2.2.1.map (mRf G)))) :
    W p l e R s m args below meth c H locs cells slots Q (F0 m pc ls (st.map (mRf G))) := by
  obtain ⟨hx, hb, hml, hown, hts⟩ := hF
  obtain ⟨x, o, st1, rfl, hsh, hz, hbo, -, rfl⟩ := mPf_inv hst
  obtain ⟨q, hq, hbq, hlw⟩ := mFd_eq hw
  obtain ⟨hfin, hty⟩ := mFp_eq hq hp
  obtain ⟨hu, ⟨ty0, hty0⟩, hnm⟩ := mCl_ok a q hq
  have ha10 := vwCl_lt hq
  have ho : o < 232 := mSh_lt (by rw [hsh]; omega)
  have e0 := mCel_o (G := G) (M := M) hsh ha10
  have e1 := mCel_o (G := G) (M := mst M o b x) hsh ha10
  obtain ⟨hP, hDD, hS, hSc⟩ := hD
  have k1 := fun H1 locs1 h => kk H1 locs1 ls hl h
  dsimp only at k1
  rw [hn] at k1
  have hf1 : mFv G (mst M o b x) o a b = .int x := by
    unfold mFv
    rw [hz]
    show Value.int (mst M o b x o b) = _
    rw [mst_at]
    show Value.int (if b = b then x else _) = _
    rw [if_pos rfl]
  have hset : ((List.range (mNf a)).map (mFv G M o a)).set b (.int x) = (List.range (mNf a)).map (mFv G (mst M o b x) o a) := by
    rw [← hf1]
    refine m_mapset (mFv G M o a) (mFv G (mst M o b x) o a) (fun j hj => ?_)
    unfold mFv
    rw [mst_at]
    have : upd (M o) b x j = M o j := if_neg hj
    rw [this]
  obtain ⟨ty, hpd, hna, hfi⟩ : ∃ ty, parseFieldDescriptor (q.2.1 b).2.2.1 = some ty ∧ narrow ty (.int x) = .int x ∧ fits ty (.int x) = true := by
    rcases hty with ⟨hm, hz⟩ | ⟨hm, hz⟩
    · refine ⟨.boolean, by rw [hz]; decide +kernel, ?_, ?_⟩
      · rcases hbo hm with rfl | rfl <;> rfl
      · rcases hbo hm with rfl | rfl <;> rfl
    · exact ⟨.int, by rw [hz]; decide +kernel, rfl, rfl⟩
  refine va_put (D := gD G) (ci := a) (v := .int x) (C := q.1) (T := q.2.1) (N := q.2.2) (ty := ty) hx hb hts hu ty0 hty0 hnm hown hK hP hDD hS o ((mWs_at G M ho).trans (by rw [e0])) hq b hbq (hts _ (mGw_of hlw rfl)) (fun _ h9 => h9) hfin hpd hna hfi (by simp [mNf_of hq, hbq]) hd (fun H1 locs1 h1 h2 h3 => ?_)
  rw [hset, ← e1] at h1 h2
  exact k1 H1 locs1 (mWs_put ho (fun q hq => mst_ne M b x hq) hSc h1 h2 h3)
theorem m_nI {x : Int32} {n : Nat} (h : x = nI n) (hn : n < 2 ^ 31) : x.toNatClampNeg = n := by rw [h]; exact nI_clamp hn
set_option maxHeartbeats 4000000 in
theorem m_sta {G : mG} {y i pc K : Nat} {ins : Instr} {f : Int32 → Int32} {L : List (Option Value)} {st : List Value} {M : mM} {r : mS} (hins : (K = 10 ∧ ins = .iastore ∧ f = fun v => v) ∨ (K = 11 ∧ ins = .bastore ∧ f = vp_nar .byte) ∨ (K = 12 ∧ ins = .bastore ∧ f = vp_nar .boolean))
    (hF : mFr y p s m args c) (hK : va_K (gD G) vwCl (mTys G) s) (hd : decode (mT y).2.1 pc = .ok (ins, 1)) (hn : mPc (mKc y) (i + 1) = pc + 1) (hst : mSta K f i L st M = some r)
    (hl : lv_has ls (mKl y) (mLv G L)) (hD : mDy G s M H locs)
    (kk : ∀ (H1 : Heap) (locs1 : List Loc) (ls1 : Array Slot), lv_has ls1 (mKl y) (mLv G r.2.1) → mDy G s r.2.2.2 H1 locs1 → W p l e R s m args below meth c H1 locs1 cells slots Q (F0 m (mPc (mKc y) r.1) ls1 (r.2.2.1.map (mRf G)))) :
    W p l e R s m args below meth c H locs cells slots Q (F0 m pc ls (st.map (mRf G))) := by
  obtain ⟨hx, hb, hml, hown, hts⟩ := hF
  obtain ⟨v, x, o, st1, rfl, hsh, hin, rfl⟩ := mSta_inv hst
  obtain ⟨hP, hDD, hS, hSc⟩ := hD
  have hK3 : 10 ≤ K ∧ K < 13 := by rcases hins with ⟨rfl, -⟩ | ⟨rfl, -⟩ | ⟨rfl, -⟩ <;> exact ⟨by omega, by omega⟩
  have ho : o < 232 := mSh_lt (by rw [hsh]; omega)
  have e0 := mCel_a (G := G) (M := M) hsh hK3.1 hK3.2
  have e1 := mCel_a (G := G) (M := mst M o x.toNatClampNeg (f v)) hsh hK3.1 hK3.2
  rw [mst_at] at e1
  have k1 := fun H1 locs1 h => kk H1 locs1 ls hl h
  dsimp only at k1
  rw [hn] at k1
  have k2 : ∀ H1 locs1, va_P (gD G) vwCl ((mWs G M).set o (gA G o, .inl (gC G K, (mSh o).2, .inl (upd (M o) x.toNatClampNeg (f v))))) H1 → va_D (mA G) ((mWs G M).set o (gA G o, .inl (gC G K, (mSh o).2, .inl (upd (M o) x.toNatClampNeg (f v))))) → va_S (mA G) s.heap H1 locs1 → W p l e R s m args below meth c H1 locs1 cells slots Q (F0 m (pc + 1) ls (st1.map (mRf G))) := by
    intro H1 locs1 h1 h2 h3
    rw [← e1] at h1 h2
    exact k1 H1 locs1 (mWs_put ho (fun q hq => mst_ne M _ _ hq) hSc h1 h2 h3)
  rcases hins with ⟨rfl, rfl, rfl⟩ | ⟨rfl, rfl, rfl⟩ | ⟨rfl, rfl, rfl⟩
  · exact va_iast hx hb hK hP hDD hS o 0 ((mWs_at G M ho).trans (by rw [e0])) rfl (mIn_vp hin) hd k2
  · exact va_bast hx hb hK hP hDD hS o 1 ((mWs_at G M ho).trans (by rw [e0])) rfl (mIn_vp hin) hd k2
  · exact va_zast hx hb hK hP hDD hS o 2 ((mWs_at G M ho).trans (by rw [e0])) rfl (mIn_vp hin) hd k2
set_option maxHeartbeats 4000000 in
theorem m_lda {G : mG} {y i pc K : Nat} {ins : Instr} {L : List (Option Value)} {st : List Value} {M : mM} {r : mS} (hins : (K = 10 ∧ ins = .iaload) ∨ (K = 11 ∧ ins = .baload) ∨ (K = 12 ∧ ins = .baload))
    (hF : mFr y p s m args c) (hK : va_K (gD G) vwCl (mTys G) s) (hd : decode (mT y).2.1 pc = .ok (ins, 1)) (hn : mPc (mKc y) (i + 1) = pc + 1) (hst : mLda K i L st M = some r)
    (hl : lv_has ls (mKl y) (mLv G L)) (hD : mDy G s M H locs)
    (kk : ∀ (H1 : Heap) (locs1 : List Loc) (ls1 : Array Slot), lv_has ls1 (mKl y) (mLv G r.2.1) → mDy G s r.2.2.2 H1 locs1 → W p l e R s m args below meth c H1 locs1 cells slots Q (F0 m (mPc (mKc y) r.1) ls1 (r.2.2.1.map (mRf G)))) :
    W p l e R s m args below meth c H locs cells slots Q (F0 m pc ls (st.map (mRf G))) := by
  obtain ⟨hx, hb, hml, hown, hts⟩ := hF
  obtain ⟨x, o, st1, rfl, hsh, hin, rfl⟩ := mLda_inv hst
  have k1 := kk H locs ls hl hD
  obtain ⟨hP, hDD, hS, hSc⟩ := hD
  have hK3 : 10 ≤ K ∧ K < 13 := by rcases hins with ⟨rfl, -⟩ | ⟨rfl, -⟩ | ⟨rfl, -⟩ <;> exact ⟨by omega, by omega⟩
  have ho : o < 232 := mSh_lt (by rw [hsh]; omega)
  have e0 := mCel_a (G := G) (M := M) hsh hK3.1 hK3.2
  dsimp only at k1
  rw [hn] at k1
  rcases hins with ⟨rfl, rfl⟩ | ⟨rfl, rfl⟩ | ⟨rfl, rfl⟩
  · exact va_iald hx hb hK hP o 0 ((mWs_at G M ho).trans (by rw [e0])) rfl (mIn_vp hin) hd k1
  · exact va_bald hx hb hK hP o 1 ((mWs_at G M ho).trans (by rw [e0])) rfl (mIn_vp hin) hd k1
  · exact va_zald hx hb hK hP o 2 ((mWs_at G M ho).trans (by rw [e0])) rfl (mIn_vp hin) hd k1
end MS
