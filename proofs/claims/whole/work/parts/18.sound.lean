/-! every run of the small machine, over the machine -/
theorem mRok_nar {r : Option FieldType} {x : Int32} (h : mRok r x = true) : ∃ ty, r = some ty ∧ narrow ty (.int x) = .int x := by
  unfold mRok at h
  split at h
  · exact ⟨_, rfl, rfl⟩
  · refine ⟨_, rfl, ?_⟩
    simp only [Bool.or_eq_true, decide_eq_true_eq] at h
    rcases h with rfl | rfl <;> rfl
  · cases h
/-- the contract of a method that returns -/
theorem mMet_n {l : Launch} {n : Nat} (hn : mStmt l n) {d a : Nat} {av : List Value} {M M1 : mM} {v : Option Int32} {k1 : Nat} (h : mx n d a 0 (mEn av (mKl a)) [] M = some (.inl v, M1, k1)) (h1 : 10 ≤ a) (h2 : a < 373) (h3 : (mT a).1 ≠ yL_law_) (hlen : av.length ≤ mKl a) (hc1 : ∀ v ∈ av, mC1 v = true) (G : mG) :
    Met l (mT a).1 (mWy a) (mRm d k1) (va_Pc (av.map (mRf G)) (mWd G M)) (mQc G v M1) k1 (6 * k1) (mA G) := by
  have hq2 := (mQ2_all a).resolve_left h3
  refine mMet_of (cc := (mT a).2.1) (maxL := mKl a) (ret := mKr a) (hh := mRaw a) (ws' := mGw) hq2.2.1 (by unfold mWy; rw [mCw_eq]) ?_
  intro p e s m args below meth c s₁ B hml ht hv
  obtain ⟨rfl, hWd⟩ := hv
  refine m_entry hn h h1 h2 hlen hc1 B hml ht hWd (fun v' hv' H1 locs1 ls1 pc1 hD hdg hok hno => ?_) (fun E hE => by cases hE)
  cases hv'
  cases v with
  | some x =>
    obtain ⟨ty, e1, e2⟩ := mRok_nar (hok x rfl)
    exact W.zret (v := x) B.exec B.bytes (B.returns.trans e1) e2 (fun t ht hW => ⟨⟨x, (), rfl, rfl, by show va_P (gD G) vwCl (mWs G M1) t.heap; rw [ht]; exact hD.1⟩, hD.2.2.1.F ht⟩) hD.2.2.1.2.2 hdg B.notSynchronized
  | none =>
    exact W.vret B.exec B.bytes (B.returns.trans (hno rfl)) (fun t ht hW => ⟨⟨(), rfl, trivial, by show va_P (gD G) vwCl (mWs G M1) t.heap; rw [ht]; exact hD.1⟩, hD.2.2.1.F ht⟩) hD.2.2.1.2.2 hdg B.notSynchronized
/-- the contract of a method that throws -/
theorem mVx_n {l : Launch} {n : Nat} (hn : mStmt l n) {d a : Nat} {av : List Value} {M M1 : mM} {E : Nat} {k1 : Nat} (h : mx n d a 0 (mEn av (mKl a)) [] M = some (.inr E, M1, k1)) (h1 : 10 ≤ a) (h2 : a < 373) (h3 : (mT a).1 ≠ yL_law_) (hlen : av.length ≤ mKl a) (hc1 : ∀ v ∈ av, mC1 v = true) (G : mG) :
    vx_Met l (mT a).1 (mWy a) (mRm d k1) (va_Pc (av.map (mRf G)) (mWd G M)) mNo (mXc G E M1) k1 (6 * k1) (mA G) := by
  have hq2 := (mQ2_all a).resolve_left h3
  refine mVx_of (cc := (mT a).2.1) (maxL := mKl a) (ret := mKr a) (hh := mRaw a) (ws' := mGw) hq2.2.1 (by unfold mWy; rw [mCw_eq]) ?_
  intro p e s m args below meth c s₁ B hml ht hv
  obtain ⟨rfl, hWd⟩ := hv
  exact m_entry hn h h1 h2 hlen hc1 B hml ht hWd (fun v' hv' => by cases hv') (fun E' hE => by cases hE; exact ⟨_, _, _, rfl, Nat.le_refl _, Nat.le_refl _⟩)
/-- a row of the file's table that doesn't take E -/
def mPass (own : String) (args : Array Value) (s : State) (pc E : Nat) (z : ExceptionTableEntry) : Prop := covers z pc = false ∨ (z.catchType ≠ 0 ∧ ∃ nm : String, (Cond.classLink own z.catchType nm).before args s = true ∧ va_Nc (mEx E) nm s)
theorem mHk_eq {own : String} {code : List mE} {i E : Nat} {en : mE} {args : Array Value} {s : State} (he : code[i]? = some en) (hts : ∀ w ∈ mGw, w.before args s = true) (hnc : ∀ E F : Nat, E < 5 → F < 5 → E ≠ F → va_Nc (mEx E) (mEx F) s) (hE : E < 5) :
    ∀ (hs rs : List (Nat × Nat × Nat × Nat)), mHk own code hs rs = true →
      (∀ h, mCatch hs i E = some h → ∃ pre x suf, tableOf rs = pre ++ x :: suf ∧ (∀ z ∈ pre, mPass own args s en.2.1 E z) ∧ covers x en.2.1 = true ∧ x.catchType ≠ 0 ∧ (Cond.classLink own x.catchType (mEx E)).before args s = true ∧ x.handlerPc = mPc code h) ∧
      (mCatch hs i E = none → ∀ z ∈ tableOf rs, mPass own args s en.2.1 E z)
  | [], [], _ => ⟨fun h hc => (by cases hc), fun _ z hz => (by cases hz)⟩
  | (f, t, h0, E0) :: hs, (st, en0, hp, ct) :: rs, hk => by
    have hk : (Nat.blt E0 5 && decide (ct ≠ 0) && decide (Cond.classLink own ct (mEx E0) ∈ lw_tbl) && Nat.beq (mPc code h0) hp && (List.zipIdx code).all (fun q => (Nat.ble f q.2 && Nat.blt q.2 t) == (decide (st ≤ q.1.2.1) && decide (q.1.2.1 < en0))) && mHk own code hs rs) = true := hk
    simp only [Bool.and_eq_true, decide_eq_true_eq] at hk
    have hE0 : E0 < 5 := Nat.blt_eq.mp hk.1.1.1.1.1
    have hct := hk.1.1.1.1.2
    have hln : (Cond.classLink own ct (mEx E0)).before args s = true := hts _ (List.mem_filter.mpr ⟨hk.1.1.1.2, rfl⟩)
    have hpc := Nat.eq_of_beq_eq_true hk.1.1.2
    have hcov := List.all_eq_true.mp hk.1.2 (en, i) (by rw [List.mem_zipIdx_iff_getElem?]; exact he)
    have hcov : (Nat.ble f i && Nat.blt i t) = (decide (st ≤ en.2.1) && decide (en.2.1 < en0)) := eq_of_beq hcov
    obtain ⟨ih1, ih2⟩ := mHk_eq he hts hnc hE hs rs hk.2
    have htab : tableOf ((st, en0, hp, ct) :: rs) = ⟨st, en0, hp, ct⟩ :: tableOf rs := rfl
    have hcb : covers ⟨st, en0, hp, ct⟩ en.2.1 = (Nat.ble f i && Nat.blt i t) := hcov.symm
    have hmc : mCatch ((f, t, h0, E0) :: hs) i E = bif (Nat.ble f i && Nat.blt i t && Nat.beq E0 E) then some h0 else mCatch hs i E := rfl
    by_cases hh : (Nat.ble f i && Nat.blt i t && Nat.beq E0 E) = true
    · rw [m_bif hh] at hmc
      rw [Bool.and_eq_true] at hh
      have e0 := Nat.eq_of_beq_eq_true hh.2
      subst e0
      refine ⟨fun h hc => ?_, fun hc => ?_⟩
      · rw [hmc] at hc
        cases hc
        exact ⟨[], _, _, htab, fun z hz => (by cases hz), (by rw [hcb]; exact hh.1), hct, hln, hpc.symm⟩
      · rw [hmc] at hc
        cases hc
    · have hh : (Nat.ble f i && Nat.blt i t && Nat.beq E0 E) = false := by cases q : (Nat.ble f i && Nat.blt i t && Nat.beq E0 E) with | false => rfl | true => exact absurd q hh
      rw [m_bff hh] at hmc
      have hpass : mPass own args s en.2.1 E ⟨st, en0, hp, ct⟩ := by
        rw [Bool.and_eq_false_iff] at hh
        rcases hh with hh | hh
        · exact Or.inl (hcb.trans hh)
        · refine Or.inr ⟨hct, mEx E0, hln, hnc E E0 hE hE0 (fun q => ?_)⟩
          rw [q] at hh
          have : Nat.beq E0 E0 = true := Nat.beq_refl E0
          rw [this] at hh
          cases hh
      refine ⟨fun h hc => ?_, fun hc z hz => ?_⟩
      · rw [hmc] at hc
        obtain ⟨pre, x, suf, e1, e2, e3⟩ := ih1 h hc
        refine ⟨⟨st, en0, hp, ct⟩ :: pre, x, suf, by rw [htab, e1]; rfl, fun z hz => ?_, e3⟩
        rcases List.mem_cons.mp hz with rfl | hz
        · exact hpass
        · exact e2 z hz
      · rw [hmc] at hc
        rw [htab] at hz
        rcases List.mem_cons.mp hz with rfl | hz
        · exact hpass
        · exact ih2 hc z hz
  | [], _ :: _, hk => by cases hk
  | _ :: _, [], hk => by cases hk
theorem mx_E : ∀ (n d y i : Nat) (L : List (Option Value)) (st : List Value) (M : mM) (E : Nat) (M1 : mM) (k : Nat), mx n d y i L st M = some (.inr E, M1, k) → E < 5 := by
  intro n
  induction n with
  | zero => intro d y i L st M E M1 k h; cases h
  | succ n ih =>
    intro d y i L st M E M1 k h
    obtain ⟨ins, pc, ln, a, b, w, -, h⟩ := mx_cases h
    rcases h with ⟨-, q, h1, h2⟩ | ⟨-, x, -, -, h2⟩ | ⟨-, -, -, h2⟩ | ⟨-, -, -, h5, -, h2⟩ | ⟨-, -, -, -, -, v, M1, h1, h2⟩ | ⟨-, -, d', -, -, -, -, -, -, h2⟩
    · exact ih _ _ _ _ _ _ _ _ _ h2
    · cases h2
    · cases h2
    · cases h2; exact h5
    · exact ih _ _ _ _ _ _ _ _ _ h2
    · rcases mRet_cases h2 with ⟨v, M2, k1, o, M', k2, e1, e2, e3⟩ | ⟨E', M2, k1, e1, -, -, e3⟩ | ⟨E', M2, k1, hh, z, o, M', k2, e1, -, -, -, -, e2, e3⟩
      · cases e3; exact ih _ _ _ _ _ _ _ _ _ e2
      · cases e3; exact ih _ _ _ _ _ _ _ _ _ e1
      · cases e3; exact ih _ _ _ _ _ _ _ _ _ e2
theorem mPc_at {y i : Nat} {en : mE} (h : (mKc y)[i]? = some en) : mPc (mKc y) i = en.2.1 := by unfold mPc; rw [h]
theorem mCw_code {a : Nat} (h : mRaw a = []) : mCw (mT a) (mRaw a) = Cond.code (mT a).1 (mT a).2.1 (mKl a) (mKr a) := by unfold mCw; rw [h]; rfl
theorem mCw_with {a : Nat} (h : mRaw a ≠ []) : mCw (mT a) (mRaw a) = Cond.codeWith (mT a).1 (mT a).2.1 (mKl a) (mKr a) (mRaw a) := by
  unfold mCw
  split
  · exact absurd (by assumption) h
  · rfl
section MZ
variable {p : Program} {l : Launch} {e : Env} {R : Room} {s : State} {m : MethodId} {args : Array Value} {below : List Frame} {meth : Method} {c : Code} {H : Heap} {locs : List Loc} {cells slots : Nat} {Q : State → Prop} {ls : Array Slot}
theorem vwCl_at {k : Nat} (h : k < 10) : vwCl[k]? = some (vwCl.getD k ("", fun _ => ("", "", "", false), 0)) := by
  rw [List.getD_eq_getElem?_getD]
  have h2 : k < vwCl.length := h
  rw [List.getElem?_eq_getElem h2]
  rfl
theorem m_stack {G : mG} (st : List Value) (n : Nat) : st.map (mRf G) = ((st.take n).reverse.map (mRf G)).reverse ++ (st.drop n).map (mRf G) := by
  rw [← List.map_reverse, List.reverse_reverse, ← List.map_append, List.take_append_drop]
/-- what a call's word says -/
theorem m_word {y a b w pc ln idx : Nat} {ins : Instr} (hoc : mOkC (mT y).1.cls (ins, pc, ln, a, b, w) = true) (ha : ¬ a < 10) (h4 : ins = .invokevirtual idx ∨ ins = .invokestatic idx) :
    (10 ≤ a ∧ a < 373 ∧ (mT a).1 ≠ yL_law_) ∧ ((ins = .invokevirtual idx ∧ mKi a < 10 ∧ b = 0 ∧ mRaw a = [] ∧ lw_tbl[w]? = some (.methodLink (mT y).1.cls idx (mT a).1)) ∨
      (ins = .invokestatic idx ∧ mKi a = 99 ∧ ((b = 0 ∧ lw_tbl[w]? = some (.methodLink (mT y).1.cls idx (mT a).1)) ∨ (b = 1 ∧ mRaw a = [] ∧ lw_tbl[w]? = some (.methodLinkNest (mT y).1.cls idx (mT a).1 "WakeTower"))))) := by
  have hb : Nat.blt a 10 = false := by cases e : Nat.blt a 10 with | false => rfl | true => exact absurd (Nat.blt_eq.mp e) ha
  rcases h4 with rfl | rfl
  · have hoc : (bif Nat.blt a 10 then (Nat.ble 4 a && Nat.ble a 5 && decide (lw_tbl[w]? = some (.methodLink (mT y).1.cls idx (yPrim a)))) else (decide ((mT a).1 ≠ yL_law_) && Nat.blt a 373 && Nat.blt (mKi a) 10 && Nat.beq b 0 && decide (mRaw a = []) && decide (lw_tbl[w]? = some (.methodLink (mT y).1.cls idx (mT a).1)))) = true := hoc
    rw [m_bff hb] at hoc
    simp only [Bool.and_eq_true, decide_eq_true_eq] at hoc
    exact ⟨⟨by omega, Nat.blt_eq.mp hoc.1.1.1.1.2, hoc.1.1.1.1.1⟩, Or.inl ⟨rfl, Nat.blt_eq.mp hoc.1.1.1.2, Nat.eq_of_beq_eq_true hoc.1.1.2, hoc.1.2, hoc.2⟩⟩
  · have hoc : (bif Nat.blt a 10 then (Nat.ble 1 a && Nat.ble a 3 && decide (lw_tbl[w]? = some (.methodLink (mT y).1.cls idx (yPrim a)))) else (decide ((mT a).1 ≠ yL_law_) && Nat.blt a 373 && Nat.beq (mKi a) 99 && (bif Nat.beq b 0 then decide (lw_tbl[w]? = some (.methodLink (mT y).1.cls idx (mT a).1)) else (Nat.beq b 1 && decide (lw_tbl[w]? = some (.methodLinkNest (mT y).1.cls idx (mT a).1 "WakeTower")) && decide (mRaw a = []))))) = true := hoc
    rw [m_bff hb] at hoc
    simp only [Bool.and_eq_true, decide_eq_true_eq] at hoc
    refine ⟨⟨by omega, Nat.blt_eq.mp hoc.1.1.2, hoc.1.1.1⟩, Or.inr ⟨rfl, Nat.eq_of_beq_eq_true hoc.1.2, ?_⟩⟩
    have h2 := hoc.2
    cases hb0 : Nat.beq b 0 with
    | true =>
      rw [hb0] at h2
      exact Or.inl ⟨Nat.eq_of_beq_eq_true hb0, of_decide_eq_true h2⟩
    | false =>
      rw [hb0] at h2
      have h2 : (Nat.beq b 1 && decide (lw_tbl[w]? = some (.methodLinkNest (mT y).1.cls idx (mT a).1 "WakeTower")) && decide (mRaw a = [])) = true := h2
      simp only [Bool.and_eq_true, decide_eq_true_eq] at h2
      exact Or.inr ⟨Nat.eq_of_beq_eq_true h2.1.1, h2.2, h2.1.2⟩
theorem mK4 {ins : Instr} (h : mKd ins = 4) : ∃ idx, ins = .invokevirtual idx ∨ ins = .invokestatic idx := by
  cases ins <;> first | exact ⟨_, Or.inl rfl⟩ | exact ⟨_, Or.inr rfl⟩ | exact absurd (show (0 : Nat) = 4 from h) (by decide) | exact absurd (show (1 : Nat) = 4 from h) (by decide) | exact absurd (show (2 : Nat) = 4 from h) (by decide) | exact absurd (show (3 : Nat) = 4 from h) (by decide)
theorem mRec_inv {c : Nat} {av : List Value} (hc : c < 10) (h : mRec c av = true) : ∃ o r, av = .ref o :: r ∧ (mSh o).1 = c := by
  unfold mRec at h
  have h99 : Nat.beq c 99 = false := by cases e : Nat.beq c 99 with | false => rfl | true => have := Nat.eq_of_beq_eq_true e; omega
  rw [h99, Bool.false_or] at h
  unfold mRv at h
  split at h
  · exact ⟨_, _, rfl, Nat.eq_of_beq_eq_true h⟩
  · rw [h99] at h; cases h
/-- the facts of the callee's word for a call of it: n its parameters -/
theorem m_callB {G : mG} {y a w idx d' k1 n : Nat} (hF : mFr y p s m args c) (h10 : 10 ≤ a) (h373 : a < 373) (hla : (mT a).1 ≠ yL_law_) (hraw : mRaw a = []) (hlk : lw_tbl[w]? = some (.methodLink (mT y).1.cls idx (mT a).1)) (hRf : d' + 1 ≤ R.frames) (hRl : 60 * (d' + 1) ≤ R.locals)
    (hn : (parseMethodDescriptor (mT a).1.desc).map (fun d => d.parameters.length) = some n) : CallB R s args (mT y).1.cls idx (mT a).1 (mT a).2.1 (mKl a) (mKr a) (mWy a) (mRm d' k1) k1 (6 * k1) n := by
  obtain ⟨hx, hb, hml, hown, hts⟩ := hF
  have hq2 := (mQ2_all a).resolve_left hla
  have hmx : mKl a ≤ 12 := hq2.2.2.2.2.1
  refine callB_of n hts (mGood (mWy_in h10 h373 hla)) (by unfold mWy; rw [mCw_code hraw]) rfl rfl (hts _ hq2.1) (hts _ (mGw_of hlk rfl)) ⟨hq2.2.2.2.1.1, hq2.2.2.2.1.2, hn⟩ ⟨hRf, ?_⟩
  show 8 + (mKl a + 11) + 60 * d' ≤ R.locals
  omega
theorem m_args {n : Nat} {st : List Value} {a : Nat} (h : mKn a = n) (hna : mKn a ≤ st.length) : (st.take (mKn a)).reverse.length = n := by
  rw [List.length_reverse, List.length_take]
  omega
set_option maxHeartbeats 4000000 in
theorem m_runM {G : mG} {y a b w d' k1 pc ln i : Nat} {ins : Instr} {st : List Value} {M : mM} {L : List (Option Value)} {Qc : Array Value → State → Outcome → State → Prop}
    (hF : mFr y p s m args c) (hK : mSt G s) (hoc : mOkC (mT y).1.cls (ins, pc, ln, a, b, w) = true) (hok : mOkE (mT y).1.cls (mT y).2.1 (mKc y) i (ins, pc, ln, a, b, w) = true) (h4 : mKd ins = 4) (ha : ¬ a < 10)
    (hRf : d' + 1 ≤ R.frames) (hRl : 60 * (d' + 1) ≤ R.locals) (hc : cells + k1 ≤ R.cells) (hs : slots + 6 * k1 ≤ R.slots)
    (hna : mKn a ≤ st.length) (hrec : mRec (mKi a) (st.take (mKn a)).reverse = true) (hV : mV4 (st.drop (mKn a)) = true) (hl : lv_has ls (mKl y) (mLv G L)) (hD : mDy G s M H locs)
    (hM : Met l (mT a).1 (mWy a) (mRm d' k1) (va_Pc ((st.take (mKn a)).reverse.map (mRf G)) (mWd G M)) Qc k1 (6 * k1) (mA G)) :
    va_Run p l e R s m args below meth c H locs cells slots k1 (6 * k1) (F0 m pc ls (st.map (mRf G))) ((st.drop (mKn a)).map (mRf G)) (Qc ((st.take (mKn a)).reverse.map (mRf G)).toArray) (mA G) := by
  obtain ⟨idx, hidx⟩ := mK4 h4
  obtain ⟨⟨h10, h373, hla⟩, hw⟩ := m_word hoc ha hidx
  have hq2 := (mQ2_all a).resolve_left hla
  have hF0 := hF
  obtain ⟨hx, hb, hml, hown, hts⟩ := hF
  have hst := m_stack (G := G) st (mKn a)
  rcases hw with ⟨rfl, hci, rfl, hraw, hlk⟩ | ⟨rfl, hci, ⟨rfl, hlk⟩ | ⟨rfl, hraw, hlk⟩⟩
  · obtain ⟨hd, -⟩ := mk2 (k := 3) hok
    rcases hq2.2.2.2.2.2 with ⟨hk, -⟩ | ⟨-, hin, hse, hcl, hnp⟩
    · exact absurd (show mKi a = 99 from hk) (by omega)
    · obtain ⟨o, As, hav, hsh⟩ := mRec_inv hci hrec
      obtain ⟨n, hn, hn1⟩ : ∃ n, (parseMethodDescriptor (mT a).1.desc).map (fun d => d.parameters.length) = some n ∧ mKn a = n + 1 := by
        cases hp : parseMethodDescriptor (mT a).1.desc with
        | none => rw [hp] at hnp; cases hnp
        | some sg => rw [hp] at hnp; exact ⟨_, rfl, (Option.some.inj hnp).symm⟩
      have hlen := m_args hn1 hna
      rw [hav] at hM hst hlen ⊢
      have ho : o < 232 := mSh_lt (by rw [hsh]; omega)
      refine va_runV (As := As.map (mRf G)) (b := gA G o) (rest := (st.drop (mKn a)).map (mRf G)) ⟨hx, hb, hml, hown, hts⟩ hM ⟨m_callB (G := G) hF0 h10 h373 hla hraw hlk hRf hRl hn, hts _ hin, hts _ hse⟩ ⟨mBlind, ?_, fun U hU hW => ⟨rfl, mWd.of hK hD hU hW⟩⟩ rfl (by rw [List.length_map]; simpa using hlen) hl.1 ?_ (lv_room (mV4_sum hV)) hd ⟨hc, hs⟩
      · have := va_recv hK.2.1 hD.1 (vwCl_at hci) ((mWs_at G M ho).trans (by rw [mCel_o hsh hci]))
        have hcl2 : (vwCl.getD (mKi a) ("", fun _ => ("", "", "", false), 0)).1 = (mT a).1.cls := hcl
        rw [hcl2] at this
        exact this
      · show st.map (mRf G) = _
        rw [hst]
        simp [mRf]
  · obtain ⟨hd, -⟩ := mk2 (k := 3) hok
    rcases hq2.2.2.2.2.2 with ⟨-, hstt, hnp⟩ | ⟨hk, -⟩
    · have hlen := m_args rfl hna
      have hmx : mKl a ≤ 12 := hq2.2.2.2.2.1
      by_cases hraw : mRaw a = []
      · exact va_runS (As := (st.take (mKn a)).reverse.map (mRf G)) (rest := (st.drop (mKn a)).map (mRf G)) ⟨hx, hb, hml, hown, hts⟩ hM ⟨m_callB (G := G) hF0 h10 h373 hla hraw hlk hRf hRl hnp, hts _ hstt⟩ ⟨mBlind, fun U hU hW => ⟨rfl, mWd.of hK hD hU hW⟩⟩ rfl (by rw [List.length_map]; exact hlen) hl.1 hst (lv_room (mV4_sum hV)) hd ⟨hc, hs⟩
      · exact vx_runSW (hh := mRaw a) (As := (st.take (mKn a)).reverse.map (mRf G)) (rest := (st.drop (mKn a)).map (mRf G)) ⟨hx, hb, hml, hown, hts⟩ hM ⟨⟨rfl, rfl, hRf, (by show 8 + (mKl a + 11) + 60 * d' ≤ R.locals; omega), pay_in hts (mGood (mWy_in h10 h373 hla)), (by unfold mWy; rw [mCw_with hraw]; exact List.mem_cons_self)⟩, hts _ (by have := mWy_in h10 h373 hla _ List.mem_cons_self; rw [mCw_with hraw] at this; exact this), hts _ hq2.1, hq2.2.2.2.1, (fun sig h => by rw [h] at hnp; exact (Option.some.inj hnp).symm), hts _ (mGw_of hlk rfl), hts _ hstt⟩ ⟨mBlind, fun U hU hW => ⟨rfl, mWd.of hK hD hU hW⟩⟩ rfl (by rw [List.length_map]; exact hlen) hl.1 hst (lv_room (mV4_sum hV)) hd ⟨hc, hs⟩
    · exact absurd (show mKi a < 10 from hk) (by omega)
  · obtain ⟨hd, -⟩ := mk2 (k := 3) hok
    rcases hq2.2.2.2.2.2 with ⟨-, hstt, hnp⟩ | ⟨hk, -⟩
    · have hlen := m_args rfl hna
      have hmx : mKl a ≤ 12 := hq2.2.2.2.2.1
      have hz : va_Nw (.methodLinkNest (mT y).1.cls idx (mT a).1 "WakeTower") s := hK.2.2.2.2.2.2.2.2.1 _ (List.mem_filter.mpr ⟨List.mem_of_getElem? hlk, rfl⟩)
      exact va_runSN (host := "WakeTower") (As := (st.take (mKn a)).reverse.map (mRf G)) (rest := (st.drop (mKn a)).map (mRf G)) ⟨hx, hb, hml, hown, hts⟩ hM ⟨va_cnB _ hts (mGood (mWy_in h10 h373 hla)) (by unfold mWy; rw [mCw_code hraw]) rfl rfl hz (hts _ hq2.1) ⟨hq2.2.2.2.1.1, hq2.2.2.2.1.2, hnp⟩ ⟨hRf, (by show 8 + (mKl a + 11) + 60 * d' ≤ R.locals; omega)⟩, hts _ hstt, trivial⟩ ⟨mBlind, fun U hU hW => ⟨rfl, mWd.of hK hD hU hW⟩⟩ rfl (by rw [List.length_map]; exact hlen) hl.1 hst (lv_room (mV4_sum hV)) hd ⟨hc, hs⟩
    · exact absurd (show mKi a < 10 from hk) (by omega)
set_option maxHeartbeats 4000000 in
theorem m_runX {G : mG} {y a b w d' k1 pc ln i : Nat} {ins : Instr} {st : List Value} {M : mM} {L : List (Option Value)} {Qc : Array Value → State → Outcome → State → Prop} {XC : String → State → State → Prop}
    (hF : mFr y p s m args c) (hK : mSt G s) (hoc : mOkC (mT y).1.cls (ins, pc, ln, a, b, w) = true) (hok : mOkE (mT y).1.cls (mT y).2.1 (mKc y) i (ins, pc, ln, a, b, w) = true) (h4 : mKd ins = 4) (ha : ¬ a < 10) (hb1 : ¬ b = 1)
    (hRf : d' + 1 ≤ R.frames) (hRl : 60 * (d' + 1) ≤ R.locals) (hc : cells + k1 ≤ R.cells) (hs : slots + 6 * k1 ≤ R.slots)
    (hna : mKn a ≤ st.length) (hrec : mRec (mKi a) (st.take (mKn a)).reverse = true) (hV : mV4 (st.drop (mKn a)) = true) (hl : lv_has ls (mKl y) (mLv G L)) (hD : mDy G s M H locs)
    (hM : vx_Met l (mT a).1 (mWy a) (mRm d' k1) (va_Pc ((st.take (mKn a)).reverse.map (mRf G)) (mWd G M)) Qc XC k1 (6 * k1) (mA G)) :
    vx_Run p l e R s m args below meth c H locs cells slots k1 (6 * k1) (F0 m pc ls (st.map (mRf G))) ((st.drop (mKn a)).map (mRf G)) (Qc ((st.take (mKn a)).reverse.map (mRf G)).toArray) XC (mA G) := by
  obtain ⟨idx, hidx⟩ := mK4 h4
  obtain ⟨⟨h10, h373, hla⟩, hw⟩ := m_word hoc ha hidx
  have hq2 := (mQ2_all a).resolve_left hla
  have hF0 := hF
  obtain ⟨hx, hb, hml, hown, hts⟩ := hF
  have hst := m_stack (G := G) st (mKn a)
  rcases hw with ⟨rfl, hci, rfl, hraw, hlk⟩ | ⟨rfl, hci, ⟨rfl, hlk⟩ | ⟨rfl, hraw, hlk⟩⟩
  · obtain ⟨hd, -⟩ := mk2 (k := 3) hok
    rcases hq2.2.2.2.2.2 with ⟨hk, -⟩ | ⟨-, hin, hse, hcl, hnp⟩
    · exact absurd (show mKi a = 99 from hk) (by omega)
    · obtain ⟨o, As, hav, hsh⟩ := mRec_inv hci hrec
      obtain ⟨n, hn, hn1⟩ : ∃ n, (parseMethodDescriptor (mT a).1.desc).map (fun d => d.parameters.length) = some n ∧ mKn a = n + 1 := by
        cases hp : parseMethodDescriptor (mT a).1.desc with
        | none => rw [hp] at hnp; cases hnp
        | some sg => rw [hp] at hnp; exact ⟨_, rfl, (Option.some.inj hnp).symm⟩
      have hlen := m_args hn1 hna
      rw [hav] at hM hst hlen ⊢
      have ho : o < 232 := mSh_lt (by rw [hsh]; omega)
      refine vx_runV (As := As.map (mRf G)) (b := gA G o) (rest := (st.drop (mKn a)).map (mRf G)) ⟨hx, hb, hml, hown, hts⟩ hM ⟨m_callB (G := G) hF0 h10 h373 hla hraw hlk hRf hRl hn, hts _ hin, hts _ hse⟩ ⟨mBlind, ?_, fun U hU hW => ⟨rfl, mWd.of hK hD hU hW⟩⟩ rfl (by rw [List.length_map]; simpa using hlen) hl.1 ?_ (lv_room (mV4_sum hV)) hd ⟨hc, hs⟩
      · have := va_recv hK.2.1 hD.1 (vwCl_at hci) ((mWs_at G M ho).trans (by rw [mCel_o hsh hci]))
        have hcl2 : (vwCl.getD (mKi a) ("", fun _ => ("", "", "", false), 0)).1 = (mT a).1.cls := hcl
        rw [hcl2] at this
        exact this
      · show st.map (mRf G) = _
        rw [hst]
        simp [mRf]
  · obtain ⟨hd, -⟩ := mk2 (k := 3) hok
    rcases hq2.2.2.2.2.2 with ⟨-, hstt, hnp⟩ | ⟨hk, -⟩
    · have hlen := m_args rfl hna
      have hmx : mKl a ≤ 12 := hq2.2.2.2.2.1
      by_cases hraw : mRaw a = []
      · exact vx_runS (As := (st.take (mKn a)).reverse.map (mRf G)) (rest := (st.drop (mKn a)).map (mRf G)) ⟨hx, hb, hml, hown, hts⟩ hM ⟨m_callB (G := G) hF0 h10 h373 hla hraw hlk hRf hRl hnp, hts _ hstt⟩ ⟨mBlind, fun U hU hW => ⟨rfl, mWd.of hK hD hU hW⟩⟩ rfl (by rw [List.length_map]; exact hlen) hl.1 hst (lv_room (mV4_sum hV)) hd ⟨hc, hs⟩
      · exact vx_runSX (hh := mRaw a) (As := (st.take (mKn a)).reverse.map (mRf G)) (rest := (st.drop (mKn a)).map (mRf G)) ⟨hx, hb, hml, hown, hts⟩ hM ⟨⟨rfl, rfl, hRf, (by show 8 + (mKl a + 11) + 60 * d' ≤ R.locals; omega), pay_in hts (mGood (mWy_in h10 h373 hla)), (by unfold mWy; rw [mCw_with hraw]; exact List.mem_cons_self)⟩, hts _ (by have := mWy_in h10 h373 hla _ List.mem_cons_self; rw [mCw_with hraw] at this; exact this), hts _ hq2.1, hq2.2.2.2.1, (fun sig h => by rw [h] at hnp; exact (Option.some.inj hnp).symm), hts _ (mGw_of hlk rfl), hts _ hstt⟩ ⟨mBlind, fun U hU hW => ⟨rfl, mWd.of hK hD hU hW⟩⟩ rfl (by rw [List.length_map]; exact hlen) hl.1 hst (lv_room (mV4_sum hV)) hd ⟨hc, hs⟩
    · exact absurd (show mKi a < 10 from hk) (by omega)
  · exact absurd rfl hb1
end MZ
