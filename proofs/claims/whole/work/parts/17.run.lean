/-! a run of the small machine is a run of the machine -/
def mFm (y : Nat) (p : Program) (s : State) (m : MethodId) (args : Array Value) (meth : Method) (c : Code) : Prop :=
  mFr y p s m args c ∧ meth.sig.returnType = mKr y ∧ meth.locks = false ∧ c.exceptionTable.toList = tableOf (mRaw y)
def mEnd (v : Option Int32) : Instr := match v with
  | some _ => .ireturn
  | none => .return_
def mStmt (l : Launch) (n : Nat) : Prop := ∀ (d y i : Nat) (L : List (Option Value)) (st : List Value) (M : mM) (o : Option Int32 ⊕ Nat) (M' : mM) (k : Nat), mx n d y i L st M = some (o, M', k) → 10 ≤ y → y < 373 →
  ∀ (G : mG) (p : Program) (e : Env) (R : Room) (s : State) (m : MethodId) (args : Array Value) (below : List Frame) (meth : Method) (c : Code) (H : Heap) (locs : List Loc) (cells slots : Nat) (Q : State → Prop) (ls : Array Slot),
    mFm y p s m args meth c → mSt G s → L.length = mKl y → d ≤ R.frames → 60 * d ≤ R.locals → cells + k ≤ R.cells → slots + 6 * k ≤ R.slots → lv_has ls (mKl y) (mLv G L) → mDy G s M H locs →
    (∀ v, o = .inl v → ∀ (H1 : Heap) (locs1 : List Loc) (ls1 : Array Slot) (pc1 : Nat), mDy G s M' H1 locs1 → decode (mT y).2.1 pc1 = .ok (mEnd v, 1) → (∀ x, v = some x → mRok (mKr y) x = true) → (v = none → mKr y = none) → W p l e R s m args below meth c H1 locs1 (cells + k) (slots + 6 * k) Q (F0 m pc1 ls1 (mVl v))) →
    (∀ E, o = .inr E → ∃ Qc mc ms, Q = vx_MQ below Qc (mXc G E M') args s mc ms (mA G) ∧ cells + k ≤ mc ∧ slots + 6 * k ≤ ms) →
    W p l e R s m args below meth c H locs cells slots Q (F0 m (mPc (mKc y) i) ls (st.map (mRf G)))
theorem mVx_of {l : Launch} {y : MethodName} {ws ws' : List Cond} {rm : Room} {Pc : Array Value → State → Prop} {Qc : Array Value → State → Outcome → State → Prop} {XC : String → State → State → Prop} {mc ms : Nat} {free : Addr → Prop} {cc : ByteArray} {maxL : Nat} {ret : Option FieldType} {hh : List (Nat × Nat × Nat × Nat)}
    (hy : plainFor y = true) (hw : ws = mCw (y, cc, maxL, ret, 0, 0, []) hh :: ws')
    (body : ∀ p e s m args below meth c s₁, BodyLoose p l y (headSpec ws rm) cc maxL ret e s m args below meth c s₁ → c.maxLocals = maxL → c.exceptionTable.toList = tableOf hh → Pc args s →
      W p l e (headSpec ws rm).room s m args below meth c s.heap [] 0 0 (vx_MQ below Qc XC args s mc ms free) (entryFrame m args maxL)) : vx_Met l y ws rm Pc Qc XC mc ms free := by
  refine MetFree.of_bodySF (code := cc) (maxLocals := maxL) (ret := ret) hy ?_ ?_
  · intro args s m h hn
    have hc := atoms_spec (ws := ws) h _ (by rw [hw]; exact List.mem_cons_self)
    cases hh with
    | nil =>
      obtain ⟨meth, c, h1, h2, h3, h4, h5, h6, -, -⟩ := Cond.code_spec hn hc
      exact ⟨meth, c, h1, h2, h3, h4, h5, h6⟩
    | cons a r =>
      obtain ⟨m9, meth, c, hn9, h1, h2, h3, h4, -, h5, h6, -⟩ := Cond.codeWith_spec hc
      cases hn.symm.trans hn9
      exact ⟨meth, c, h1, h2, h3, h4, h5, h6⟩
  · intro p e s m args below meth c s₁ B hml hP _
    have hh0 : s₁.heap = s.heap := by rw [B.state]; rfl
    have hc := atoms_spec (ws := ws) B.pre _ (by rw [hw]; exact List.mem_cons_self)
    have ht : c.exceptionTable.toList = tableOf hh := by
      cases hh with
      | nil =>
        obtain ⟨meth9, c9, h1, h2, -, -, -, -, h7, -⟩ := Cond.code_spec B.named hc
        cases Option.some.inj (h1.symm.trans B.method)
        cases Option.some.inj (h2.symm.trans (Stand.of_body B).code)
        rw [Array.isEmpty_iff.mp h7]
        rfl
      | cons a r => exact vx_table (x := y) B hc
    obtain ⟨t, a1, o, b1, b2, b3⟩ := body p e s m args below meth c s₁ B hml ht hP s₁ hh0 (Stand.of_body B)
    exact ⟨t, o, a1, b1, b2, b3⟩
theorem mMet_of {l : Launch} {y : MethodName} {ws ws' : List Cond} {rm : Room} {Pc : Array Value → State → Prop} {Qc : Array Value → State → Outcome → State → Prop} {mc ms : Nat} {free : Addr → Prop} {cc : ByteArray} {maxL : Nat} {ret : Option FieldType} {hh : List (Nat × Nat × Nat × Nat)}
    (hy : plainFor y = true) (hw : ws = mCw (y, cc, maxL, ret, 0, 0, []) hh :: ws')
    (body : ∀ p e s m args below meth c s₁, BodyLoose p l y (headSpec ws rm) cc maxL ret e s m args below meth c s₁ → c.maxLocals = maxL → c.exceptionTable.toList = tableOf hh → Pc args s →
      W p l e (headSpec ws rm).room s m args below meth c s.heap [] 0 0 (MQ below Qc args s mc ms free) (entryFrame m args maxL)) : Met l y ws rm Pc Qc mc ms free := by
  refine MetFree.of_bodySF (code := cc) (maxLocals := maxL) (ret := ret) hy ?_ ?_
  · intro args s m h hn
    have hc := atoms_spec (ws := ws) h _ (by rw [hw]; exact List.mem_cons_self)
    cases hh with
    | nil =>
      obtain ⟨meth, c, h1, h2, h3, h4, h5, h6, -, -⟩ := Cond.code_spec hn hc
      exact ⟨meth, c, h1, h2, h3, h4, h5, h6⟩
    | cons a r =>
      obtain ⟨m9, meth, c, hn9, h1, h2, h3, h4, -, h5, h6, -⟩ := Cond.codeWith_spec hc
      cases hn.symm.trans hn9
      exact ⟨meth, c, h1, h2, h3, h4, h5, h6⟩
  · intro p e s m args below meth c s₁ B hml hP _
    have hh0 : s₁.heap = s.heap := by rw [B.state]; rfl
    have hc := atoms_spec (ws := ws) B.pre _ (by rw [hw]; exact List.mem_cons_self)
    have ht : c.exceptionTable.toList = tableOf hh := by
      cases hh with
      | nil =>
        obtain ⟨meth9, c9, h1, h2, -, -, -, -, h7, -⟩ := Cond.code_spec B.named hc
        cases Option.some.inj (h1.symm.trans B.method)
        cases Option.some.inj (h2.symm.trans (Stand.of_body B).code)
        rw [Array.isEmpty_iff.mp h7]
        rfl
      | cons a r => exact vx_table (x := y) B hc
    obtain ⟨t, a1, o, b1, b2, b3⟩ := body p e s m args below meth c s₁ B hml ht hP s₁ hh0 (Stand.of_body B)
    exact ⟨t, o, a1, b1, b2, ⟨b3.1, b3.2⟩⟩
theorem m_slots {G : mG} : ∀ {av : List Value}, (∀ v ∈ av, mC1 v = true) → (lg_sl (av.map (mRf G))).length = av.length
  | [], _ => rfl
  | v :: r, h => by
    have h1 := m_slots (G := G) (av := r) (fun w hw => h w (List.mem_cons_of_mem _ hw))
    have hc : (mRf G v).category = 1 := mC1_cat (h v List.mem_cons_self)
    unfold lg_sl at h1 ⊢
    rw [List.map_cons, List.flatMap_cons, if_neg (by omega), List.length_append, h1]
    simp [Nat.add_comm]
/-- the words of a method -/
def mWy (a : Nat) : List Cond := mCw (mT a) (mRaw a) :: mGw
theorem mWy_in {a : Nat} (h1 : 10 ≤ a) (h2 : a < 373) (h3 : (mT a).1 ≠ yL_law_) : ∀ w ∈ mWy a, w ∈ mGw := by
  intro w hw
  rcases List.mem_cons.mp hw with rfl | hw
  · rcases mQ3_all a h1 h2 with q | q
    · exact absurd q.2 h3
    · exact q.1
  · exact hw
theorem mCw_eq (a : Nat) : mCw (mT a) (mRaw a) = mCw ((mT a).1, (mT a).2.1, mKl a, mKr a, 0, 0, []) (mRaw a) := by
  unfold mCw
  split <;> rfl
theorem mPc_0 (a : Nat) : mPc (mKc a) 0 = 0 := (mQ1_all a).2.2.2
/-- at a method's entry -/
theorem m_entry {l : Launch} {n : Nat} (hn : mStmt l n) {d a : Nat} {av : List Value} {M M1 : mM} {o : Option Int32 ⊕ Nat} {k1 : Nat} (h : mx n d a 0 (mEn av (mKl a)) [] M = some (o, M1, k1)) (h1 : 10 ≤ a) (h2 : a < 373) (hlen : av.length ≤ mKl a) (hc1 : ∀ v ∈ av, mC1 v = true)
    {G : mG} {p : Program} {e : Env} {s : State} {m : MethodId} {below : List Frame} {meth : Method} {c : Code} {s₁ : State} {Q : State → Prop}
    (B : BodyLoose p l (mT a).1 (headSpec (mWy a) (mRm d k1)) (mT a).2.1 (mKl a) (mKr a) e s m (av.map (mRf G)).toArray below meth c s₁) (hml : c.maxLocals = mKl a) (ht : c.exceptionTable.toList = tableOf (mRaw a)) (hWd : mWd G M s)
    (hret : ∀ v, o = .inl v → ∀ (H1 : Heap) (locs1 : List Loc) (ls1 : Array Slot) (pc1 : Nat), mDy G s M1 H1 locs1 → decode (mT a).2.1 pc1 = .ok (mEnd v, 1) → (∀ x, v = some x → mRok (mKr a) x = true) → (v = none → mKr a = none) → W p l e (mRm d k1) s m (av.map (mRf G)).toArray below meth c H1 locs1 k1 (6 * k1) Q (F0 m pc1 ls1 (mVl v)))
    (hthr : ∀ E, o = .inr E → ∃ Qc mc ms, Q = vx_MQ below Qc (mXc G E M1) (av.map (mRf G)).toArray s mc ms (mA G) ∧ k1 ≤ mc ∧ 6 * k1 ≤ ms) :
    W p l e (mRm d k1) s m (av.map (mRf G)).toArray below meth c s.heap [] 0 0 Q (entryFrame m (av.map (mRf G)).toArray (mKl a)) := by
  obtain ⟨hSt, hD⟩ := hWd.st
  have hl := lv_entry (av.map (mRf G)) (n := mKl a) (by rw [m_slots hc1]; exact hlen)
  rw [lg_entry_eq]
  generalize (lg_sl (av.map (mRf G)) ++ List.replicate (mKl a - (lg_sl (av.map (mRf G))).length) Slot.unset).toArray = ls at hl ⊢
  have hl2 := mEn_lv hc1 hl
  have hpc : mPc (mKc a) 0 = 0 := mPc_0 a
  have hF : mFr a p s m (av.map (mRf G)).toArray c := ⟨B.exec, B.bytes, hml, findClass_of_methodNamed B.named, fun w hw => atoms_spec (ws := mWy a) B.pre w (List.mem_cons_of_mem _ hw)⟩
  have := hn d a 0 (mEn av (mKl a)) [] M o M1 k1 h h1 h2 G p e (mRm d k1) s m (av.map (mRf G)).toArray below meth c s.heap [] 0 0 Q ls ⟨hF, B.returns, B.notSynchronized, ht⟩ hSt (by unfold mEn; rw [List.length_append, List.length_map, List.length_replicate]; omega) (Nat.le_refl _) (Nat.le_refl _) (by show 0 + k1 ≤ k1; omega) (by show 0 + 6 * k1 ≤ 6 * k1; omega) hl2 hD
    (fun v hv H1 locs1 ls1 pc1 g1 g2 g3 g4 => by rw [Nat.zero_add, Nat.zero_add]; exact hret v hv H1 locs1 ls1 pc1 g1 g2 g3 g4)
    (fun E hE => by
      obtain ⟨Qc, mc, ms, e1, e2, e3⟩ := hthr E hE
      exact ⟨Qc, mc, ms, e1, by omega, by omega⟩)
  rw [hpc] at this
  exact this
