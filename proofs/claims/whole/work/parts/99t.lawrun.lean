/-! the law's own run: what the small machine runs of it to its end, the machine runs -/
set_option maxHeartbeats 8000000 in
theorem m_law {l : Launch} (hl0 : l.stackTraces = false) : ∀ (n d y i : Nat) (L : List (Option Value)) (st : List Value) (M : mM) (x : Int32) (M' : mM) (k : Nat), mx n d y i L st M = some (.inl (some x), M', k) → y = 372 →
  ∀ (G : mG) (p : Program) (e : Env) (R : Room) (s : State) (m : MethodId) (args : Array Value) (below : List Frame) (meth : Method) (c : Code) (H : Heap) (locs : List Loc) (cells slots : Nat) (Q : State → Prop) (ls : Array Slot),
    mFr y p s m args c → mSt G s → L.length = mKl y → d ≤ R.frames → 60 * d ≤ R.locals → cells + k ≤ R.cells → slots + 6 * k ≤ R.slots → lv_has ls (mKl y) (mLv G L) → mDy G s M H locs →
    (∀ (H1 : Heap) (locs1 : List Loc) (ls1 : Array Slot) (pc1 : Nat), mDy G s M' H1 locs1 → decode (mT y).2.1 pc1 = .ok (.ireturn, 1) → W p l e R s m args below meth c H1 locs1 (cells + k) (slots + 6 * k) Q (F0 m pc1 ls1 [.int x])) →
    W p l e R s m args below meth c H locs cells slots Q (F0 m (mPc (mKc y) i) ls (st.map (mRf G))) := by
  intro n
  induction n with
  | zero => intro d y i L st M x M' k h; cases h
  | succ n ih =>
    intro d y i L st M x M' k h hy G p e R s m args below meth c H locs cells slots Q ls hF hK hLL hRf hRl hc hs hl hD hret
    obtain ⟨ins, pc, ln, a, b, w, he, h⟩ := mx_cases h
    obtain ⟨q1, q1c, q1n, -⟩ := mQ1_all y
    have hok := mOkL_at q1 he
    have hoc : mOkC (mT y).1.cls (ins, pc, ln, a, b, w) = true := List.all_eq_true.mp q1c _ (List.mem_of_getElem? he)
    have hpc : mPc (mKc y) i = pc := mPc_at he
    rw [hpc]
    rcases h with ⟨-, q, h1, h2⟩ | ⟨hk, x', rfl, hx, hr0⟩ | ⟨hk, hkr, rfl, hr0⟩ | ⟨hk, hd8, hV, ha5, hem, hr0⟩ | ⟨hk, ha, hd8, hpn, hV, v, M1, h1, h2⟩ | ⟨hk, ha, d', rfl, hna, hnl, hrec, hal, hV, h2⟩
    · obtain ⟨e1, e2, e3⟩ := mstep_keep h1
      refine m_step hF hK.2.1 hK.2.2.2.1 hok hLL h1 hl hD (fun H1 locs1 ls1 g1 g2 => ?_)
      exact ih _ _ _ _ _ _ _ _ _ h2 hy G p e R s m args below meth c H1 locs1 cells slots Q ls1 hF hK (e1.trans hLL) hRf hRl hc hs g1 g2 hret
    · have hi := mK1 hk
      subst hi
      cases hr0
      have hd := (mk1 (k := 1) (B := true) (ins := .ireturn) (by rw [Bool.and_true]; exact hok)).1
      exact hret H locs ls pc hD hd
    · cases hr0
    · cases hr0
    · have hrow := mPrim_row h1
      refine m_prim hF hK hok hoc hk ha hd8 hRf hRl (by omega) (by omega) hV h1 hl hD (fun H1 locs1 g1 => ?_)
      exact ih _ _ _ _ _ _ _ _ _ h2 hy G p e R s m args below meth c H1 locs1 cells slots Q ls hF hK hLL hRf hRl hc hs hl g1 hret
    · have hav1 : ∀ v ∈ (st.take (mKn a)).reverse, mC1 v = true := fun v hv => List.all_eq_true.mp hal v (List.mem_reverse.mp hv)
      have hal2 : (st.take (mKn a)).reverse.length ≤ mKl a := by rw [List.length_reverse, List.length_take]; omega
      obtain ⟨idx, hidx⟩ := mK4 hk
      obtain ⟨⟨h10, h373, hla⟩, hww⟩ := m_word hoc ha hidx
      have hn3 : mPc (mKc y) (i + 1) = pc + 3 := by
        rcases hidx with rfl | rfl
        · exact (mk2 (k := 3) (ins := .invokevirtual idx) hok).2
        · exact (mk2 (k := 3) (ins := .invokestatic idx) hok).2
      rcases mRet_cases h2 with ⟨v, M1, k1, o1, M2, k2, e1, e2, e3⟩ | ⟨E, M1, k1, e1, hb1, hcat, e3⟩ | ⟨E, M1, k1, hh, z, o1, M2, k2, e1, hb1, hcat, hz, hzl, e2, e3⟩
      · cases e3
        have hrow := mx_row _ _ _ _ _ _ _ _ e1
        have hM := mMet_n (m_run hl0 n) e1 h10 h373 hla hal2 hav1 G
        have hrun := m_runM (e := e) (below := below) (meth := meth) (cells := cells) (slots := slots) hF hK hoc hok hk ha hRf hRl (by omega) (by omega) hna hrec hV hl hD hM
        refine m_after hrun hD hrow (fun H1 locs1 g1 => ?_)
        have := ih _ _ _ _ _ _ _ _ _ e2 hy G p e R s m args below meth c H1 locs1 (cells + k1) (slots + 6 * k1) Q ls hF hK hLL hRf hRl (by omega) (by omega) hl g1
          (fun H2 locs2 ls2 pc2 q1 q2 => by
            have := hret H2 locs2 ls2 pc2 q1 q2
            rw [show cells + k1 + k2 = cells + (k1 + k2) by omega, show slots + 6 * k1 + 6 * k2 = slots + 6 * (k1 + k2) by omega]
            exact this)
        rw [hn3, mVl_map] at this
        exact this
      · cases e3
      · rw [hy] at hcat
        cases hcat
