/-! THE SMALL MACHINE IS SOUND: what it runs, the machine runs -/
theorem mK1 {ins : Instr} (h : mKd ins = 1) : ins = .ireturn := by
  cases ins <;> first | rfl | exact absurd (show (0 : Nat) = 1 from h) (by decide) | exact absurd (show (2 : Nat) = 1 from h) (by decide) | exact absurd (show (3 : Nat) = 1 from h) (by decide) | exact absurd (show (4 : Nat) = 1 from h) (by decide)
theorem mK2 {ins : Instr} (h : mKd ins = 2) : ins = .return_ := by
  cases ins <;> first | rfl | exact absurd (show (0 : Nat) = 2 from h) (by decide) | exact absurd (show (1 : Nat) = 2 from h) (by decide) | exact absurd (show (3 : Nat) = 2 from h) (by decide) | exact absurd (show (4 : Nat) = 2 from h) (by decide)
theorem mK3 {ins : Instr} (h : mKd ins = 3) : ∃ idx, ins = .new idx := by
  cases ins <;> first | exact ⟨_, rfl⟩ | exact absurd (show (0 : Nat) = 3 from h) (by decide) | exact absurd (show (1 : Nat) = 3 from h) (by decide) | exact absurd (show (2 : Nat) = 3 from h) (by decide) | exact absurd (show (4 : Nat) = 3 from h) (by decide)
theorem mTab_0 {y : Nat} (h1 : 10 ≤ y) (h2 : y < 373) (h : (mHd y).isEmpty = true) : (mT y).1 = yL_law_ ∨ mRaw y = [] := by
  rcases mQ3_all y h1 h2 with q | q
  · exact Or.inl q.2
  · right
    have hk := q.2
    cases hh : mHd y with
    | nil =>
      rw [hh] at hk
      cases hr : mRaw y with
      | nil => rfl
      | cons a r => rw [hr] at hk; cases hk
    | cons a r => rw [hh] at h; cases h
theorem mCast {E : Nat} (hE : E < 5) : Cond.castable (mEx E) (mEx E) ∈ mNst := by
  have key : ∀ w : Cond, decide (w ∈ lw_tbl) = true → (match w with | .methodLinkNest _ _ _ _ => true | .declares _ => true | .castable _ _ => true | _ => false) = true → w ∈ mNst := fun w h1 h2 => List.mem_filter.mpr ⟨of_decide_eq_true h1, h2⟩
  match E, hE with
  | 0, _ => exact key _ (by decide +kernel) rfl
  | 1, _ => exact key _ (by decide +kernel) rfl
  | 2, _ => exact key _ (by decide +kernel) rfl
  | 3, _ => exact key _ (by decide +kernel) rfl
  | 4, _ => exact key _ (by decide +kernel) rfl
set_option maxHeartbeats 8000000 in
theorem m_run {l : Launch} (hl0 : l.stackTraces = false) : ∀ n, mStmt l n := by
  intro n
  induction n with
  | zero => intro d y i L st M o M' k h; cases h
  | succ n ih =>
    intro d y i L st M o M' k h hy1 hy2 G p e R s m args below meth c H locs cells slots Q ls hFm hK hLL hRf hRl hc hs hl hD hret hthr
    obtain ⟨hF, hr, hlocks, htab⟩ := hFm
    have hFm : mFm y p s m args meth c := ⟨hF, hr, hlocks, htab⟩
    obtain ⟨ins, pc, ln, a, b, w, he, h⟩ := mx_cases h
    obtain ⟨q1, q1c, q1n, -⟩ := mQ1_all y
    have hok := mOkL_at q1 he
    have hoc : mOkC (mT y).1.cls (ins, pc, ln, a, b, w) = true := List.all_eq_true.mp q1c _ (List.mem_of_getElem? he)
    have hnw : mNw (mT y).1.cls (mKc y) i (ins, pc, ln, a, b, w) = true := List.all_eq_true.mp q1n ((ins, pc, ln, a, b, w), i) (by rw [List.mem_zipIdx_iff_getElem?]; exact he)
    have hpc : mPc (mKc y) i = pc := mPc_at he
    rw [hpc]
    rcases h with ⟨-, q, h1, h2⟩ | ⟨hk, x, rfl, hx, hr0⟩ | ⟨hk, hkr, rfl, hr0⟩ | ⟨hk, hd8, hV, ha5, hem, hr0⟩ | ⟨hk, ha, hd8, hpn, hV, v, M1, h1, h2⟩ | ⟨hk, ha, d', rfl, hna, hnl, hrec, hal, hV, h2⟩
    · obtain ⟨e1, e2, e3⟩ := mstep_keep h1
      refine m_step hF hK.2.1 hK.2.2.2.1 hok hLL h1 hl hD (fun H1 locs1 ls1 g1 g2 => ?_)
      exact ih _ _ _ _ _ _ _ _ _ h2 hy1 hy2 G p e R s m args below meth c H1 locs1 cells slots Q ls1 hFm hK (e1.trans hLL) hRf hRl hc hs g1 g2 hret hthr
    · have hi := mK1 hk
      subst hi
      cases hr0
      have hd := (mk1 (k := 1) (B := true) (ins := .ireturn) (by rw [Bool.and_true]; exact hok)).1
      have := hret (some x) rfl H locs ls pc hD hd (fun z hz => by cases hz; exact hx) (fun z => by cases z)
      exact this
    · have hi := mK2 hk
      subst hi
      cases hr0
      have hd := (mk1 (k := 1) (B := true) (ins := .return_) (by rw [Bool.and_true]; exact hok)).1
      exact hret none rfl H locs ls pc hD hd (fun z hz => by cases hz) (fun _ => hkr)
    · obtain ⟨idx, hi⟩ := mK3 hk
      subst hi
      cases hr0
      obtain ⟨Qc, mc, ms, rfl, g1, g2⟩ := hthr a rfl
      have hnol : (mT y).1 = yL_law_ ∨ mRaw y = [] := mTab_0 hy1 hy2 hem
      have ht0 : ∀ x ∈ c.exceptionTable.toList, False := by
        rcases hnol with hq | hq
        · exfalso
          have hn2 : (bif Nat.blt a 5 then decide ((mT y).1.cls = "WakeTower") && Nat.beq idx (mEk a) && (mNwS (mKc y) i pc a || mNwW (mKc y) i pc a) else true) = true := hnw
          rw [m_bif (Nat.blt_eq.mpr ha5)] at hn2
          simp only [Bool.and_eq_true, decide_eq_true_eq] at hn2
          rw [hq] at hn2
          exact absurd hn2.1.1 (by decide)
        · rw [htab, hq]
          intro x hx
          cases hx
      by_cases h3 : a = 3
      · subst h3
        exact m_throw3 hl0 hF hK q1 hnw he hd8 hRf hRl hc hs g1 g2 ht0 hlocks hV hl hD
      · exact m_throw hl0 hF hK q1 hnw he ha5 h3 hd8 hRf hRl hc hs g1 g2 ht0 hlocks hV hl hD
    · have hrow := mPrim_row h1
      refine m_prim hF hK hok hoc hk ha hd8 hRf hRl (by omega) (by omega) hV h1 hl hD (fun H1 locs1 g1 => ?_)
      exact ih _ _ _ _ _ _ _ _ _ h2 hy1 hy2 G p e R s m args below meth c H1 locs1 cells slots Q ls hFm hK hLL hRf hRl hc hs hl g1 hret hthr
    · have hav1 : ∀ v ∈ (st.take (mKn a)).reverse, mC1 v = true := fun v hv => List.all_eq_true.mp hal v (List.mem_reverse.mp hv)
      have hal2 : (st.take (mKn a)).reverse.length ≤ mKl a := by rw [List.length_reverse, List.length_take]; omega
      obtain ⟨idx, hidx⟩ := mK4 hk
      obtain ⟨⟨h10, h373, hla⟩, hww⟩ := m_word hoc ha hidx
      have hn3 : mPc (mKc y) (i + 1) = pc + 3 := by
        rcases hidx with rfl | rfl
        · exact (mk2 (k := 3) (ins := .invokevirtual idx) hok).2
        · exact (mk2 (k := 3) (ins := .invokestatic idx) hok).2
      rcases mRet_cases h2 with ⟨v, M1, k1, o1, M2, k2, e1, e2, e3⟩ | ⟨E, M1, k1, e1, hb1, hcat, e3⟩ | ⟨E, M1, k1, hh, z, o1, M2, k2, e1, hb1, hcat, hz, hzl, e2, e3⟩
      · cases e3
        have hrow := mx_row _ _ _ _ _ _ _ _ e1
        have hM := mMet_n ih e1 h10 h373 hla hal2 hav1 G
        have hrun := m_runM (e := e) (below := below) (meth := meth) (cells := cells) (slots := slots) hF hK hoc hok hk ha hRf hRl (by omega) (by omega) hna hrec hV hl hD hM
        refine m_after hrun hD hrow (fun H1 locs1 g1 => ?_)
        have := ih _ _ _ _ _ _ _ _ _ e2 hy1 hy2 G p e R s m args below meth c H1 locs1 (cells + k1) (slots + 6 * k1) Q ls hFm hK hLL hRf hRl (by omega) (by omega) hl g1
          (fun v' hv' H2 locs2 ls2 pc2 q1 q2 q3 q4 => by
            have := hret v' hv' H2 locs2 ls2 pc2 q1 q2 q3 q4
            rw [show cells + k1 + k2 = cells + (k1 + k2) by omega, show slots + 6 * k1 + 6 * k2 = slots + 6 * (k1 + k2) by omega]
            exact this)
          (fun E hE => by
            obtain ⟨Qc, mc, ms, q1, q2, q3⟩ := hthr E hE
            exact ⟨Qc, mc, ms, q1, by omega, by omega⟩)
        rw [hn3, mVl_map] at this
        exact this
      · cases e3
        have hE5 := mx_E _ _ _ _ _ _ _ _ _ _ e1
        have hrow := mx_row _ _ _ _ _ _ _ _ e1
        have hM := mVx_n ih e1 h10 h373 hla hal2 hav1 G
        have hrun := m_runX (e := e) (below := below) (meth := meth) (cells := cells) (slots := slots) hF hK hoc hok hk ha hb1 hRf hRl (by omega) (by omega) hna hrec hV hl hD hM
        obtain ⟨Qc, mc, ms, rfl, g1, g2⟩ := hthr E rfl
        refine m_afterT hrun hD hrow (fun ce q9 H1 locs1 hD1 hce hcv hcl => ?_)
        have hpass : ∀ z ∈ c.exceptionTable.toList, mPass (mT y).1.cls args s pc E z := by
          rw [htab]
          rcases mQ3_all y hy1 hy2 with hq | hq
          · intro z hz
            have hy : y = 372 := hq.1
            subst hy
            cases hz
          · exact (mHk_eq he hF.2.2.2.2 hK.2.2.2.2.2.2.2.2.2 hE5 (mHd y) (mRaw y) hq.2).2 hcat
        exact vx_outP hF.2.2.2.1 hlocks hpass hce hcv hcl (fun t ht hvm => ⟨(), trivial, ⟨rfl, by show va_P (gD G) vwCl (mWs G M') t.heap; rw [ht]; exact hD1.1⟩, hD1.2.2.1.F ht⟩) hD1.2.2.1.2.2 g1 g2
      · cases e3
        have hE5 := mx_E _ _ _ _ _ _ _ _ _ _ e1
        have hrow := mx_row _ _ _ _ _ _ _ _ e1
        have hM := mVx_n ih e1 h10 h373 hla hal2 hav1 G
        have hrun := m_runX (e := e) (below := below) (meth := meth) (cells := cells) (slots := slots) hF hK hoc hok hk ha hb1 hRf hRl (by omega) (by omega) hna hrec hV hl hD hM
        refine m_afterT hrun hD hrow (fun ce q9 H1 locs1 hD1 hce hcv hcl => ?_)
        have hq3 : mHk (mT y).1.cls (mKc y) (mHd y) (mRaw y) = true := by
          rcases mQ3_all y hy1 hy2 with hq | hq
          · have hy : y = 372 := hq.1
            subst hy
            cases hcat
          · exact hq.2
        obtain ⟨pre, x, suf, t1, t2, t3, t4, t5, t6⟩ := (mHk_eq he hF.2.2.2.2 hK.2.2.2.2.2.2.2.2.2 hE5 (mHd y) (mRaw y) hq3).1 hh hcat
        have hcast : (Cond.castable (mEx E) (mEx E)).before args s = true := va_Nw.use rfl (hK.2.2.2.2.2.2.2.2.1 _ (mCast hE5))
        refine vx_catch hF.2.2.2.1 pre x suf (htab.trans t1) t2 t3 t4 t5 hcast hce hcv hcl ?_
        rw [t6]
        have hrest := ih _ _ _ _ _ _ _ _ _ e2 hy1 hy2 G p e R s m args below meth c
        cases hz0 : (mKc y)[hh]? with
        | none => rw [hz0] at hz; cases hz
        | some eh =>
          rw [hz0] at hz
          have hokh : mOkE (mT y).1.cls (mT y).2.1 (mKc y) hh eh = true := mOkL_at q1 hz0
          rw [mPc_at hz0]
          have hzn : z < mKl y := by rw [← hLL]; exact hzl
          have hgo : ∀ ls1, lv_has ls1 (mKl y) (mLv G (L.set z none)) → W p l e R s m args below meth c H1 locs1 (cells + k1) (slots + 6 * k1) Q (F0 m (mPc (mKc y) (hh + 1)) ls1 []) := fun ls1 hl1 =>
            hrest H1 locs1 (cells + k1) (slots + 6 * k1) Q ls1 hFm hK (List.length_set.trans hLL) hRf hRl (by omega) (by omega) hl1 hD1
              (fun v' hv' H2 locs2 ls2 pc2 q1 q2 q3 q4 => by
                have := hret v' hv' H2 locs2 ls2 pc2 q1 q2 q3 q4
                rw [show cells + k1 + k2 = cells + (k1 + k2) by omega, show slots + 6 * k1 + 6 * k2 = slots + 6 * (k1 + k2) by omega]
                exact this)
              (fun E hE => by
                obtain ⟨Qc, mc, ms, q1, q2, q3⟩ := hthr E hE
                exact ⟨Qc, mc, ms, q1, by omega, by omega⟩)
          obtain ⟨insh, pch, lnh, ah, bh, wh⟩ := eh
          have hdrop : ∀ ls1 : Array Slot, lv_has ls1 (mKl y) ((z, Value.ref q9) :: (mLv G L).filter (fun q => !(q.1 == z) && !(q.1 + 1 == z && q.2.category == 2))) → lv_has ls1 (mKl y) (mLv G (L.set z none)) := by
            intro ls1 g
            refine ⟨g.1, g.2.1, fun q hq => ?_⟩
            obtain ⟨u, hu, hc1, eu⟩ := mLv_mem.mp hq
            have hu' := mLd_at hu
            by_cases cz : q.1 = z
            · rw [cz, List.getElem?_set_self hzl] at hu'
              cases hu'
            · rw [List.getElem?_set_ne (Ne.symm cz)] at hu'
              refine g.2.2 q (List.mem_cons_of_mem _ (List.mem_filter.mpr ⟨mLv_mem.mpr ⟨u, mLd_of hu', hc1, eu⟩, ?_⟩))
              have c2 : q.2.category = 1 := by rw [eu]; exact mC1_cat hc1
              rw [c2]
              simp [cz]
          have hcase : (insh = .astore z) ∨ ∃ f : Fin 4, insh = .astore_n f ∧ f.val = z := by
            cases insh <;> first | (cases hz; exact Or.inl rfl) | (cases hz; exact Or.inr ⟨_, rfl, rfl⟩) | cases hz
          rcases hcase with rfl | ⟨f, rfl, rfl⟩
          · obtain ⟨hdh, hnh⟩ := mk2 (k := 2) (ins := .astore z) hokh
            rw [hnh] at hgo
            exact lv_astore hF.1 hF.2.1 hdh hl hzn rfl (fun ls1 g => hgo ls1 (hdrop ls1 g))
          · obtain ⟨hdh, hnh⟩ := mk2 (k := 1) (ins := .astore_n f) hokh
            rw [hnh] at hgo
            exact lv_astore_n hF.1 hF.2.1 hdh rfl hl hzn rfl (fun ls1 g => hgo ls1 (hdrop ls1 g))
