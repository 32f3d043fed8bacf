/-! the methods, by program -/
/-- WakeTower.keepNext()V: 120, T -/
theorem kc_120 : mKc 120 = k_X11_keepNext := rfl
def f_X11_keepNext  (M0 : mM) : Option ((Unit ⊕ Nat) × mM) :=
  b2 (f_X9_settle 47 M0) (fun v1 M1 => b2 (f_X9_stands 47 (M1 47 1) (M1 47 2) M1) (fun v2 M2 => tb (f_X11_mustBeSo v2 M2) (fun v3 M3 => b2 (f_X3_remember 35 M3) (fun v4 M4 => b2 (f_X9_copyFrom 35 47 M4) (fun v5 M5 => some (.inl (), M5))))))
set_option maxRecDepth 8000 in
theorem c_X11_keepNext  {M0 : mM} {out : ((Unit ⊕ Nat) × mM)} (h : f_X11_keepNext M0 = some out) : Cs (11) 120 [.ref 0] M0 (emT eU out) := by
  generalize hk : emT eU out = R
  replace hk := hk.symm
  unfold f_X11_keepNext at h
  show Ev (11) 120 0 [some (.ref 0)] [] M0 R
  refine ev_go kc_120 2 (i' := 2) (L' := [some (.ref 0)]) (st' := [.ref 47]) (M' := M0) rfl ?_
  obtain ⟨v1, M1, hc1, h⟩ := o_b2 h
  refine ev_cl0 (ins := .invokevirtual 235) kc_120 rfl rfl (a := 88) (as := [.ref 47]) (rest := []) rfl rfl (Cs.deep (c_X9_settle hc1) (by decide)) ?_
  refine ev_go kc_120 8 (i' := 11) (L' := [some (.ref 0)]) (st' := [.int (M1 47 2), .int (M1 47 1), .ref 47]) (M' := M1) rfl ?_
  obtain ⟨v2, M2, hc2, h⟩ := o_b2 h
  refine ev_cl0 (ins := .invokevirtual 238) kc_120 rfl rfl (a := 93) (as := [.ref 47, .int (M1 47 1), .int (M1 47 2)]) (rest := []) rfl rfl (Cs.deep (c_X9_stands hc2) (by decide)) ?_
  rcases o_tb h with ⟨v3, M3, hc3, h⟩ | ⟨E3, M3, hc3, h⟩
  rotate_left
  · subst h
    rw [hk]
    exact ev_clT (ins := .invokestatic 206) kc_120 rfl rfl (a := 173) (as := [.int (mB v2)]) (rest := []) rfl rfl rfl rfl (Cs.deep (c_X11_mustBeSo hc3) (by decide))
  refine ev_cl0 (ins := .invokestatic 206) kc_120 rfl rfl (a := 173) (as := [.int (mB v2)]) (rest := []) rfl rfl (Cs.deep (c_X11_mustBeSo hc3) (by decide)) ?_
  refine ev_go kc_120 4 (i' := 17) (L' := [some (.ref 0)]) (st' := [.ref 35, .ref 3]) (M' := M3) rfl ?_
  obtain ⟨v4, M4, hc4, h⟩ := o_b2 h
  refine ev_cl0 (ins := .invokevirtual 190) kc_120 rfl rfl (a := 34) (as := [.ref 3, .ref 35]) (rest := []) rfl rfl (Cs.deep (c_X3_remember hc4) (by decide)) ?_
  refine ev_go kc_120 4 (i' := 22) (L' := [some (.ref 0)]) (st' := [.ref 47, .ref 35]) (M' := M4) rfl ?_
  obtain ⟨v5, M5, hc5, h⟩ := o_b2 h
  refine ev_cl0 (ins := .invokevirtual 86) kc_120 rfl rfl (a := 73) (as := [.ref 35, .ref 47]) (rest := []) rfl rfl (Cs.deep (c_X9_copyFrom hc5) (by decide)) ?_
  obtain rfl := Option.some.inj h
  rw [hk]
  exact ev_vret kc_120 rfl rfl rfl
/-- WakeTower.rise(III)I: 113, T -/
theorem kc_113 : mKc 113 = k_X11_rise := rfl
def f_X11_rise_26 (l1 : Int32) (l2 : Int32) (l4 : Int32) (s0 : Bool) (M0 : mM) : Option ((Int32 ⊕ Nat) × mM) :=
  tb (f_X11_mustBeSo s0 M0) (fun v1 M1 => b2 (f_X9_copyFrom 47 35 M1) (fun v2 M2 => b2 (f_X9_bringUp 47 l1 l2 l4 M2) (fun v3 M3 => tb (f_X11_keepNext M3) (fun v4 M4 => b1 (f_X9_borneByAll 35 M4) (fun v5 => some (.inl v5, M4))))))
set_option maxRecDepth 8000 in
theorem e_X11_rise_26 {l1 : Int32} {l2 : Int32} {l4 : Int32} {s0 : Bool} {M0 : mM} {R : mZ} {out : ((Int32 ⊕ Nat) × mM)}  (h : f_X11_rise_26 l1 l2 l4 s0 M0 = some out) (hk : R = emT eI out) : Ev (12) 113 26 [some (.ref 0), some (.int l1), some (.int l2), none, some (.int l4)] [.int (mB s0)] M0 R := by
  unfold f_X11_rise_26 at h
  rcases o_tb h with ⟨v1, M1, hc1, h⟩ | ⟨E1, M1, hc1, h⟩
  rotate_left
  · subst h
    rw [hk]
    exact ev_clT (ins := .invokestatic 206) kc_113 rfl rfl (a := 173) (as := [.int (mB s0)]) (rest := []) rfl rfl rfl rfl (Cs.deep (c_X11_mustBeSo hc1) (by decide))
  refine ev_cl0 (ins := .invokestatic 206) kc_113 rfl rfl (a := 173) (as := [.int (mB s0)]) (rest := []) rfl rfl (Cs.deep (c_X11_mustBeSo hc1) (by decide)) ?_
  refine ev_go kc_113 4 (i' := 31) (L' := [some (.ref 0), some (.int l1), some (.int l2), none, some (.int l4)]) (st' := [.ref 35, .ref 47]) (M' := M1) rfl ?_
  obtain ⟨v2, M2, hc2, h⟩ := o_b2 h
  refine ev_cl0 (ins := .invokevirtual 86) kc_113 rfl rfl (a := 73) (as := [.ref 47, .ref 35]) (rest := []) rfl rfl (Cs.deep (c_X9_copyFrom hc2) (by decide)) ?_
  refine ev_go kc_113 5 (i' := 37) (L' := [some (.ref 0), some (.int l1), some (.int l2), none, some (.int l4)]) (st' := [.int l4, .int l2, .int l1, .ref 47]) (M' := M2) rfl ?_
  obtain ⟨v3, M3, hc3, h⟩ := o_b2 h
  refine ev_cl0 (ins := .invokevirtual 209) kc_113 rfl rfl (a := 84) (as := [.ref 47, .int l1, .int l2, .int l4]) (rest := []) rfl rfl (Cs.deep (c_X9_bringUp hc3) (by decide)) ?_
  refine ev_go kc_113 1 (i' := 39) (L' := [some (.ref 0), some (.int l1), some (.int l2), none, some (.int l4)]) (st' := [.ref 0]) (M' := M3) rfl ?_
  rcases o_tb h with ⟨v4, M4, hc4, h⟩ | ⟨E4, M4, hc4, h⟩
  rotate_left
  · subst h
    rw [hk]
    exact ev_clT (ins := .invokevirtual 213) kc_113 rfl rfl (a := 120) (as := [.ref 0]) (rest := []) rfl rfl rfl rfl (Cs.deep (c_X11_keepNext hc4) (by decide))
  refine ev_cl0 (ins := .invokevirtual 213) kc_113 rfl rfl (a := 120) (as := [.ref 0]) (rest := []) rfl rfl (Cs.deep (c_X11_keepNext hc4) (by decide)) ?_
  refine ev_go kc_113 2 (i' := 42) (L' := [some (.ref 0), some (.int l1), some (.int l2), none, some (.int l4)]) (st' := [.ref 35]) (M' := M4) rfl ?_
  obtain ⟨v5, hc5, h⟩ := o_b1 h
  refine ev_cl0 (ins := .invokevirtual 183) kc_113 rfl rfl (a := 80) (as := [.ref 35]) (rest := []) rfl rfl (Cs.deep (c_X9_borneByAll (M0 := M4) hc5) (by decide)) ?_
  obtain rfl := Option.some.inj h
  rw [hk]
  exact ev_ret kc_113 rfl rfl rfl
def f_X11_rise_25 (l1 : Int32) (l2 : Int32) (l4 : Int32) (M0 : mM) : Option ((Int32 ⊕ Nat) × mM) :=
  f_X11_rise_26 l1 l2 l4 false M0
set_option maxRecDepth 8000 in
theorem e_X11_rise_25 {l1 : Int32} {l2 : Int32} {l4 : Int32} {M0 : mM} {R : mZ} {out : ((Int32 ⊕ Nat) × mM)}  (h : f_X11_rise_25 l1 l2 l4 M0 = some out) (hk : R = emT eI out) : Ev (12) 113 25 [some (.ref 0), some (.int l1), some (.int l2), none, some (.int l4)] [] M0 R := by
  unfold f_X11_rise_25 at h
  refine ev_go kc_113 1 (i' := 26) (L' := [some (.ref 0), some (.int l1), some (.int l2), none, some (.int l4)]) (st' := [.int (0 : Int32)]) (M' := M0) rfl ?_
  exact Ev.forget (mLe.kp (mLe.kp (mLe.kp (mLe.sk (mLe.kp mLe.nl))))) (e_X11_rise_26  h hk)
def f_X11_rise (p1 : Int32) (p2 : Int32) (p3 : Int32) (M0 : mM) : Option ((Int32 ⊕ Nat) × mM) :=
  tb (f_X11_mustBePerson p1 M0) (fun v6 M6 => tb (f_X11_mustBeRing p2 M6) (fun v7 M7 => b1 (f_X9_everyone 35 M7) (fun v8 => bif (f_X11_has (M7 35 1) p1) then (f_X11_rise_25 p1 p2 (p3 &&& v8) M7) else (b1 (f_X9_fitsRing 35 p2 (p3 &&& v8) M7) (fun v11 => bif v11 then (f_X11_rise_26 p1 p2 (p3 &&& v8) true M7) else (f_X11_rise_25 p1 p2 (p3 &&& v8) M7))))))
set_option maxRecDepth 8000 in
theorem c_X11_rise {p1 : Int32} {p2 : Int32} {p3 : Int32} {M0 : mM} {out : ((Int32 ⊕ Nat) × mM)} (h : f_X11_rise p1 p2 p3 M0 = some out) : Cs (12) 113 [.ref 0, .int p1, .int p2, .int p3] M0 (emT eI out) := by
  generalize hk : emT eI out = R
  replace hk := hk.symm
  unfold f_X11_rise at h
  show Ev (12) 113 0 [some (.ref 0), some (.int p1), some (.int p2), some (.int p3), none] [] M0 R
  refine ev_go kc_113 2 (i' := 2) (L' := [some (.ref 0), some (.int p1), some (.int p2), some (.int p3), none]) (st' := [.int p1, .ref 0]) (M' := M0) rfl ?_
  rcases o_tb h with ⟨v6, M6, hc6, h⟩ | ⟨E6, M6, hc6, h⟩
  rotate_left
  · subst h
    rw [hk]
    exact ev_clT (ins := .invokevirtual 128) kc_113 rfl rfl (a := 170) (as := [.ref 0, .int p1]) (rest := []) rfl rfl rfl rfl (Cs.deep (c_X11_mustBePerson hc6) (by decide))
  refine ev_cl0 (ins := .invokevirtual 128) kc_113 rfl rfl (a := 170) (as := [.ref 0, .int p1]) (rest := []) rfl rfl (Cs.deep (c_X11_mustBePerson hc6) (by decide)) ?_
  refine ev_go kc_113 1 (i' := 4) (L' := [some (.ref 0), some (.int p1), some (.int p2), some (.int p3), none]) (st' := [.int p2]) (M' := M6) rfl ?_
  rcases o_tb h with ⟨v7, M7, hc7, h⟩ | ⟨E7, M7, hc7, h⟩
  rotate_left
  · subst h
    rw [hk]
    exact ev_clT (ins := .invokestatic 197) kc_113 rfl rfl (a := 171) (as := [.int p2]) (rest := []) rfl rfl rfl rfl (Cs.deep (c_X11_mustBeRing hc7) (by decide))
  refine ev_cl0 (ins := .invokestatic 197) kc_113 rfl rfl (a := 171) (as := [.int p2]) (rest := []) rfl rfl (Cs.deep (c_X11_mustBeRing hc7) (by decide)) ?_
  refine ev_go kc_113 3 (i' := 8) (L' := [some (.ref 0), some (.int p1), some (.int p2), some (.int p3), none]) (st' := [.ref 35, .int p3]) (M' := M7) rfl ?_
  obtain ⟨v8, hc8, h⟩ := o_b1 h
  refine ev_cl0 (ins := .invokevirtual 200) kc_113 rfl rfl (a := 75) (as := [.ref 35]) (rest := [.int p3]) rfl rfl (Cs.deep (c_X9_everyone (M0 := M7) hc8) (by decide)) ?_
  refine ev_go kc_113 6 (i' := 15) (L' := [some (.ref 0), some (.int p1), some (.int p2), some (.int p3), some (.int (p3 &&& v8))]) (st' := [.int p1, .int (M7 35 1)]) (M' := M7) rfl ?_
  refine ev_cl0 (ins := .invokestatic 134) kc_113 rfl rfl (a := 178) (as := [.int (M7 35 1), .int p1]) (rest := []) rfl rfl (Cs.deep (c_X11_has (M0 := M7)) (by decide)) ?_
  rcases o_bif h with ⟨hb10, h⟩ | ⟨hb10, h⟩
  · refine ev_goT kc_113 1 (t := 25) (e := 17) (L' := [some (.ref 0), some (.int p1), some (.int p2), some (.int p3), some (.int (p3 &&& v8))]) (st' := []) rfl (mB_n0t hb10) ?_
    exact Ev.forget (mLe.kp (mLe.kp (mLe.kp (mLe.sk (mLe.kp mLe.nl))))) (e_X11_rise_25  h hk)
  · refine ev_goF kc_113 1 (t := 25) (e := 17) (L' := [some (.ref 0), some (.int p1), some (.int p2), some (.int p3), some (.int (p3 &&& v8))]) (st' := []) rfl (mB_n0f hb10) ?_
    refine ev_go kc_113 4 (i' := 21) (L' := [some (.ref 0), some (.int p1), some (.int p2), some (.int p3), some (.int (p3 &&& v8))]) (st' := [.int (p3 &&& v8), .int p2, .ref 35]) (M' := M7) rfl ?_
    obtain ⟨v11, hc11, h⟩ := o_b1 h
    refine ev_cl0 (ins := .invokevirtual 203) kc_113 rfl rfl (a := 83) (as := [.ref 35, .int p2, .int (p3 &&& v8)]) (rest := []) rfl rfl (Cs.deep (c_X9_fitsRing (M0 := M7) hc11) (by decide)) ?_
    rcases o_bif h with ⟨hb12, h⟩ | ⟨hb12, h⟩
    · refine ev_goF kc_113 1 (t := 25) (e := 23) (L' := [some (.ref 0), some (.int p1), some (.int p2), some (.int p3), some (.int (p3 &&& v8))]) (st' := []) rfl (mB_e0f hb12) ?_
      refine ev_go kc_113 2 (i' := 26) (L' := [some (.ref 0), some (.int p1), some (.int p2), some (.int p3), some (.int (p3 &&& v8))]) (st' := [.int (1 : Int32)]) (M' := M7) rfl ?_
      exact Ev.forget (mLe.kp (mLe.kp (mLe.kp (mLe.sk (mLe.kp mLe.nl))))) (e_X11_rise_26  h hk)
    · refine ev_goT kc_113 1 (t := 25) (e := 23) (L' := [some (.ref 0), some (.int p1), some (.int p2), some (.int p3), some (.int (p3 &&& v8))]) (st' := []) rfl (mB_e0t hb12) ?_
      exact Ev.forget (mLe.kp (mLe.kp (mLe.kp (mLe.sk (mLe.kp mLe.nl))))) (e_X11_rise_25  h hk)
/-- WakeTower.mustBeUp(I)V: 175, T -/
theorem kc_175 : mKc 175 = k_X11_mustBeUp := rfl
def f_X11_mustBeUp (p1 : Int32) (M0 : mM) : Option ((Unit ⊕ Nat) × mM) :=
  tb (f_X11_mustBeSo (f_X11_has (M0 35 1) p1) M0) (fun v2 M2 => some (.inl (), M2))
set_option maxRecDepth 8000 in
theorem c_X11_mustBeUp {p1 : Int32} {M0 : mM} {out : ((Unit ⊕ Nat) × mM)} (h : f_X11_mustBeUp p1 M0 = some out) : Cs (9) 175 [.ref 0, .int p1] M0 (emT eU out) := by
  generalize hk : emT eU out = R
  replace hk := hk.symm
  unfold f_X11_mustBeUp at h
  show Ev (9) 175 0 [some (.ref 0), some (.int p1)] [] M0 R
  refine ev_go kc_175 4 (i' := 4) (L' := [some (.ref 0), some (.int p1)]) (st' := [.int p1, .int (M0 35 1)]) (M' := M0) rfl ?_
  refine ev_cl0 (ins := .invokestatic 134) kc_175 rfl rfl (a := 178) (as := [.int (M0 35 1), .int p1]) (rest := []) rfl rfl (Cs.deep (c_X11_has (M0 := M0)) (by decide)) ?_
  rcases o_tb h with ⟨v2, M2, hc2, h⟩ | ⟨E2, M2, hc2, h⟩
  rotate_left
  · subst h
    rw [hk]
    exact ev_clT (ins := .invokestatic 206) kc_175 rfl rfl (a := 173) (as := [.int (mB (f_X11_has (M0 35 1) p1))]) (rest := []) rfl rfl rfl rfl (Cs.deep (c_X11_mustBeSo hc2) (by decide))
  refine ev_cl0 (ins := .invokestatic 206) kc_175 rfl rfl (a := 173) (as := [.int (mB (f_X11_has (M0 35 1) p1))]) (rest := []) rfl rfl (Cs.deep (c_X11_mustBeSo hc2) (by decide)) ?_
  obtain rfl := Option.some.inj h
  rw [hk]
  exact ev_vret kc_175 rfl rfl rfl
/-- WakeTower.out(I)I: 114, T -/
theorem kc_114 : mKc 114 = k_X11_out := rfl
def f_X11_out (p1 : Int32) (M0 : mM) : Option ((Int32 ⊕ Nat) × mM) :=
  tb (f_X11_mustBePerson p1 M0) (fun v1 M1 => tb (f_X11_mustBeUp p1 M1) (fun v2 M2 => b2 (f_X9_copyFrom 47 35 M2) (fun v3 M3 => b2 (f_X9_takeDown 47 (f_X11_bit p1) M3) (fun v5 M5 => tb (f_X11_keepNext M5) (fun v6 M6 => b1 (f_X9_borneByAll 35 M6) (fun v7 => some (.inl v7, M6)))))))
set_option maxRecDepth 8000 in
theorem c_X11_out {p1 : Int32} {M0 : mM} {out : ((Int32 ⊕ Nat) × mM)} (h : f_X11_out p1 M0 = some out) : Cs (12) 114 [.ref 0, .int p1] M0 (emT eI out) := by
  generalize hk : emT eI out = R
  replace hk := hk.symm
  unfold f_X11_out at h
  show Ev (12) 114 0 [some (.ref 0), some (.int p1)] [] M0 R
  refine ev_go kc_114 2 (i' := 2) (L' := [some (.ref 0), some (.int p1)]) (st' := [.int p1, .ref 0]) (M' := M0) rfl ?_
  rcases o_tb h with ⟨v1, M1, hc1, h⟩ | ⟨E1, M1, hc1, h⟩
  rotate_left
  · subst h
    rw [hk]
    exact ev_clT (ins := .invokevirtual 128) kc_114 rfl rfl (a := 170) (as := [.ref 0, .int p1]) (rest := []) rfl rfl rfl rfl (Cs.deep (c_X11_mustBePerson hc1) (by decide))
  refine ev_cl0 (ins := .invokevirtual 128) kc_114 rfl rfl (a := 170) (as := [.ref 0, .int p1]) (rest := []) rfl rfl (Cs.deep (c_X11_mustBePerson hc1) (by decide)) ?_
  refine ev_go kc_114 2 (i' := 5) (L' := [some (.ref 0), some (.int p1)]) (st' := [.int p1, .ref 0]) (M' := M1) rfl ?_
  rcases o_tb h with ⟨v2, M2, hc2, h⟩ | ⟨E2, M2, hc2, h⟩
  rotate_left
  · subst h
    rw [hk]
    exact ev_clT (ins := .invokevirtual 216) kc_114 rfl rfl (a := 175) (as := [.ref 0, .int p1]) (rest := []) rfl rfl rfl rfl (Cs.deep (c_X11_mustBeUp hc2) (by decide))
  refine ev_cl0 (ins := .invokevirtual 216) kc_114 rfl rfl (a := 175) (as := [.ref 0, .int p1]) (rest := []) rfl rfl (Cs.deep (c_X11_mustBeUp hc2) (by decide)) ?_
  refine ev_go kc_114 4 (i' := 10) (L' := [some (.ref 0), some (.int p1)]) (st' := [.ref 35, .ref 47]) (M' := M2) rfl ?_
  obtain ⟨v3, M3, hc3, h⟩ := o_b2 h
  refine ev_cl0 (ins := .invokevirtual 86) kc_114 rfl rfl (a := 73) (as := [.ref 47, .ref 35]) (rest := []) rfl rfl (Cs.deep (c_X9_copyFrom hc3) (by decide)) ?_
  refine ev_go kc_114 3 (i' := 14) (L' := [some (.ref 0), some (.int p1)]) (st' := [.int p1, .ref 47]) (M' := M3) rfl ?_
  refine ev_cl0 (ins := .invokestatic 219) kc_114 rfl rfl (a := 177) (as := [.int p1]) (rest := [.ref 47]) rfl rfl (Cs.deep (c_X11_bit (M0 := M3)) (by decide)) ?_
  obtain ⟨v5, M5, hc5, h⟩ := o_b2 h
  refine ev_cl0 (ins := .invokevirtual 222) kc_114 rfl rfl (a := 85) (as := [.ref 47, .int (f_X11_bit p1)]) (rest := []) rfl rfl (Cs.deep (c_X9_takeDown hc5) (by decide)) ?_
  refine ev_go kc_114 1 (i' := 17) (L' := [some (.ref 0), some (.int p1)]) (st' := [.ref 0]) (M' := M5) rfl ?_
  rcases o_tb h with ⟨v6, M6, hc6, h⟩ | ⟨E6, M6, hc6, h⟩
  rotate_left
  · subst h
    rw [hk]
    exact ev_clT (ins := .invokevirtual 213) kc_114 rfl rfl (a := 120) (as := [.ref 0]) (rest := []) rfl rfl rfl rfl (Cs.deep (c_X11_keepNext hc6) (by decide))
  refine ev_cl0 (ins := .invokevirtual 213) kc_114 rfl rfl (a := 120) (as := [.ref 0]) (rest := []) rfl rfl (Cs.deep (c_X11_keepNext hc6) (by decide)) ?_
  refine ev_go kc_114 2 (i' := 20) (L' := [some (.ref 0), some (.int p1)]) (st' := [.ref 35]) (M' := M6) rfl ?_
  obtain ⟨v7, hc7, h⟩ := o_b1 h
  refine ev_cl0 (ins := .invokevirtual 183) kc_114 rfl rfl (a := 80) (as := [.ref 35]) (rest := []) rfl rfl (Cs.deep (c_X9_borneByAll (M0 := M6) hc7) (by decide)) ?_
  obtain rfl := Option.some.inj h
  rw [hk]
  exact ev_ret kc_114 rfl rfl rfl
/-- WakeTower.relieve(II)I: 115, T -/
theorem kc_115 : mKc 115 = k_X11_relieve := rfl
def f_X11_relieve_12 (l1 : Int32) (l2 : Int32) (s0 : Bool) (M0 : mM) : Option ((Int32 ⊕ Nat) × mM) :=
  tb (f_X11_mustBeOne s0 M0) (fun v1 M1 => b1 (f_X9_canSwap 35 l1 l2 M1) (fun v2 => tb (f_X11_mustBeSo v2 M1) (fun v3 M3 => b2 (f_X9_copyFrom 47 35 M3) (fun v4 M4 => b2 (f_X9_swap 47 l1 l2 M4) (fun v5 M5 => tb (f_X11_keepNext M5) (fun v6 M6 => gd (mIn l2 8) (some (.inl (M6 42 (ix l2)), M6))))))))
set_option maxRecDepth 8000 in
theorem e_X11_relieve_12 {l1 : Int32} {l2 : Int32} {s0 : Bool} {M0 : mM} {R : mZ} {out : ((Int32 ⊕ Nat) × mM)}  (h : f_X11_relieve_12 l1 l2 s0 M0 = some out) (hk : R = emT eI out) : Ev (12) 115 12 [some (.ref 0), some (.int l1), some (.int l2)] [.int (mB s0)] M0 R := by
  unfold f_X11_relieve_12 at h
  rcases o_tb h with ⟨v1, M1, hc1, h⟩ | ⟨E1, M1, hc1, h⟩
  rotate_left
  · subst h
    rw [hk]
    exact ev_clT (ins := .invokestatic 186) kc_115 rfl rfl (a := 172) (as := [.int (mB s0)]) (rest := []) rfl rfl rfl rfl (Cs.deep (c_X11_mustBeOne hc1) (by decide))
  refine ev_cl0 (ins := .invokestatic 186) kc_115 rfl rfl (a := 172) (as := [.int (mB s0)]) (rest := []) rfl rfl (Cs.deep (c_X11_mustBeOne hc1) (by decide)) ?_
  refine ev_go kc_115 4 (i' := 17) (L' := [some (.ref 0), some (.int l1), some (.int l2)]) (st' := [.int l2, .int l1, .ref 35]) (M' := M1) rfl ?_
  obtain ⟨v2, hc2, h⟩ := o_b1 h
  refine ev_cl0 (ins := .invokevirtual 225) kc_115 rfl rfl (a := 86) (as := [.ref 35, .int l1, .int l2]) (rest := []) rfl rfl (Cs.deep (c_X9_canSwap (M0 := M1) hc2) (by decide)) ?_
  rcases o_tb h with ⟨v3, M3, hc3, h⟩ | ⟨E3, M3, hc3, h⟩
  rotate_left
  · subst h
    rw [hk]
    exact ev_clT (ins := .invokestatic 206) kc_115 rfl rfl (a := 173) (as := [.int (mB v2)]) (rest := []) rfl rfl rfl rfl (Cs.deep (c_X11_mustBeSo hc3) (by decide))
  refine ev_cl0 (ins := .invokestatic 206) kc_115 rfl rfl (a := 173) (as := [.int (mB v2)]) (rest := []) rfl rfl (Cs.deep (c_X11_mustBeSo hc3) (by decide)) ?_
  refine ev_go kc_115 4 (i' := 23) (L' := [some (.ref 0), some (.int l1), some (.int l2)]) (st' := [.ref 35, .ref 47]) (M' := M3) rfl ?_
  obtain ⟨v4, M4, hc4, h⟩ := o_b2 h
  refine ev_cl0 (ins := .invokevirtual 86) kc_115 rfl rfl (a := 73) (as := [.ref 47, .ref 35]) (rest := []) rfl rfl (Cs.deep (c_X9_copyFrom hc4) (by decide)) ?_
  refine ev_go kc_115 4 (i' := 28) (L' := [some (.ref 0), some (.int l1), some (.int l2)]) (st' := [.int l2, .int l1, .ref 47]) (M' := M4) rfl ?_
  obtain ⟨v5, M5, hc5, h⟩ := o_b2 h
  refine ev_cl0 (ins := .invokevirtual 228) kc_115 rfl rfl (a := 87) (as := [.ref 47, .int l1, .int l2]) (rest := []) rfl rfl (Cs.deep (c_X9_swap hc5) (by decide)) ?_
  refine ev_go kc_115 1 (i' := 30) (L' := [some (.ref 0), some (.int l1), some (.int l2)]) (st' := [.ref 0]) (M' := M5) rfl ?_
  rcases o_tb h with ⟨v6, M6, hc6, h⟩ | ⟨E6, M6, hc6, h⟩
  rotate_left
  · subst h
    rw [hk]
    exact ev_clT (ins := .invokevirtual 213) kc_115 rfl rfl (a := 120) (as := [.ref 0]) (rest := []) rfl rfl rfl rfl (Cs.deep (c_X11_keepNext hc6) (by decide))
  refine ev_cl0 (ins := .invokevirtual 213) kc_115 rfl rfl (a := 120) (as := [.ref 0]) (rest := []) rfl rfl (Cs.deep (c_X11_keepNext hc6) (by decide)) ?_
  refine ev_go kc_115 4 (i' := 35) (L' := [some (.ref 0), some (.int l1), some (.int l2)]) (st' := [.int l2, .ref 42]) (M' := M6) rfl ?_
  obtain ⟨hg7, h⟩ := o_gd h
  refine ev_ia kc_115 rfl rfl hg7 ?_
  obtain rfl := Option.some.inj h
  rw [hk]
  exact ev_ret kc_115 rfl rfl rfl
def f_X11_relieve (p1 : Int32) (p2 : Int32) (M0 : mM) : Option ((Int32 ⊕ Nat) × mM) :=
  tb (f_X11_mustBePerson p1 M0) (fun v8 M8 => tb (f_X11_mustBePerson p2 M8) (fun v9 M9 => bif decide (p1 = p2) then (f_X11_relieve_12 p1 p2 false M9) else (f_X11_relieve_12 p1 p2 true M9)))
set_option maxRecDepth 8000 in
theorem c_X11_relieve {p1 : Int32} {p2 : Int32} {M0 : mM} {out : ((Int32 ⊕ Nat) × mM)} (h : f_X11_relieve p1 p2 M0 = some out) : Cs (12) 115 [.ref 0, .int p1, .int p2] M0 (emT eI out) := by
  generalize hk : emT eI out = R
  replace hk := hk.symm
  unfold f_X11_relieve at h
  show Ev (12) 115 0 [some (.ref 0), some (.int p1), some (.int p2)] [] M0 R
  refine ev_go kc_115 2 (i' := 2) (L' := [some (.ref 0), some (.int p1), some (.int p2)]) (st' := [.int p1, .ref 0]) (M' := M0) rfl ?_
  rcases o_tb h with ⟨v8, M8, hc8, h⟩ | ⟨E8, M8, hc8, h⟩
  rotate_left
  · subst h
    rw [hk]
    exact ev_clT (ins := .invokevirtual 128) kc_115 rfl rfl (a := 170) (as := [.ref 0, .int p1]) (rest := []) rfl rfl rfl rfl (Cs.deep (c_X11_mustBePerson hc8) (by decide))
  refine ev_cl0 (ins := .invokevirtual 128) kc_115 rfl rfl (a := 170) (as := [.ref 0, .int p1]) (rest := []) rfl rfl (Cs.deep (c_X11_mustBePerson hc8) (by decide)) ?_
  refine ev_go kc_115 2 (i' := 5) (L' := [some (.ref 0), some (.int p1), some (.int p2)]) (st' := [.int p2, .ref 0]) (M' := M8) rfl ?_
  rcases o_tb h with ⟨v9, M9, hc9, h⟩ | ⟨E9, M9, hc9, h⟩
  rotate_left
  · subst h
    rw [hk]
    exact ev_clT (ins := .invokevirtual 128) kc_115 rfl rfl (a := 170) (as := [.ref 0, .int p2]) (rest := []) rfl rfl rfl rfl (Cs.deep (c_X11_mustBePerson hc9) (by decide))
  refine ev_cl0 (ins := .invokevirtual 128) kc_115 rfl rfl (a := 170) (as := [.ref 0, .int p2]) (rest := []) rfl rfl (Cs.deep (c_X11_mustBePerson hc9) (by decide)) ?_
  rcases o_bif h with ⟨hb10, h⟩ | ⟨hb10, h⟩
  · refine ev_goT kc_115 3 (t := 11) (e := 9) (L' := [some (.ref 0), some (.int p1), some (.int p2)]) (st' := []) rfl hb10 ?_
    refine ev_go kc_115 1 (i' := 12) (L' := [some (.ref 0), some (.int p1), some (.int p2)]) (st' := [.int (0 : Int32)]) (M' := M9) rfl ?_
    exact Ev.forget (mLe.kp (mLe.kp (mLe.kp mLe.nl))) (e_X11_relieve_12  h hk)
  · refine ev_goF kc_115 3 (t := 11) (e := 9) (L' := [some (.ref 0), some (.int p1), some (.int p2)]) (st' := []) rfl hb10 ?_
    refine ev_go kc_115 2 (i' := 12) (L' := [some (.ref 0), some (.int p1), some (.int p2)]) (st' := [.int (1 : Int32)]) (M' := M9) rfl ?_
    exact Ev.forget (mLe.kp (mLe.kp (mLe.kp mLe.nl))) (e_X11_relieve_12  h hk)
/-- WakeTower.lean(II)I: 116, T -/
theorem kc_116 : mKc 116 = k_X11_lean := rfl
def f_X11_lean_29 (l1 : Int32) (l4 : Int32) (s0 : Bool) (M0 : mM) : Option ((Int32 ⊕ Nat) × mM) :=
  tb (f_X11_mustBeSo s0 M0) (fun v1 M1 => gd (mIn l1 8) (b2 (f_X9_copyFrom 47 35 M1) (fun v3 M3 => gd (mIn l1 8) (wr (mst M3 53 (ix l1) l4) (fun M4 => tb (f_X11_keepNext M4) (fun v6 M6 => some (.inl (M1 41 (ix l1)), M6)))))))
set_option maxRecDepth 8000 in
theorem e_X11_lean_29 {l1 : Int32} {l4 : Int32} {s0 : Bool} {M0 : mM} {R : mZ} {out : ((Int32 ⊕ Nat) × mM)}  (h : f_X11_lean_29 l1 l4 s0 M0 = some out) (hk : R = emT eI out) : Ev (12) 116 29 [some (.ref 0), some (.int l1), none, none, some (.int l4), none] [.int (mB s0)] M0 R := by
  unfold f_X11_lean_29 at h
  rcases o_tb h with ⟨v1, M1, hc1, h⟩ | ⟨E1, M1, hc1, h⟩
  rotate_left
  · subst h
    rw [hk]
    exact ev_clT (ins := .invokestatic 206) kc_116 rfl rfl (a := 173) (as := [.int (mB s0)]) (rest := []) rfl rfl rfl rfl (Cs.deep (c_X11_mustBeSo hc1) (by decide))
  refine ev_cl0 (ins := .invokestatic 206) kc_116 rfl rfl (a := 173) (as := [.int (mB s0)]) (rest := []) rfl rfl (Cs.deep (c_X11_mustBeSo hc1) (by decide)) ?_
  refine ev_go kc_116 4 (i' := 34) (L' := [some (.ref 0), some (.int l1), none, none, some (.int l4), none]) (st' := [.int l1, .ref 41]) (M' := M1) rfl ?_
  obtain ⟨hg2, h⟩ := o_gd h
  refine ev_ia kc_116 rfl rfl hg2 ?_
  refine ev_go kc_116 5 (i' := 40) (L' := [some (.ref 0), some (.int l1), none, none, some (.int l4), some (.int (M1 41 (ix l1)))]) (st' := [.ref 35, .ref 47]) (M' := M1) rfl ?_
  obtain ⟨v3, M3, hc3, h⟩ := o_b2 h
  refine ev_cl0 (ins := .invokevirtual 86) kc_116 rfl rfl (a := 73) (as := [.ref 47, .ref 35]) (rest := []) rfl rfl (Cs.deep (c_X9_copyFrom hc3) (by decide)) ?_
  refine ev_go kc_116 5 (i' := 46) (L' := [some (.ref 0), some (.int l1), none, none, some (.int l4), some (.int (M1 41 (ix l1)))]) (st' := [.int l4, .int l1, .ref 53]) (M' := M3) rfl ?_
  obtain ⟨hg5, h⟩ := o_gd h
  obtain ⟨M4, hM4, h⟩ := o_wr h
  refine ev_is kc_116 rfl rfl hg5 hM4 ?_
  refine ev_go kc_116 1 (i' := 48) (L' := [some (.ref 0), some (.int l1), none, none, some (.int l4), some (.int (M1 41 (ix l1)))]) (st' := [.ref 0]) (M' := M4) rfl ?_
  rcases o_tb h with ⟨v6, M6, hc6, h⟩ | ⟨E6, M6, hc6, h⟩
  rotate_left
  · subst h
    rw [hk]
    exact ev_clT (ins := .invokevirtual 213) kc_116 rfl rfl (a := 120) (as := [.ref 0]) (rest := []) rfl rfl rfl rfl (Cs.deep (c_X11_keepNext hc6) (by decide))
  refine ev_cl0 (ins := .invokevirtual 213) kc_116 rfl rfl (a := 120) (as := [.ref 0]) (rest := []) rfl rfl (Cs.deep (c_X11_keepNext hc6) (by decide)) ?_
  refine ev_go kc_116 1 (i' := 50) (L' := [some (.ref 0), some (.int l1), none, none, some (.int l4), some (.int (M1 41 (ix l1)))]) (st' := [.int (M1 41 (ix l1))]) (M' := M6) rfl ?_
  obtain rfl := Option.some.inj h
  rw [hk]
  exact ev_ret kc_116 rfl rfl rfl
def f_X11_lean_28 (l1 : Int32) (l4 : Int32) (M0 : mM) : Option ((Int32 ⊕ Nat) × mM) :=
  f_X11_lean_29 l1 l4 false M0
set_option maxRecDepth 8000 in
theorem e_X11_lean_28 {l1 : Int32} {l4 : Int32} {M0 : mM} {R : mZ} {out : ((Int32 ⊕ Nat) × mM)}  (h : f_X11_lean_28 l1 l4 M0 = some out) (hk : R = emT eI out) : Ev (12) 116 28 [some (.ref 0), some (.int l1), none, none, some (.int l4), none] [] M0 R := by
  unfold f_X11_lean_28 at h
  refine ev_go kc_116 1 (i' := 29) (L' := [some (.ref 0), some (.int l1), none, none, some (.int l4), none]) (st' := [.int (0 : Int32)]) (M' := M0) rfl ?_
  exact Ev.forget (mLe.kp (mLe.kp (mLe.sk (mLe.sk (mLe.kp (mLe.sk mLe.nl)))))) (e_X11_lean_29  h hk)
def f_X11_lean (p1 : Int32) (p2 : Int32) (M0 : mM) : Option ((Int32 ⊕ Nat) × mM) :=
  tb (f_X11_mustBePerson p1 M0) (fun v7 M7 => tb (f_X11_mustBeUp p1 M7) (fun v8 M8 => gd (mIn p1 8) (b1 (f_X9_everyone 35 M8) (fun v10 => bif decide ((M8 40 (ix p1)) ≤ 0) then (f_X11_lean_28 p1 (p2 &&& v10) M8) else (b1 (f_X9_fitsRing 35 (M8 40 (ix p1)) (p2 &&& v10) M8) (fun v12 => bif v12 then (f_X11_lean_29 p1 (p2 &&& v10) true M8) else (f_X11_lean_28 p1 (p2 &&& v10) M8)))))))
set_option maxRecDepth 8000 in
theorem c_X11_lean {p1 : Int32} {p2 : Int32} {M0 : mM} {out : ((Int32 ⊕ Nat) × mM)} (h : f_X11_lean p1 p2 M0 = some out) : Cs (12) 116 [.ref 0, .int p1, .int p2] M0 (emT eI out) := by
  generalize hk : emT eI out = R
  replace hk := hk.symm
  unfold f_X11_lean at h
  show Ev (12) 116 0 [some (.ref 0), some (.int p1), some (.int p2), none, none, none] [] M0 R
  refine ev_go kc_116 2 (i' := 2) (L' := [some (.ref 0), some (.int p1), some (.int p2), none, none, none]) (st' := [.int p1, .ref 0]) (M' := M0) rfl ?_
  rcases o_tb h with ⟨v7, M7, hc7, h⟩ | ⟨E7, M7, hc7, h⟩
  rotate_left
  · subst h
    rw [hk]
    exact ev_clT (ins := .invokevirtual 128) kc_116 rfl rfl (a := 170) (as := [.ref 0, .int p1]) (rest := []) rfl rfl rfl rfl (Cs.deep (c_X11_mustBePerson hc7) (by decide))
  refine ev_cl0 (ins := .invokevirtual 128) kc_116 rfl rfl (a := 170) (as := [.ref 0, .int p1]) (rest := []) rfl rfl (Cs.deep (c_X11_mustBePerson hc7) (by decide)) ?_
  refine ev_go kc_116 2 (i' := 5) (L' := [some (.ref 0), some (.int p1), some (.int p2), none, none, none]) (st' := [.int p1, .ref 0]) (M' := M7) rfl ?_
  rcases o_tb h with ⟨v8, M8, hc8, h⟩ | ⟨E8, M8, hc8, h⟩
  rotate_left
  · subst h
    rw [hk]
    exact ev_clT (ins := .invokevirtual 216) kc_116 rfl rfl (a := 175) (as := [.ref 0, .int p1]) (rest := []) rfl rfl rfl rfl (Cs.deep (c_X11_mustBeUp hc8) (by decide))
  refine ev_cl0 (ins := .invokevirtual 216) kc_116 rfl rfl (a := 175) (as := [.ref 0, .int p1]) (rest := []) rfl rfl (Cs.deep (c_X11_mustBeUp hc8) (by decide)) ?_
  refine ev_go kc_116 4 (i' := 10) (L' := [some (.ref 0), some (.int p1), some (.int p2), none, none, none]) (st' := [.int p1, .ref 40]) (M' := M8) rfl ?_
  obtain ⟨hg9, h⟩ := o_gd h
  refine ev_ia kc_116 rfl rfl hg9 ?_
  refine ev_go kc_116 4 (i' := 15) (L' := [some (.ref 0), some (.int p1), some (.int p2), some (.int (M8 40 (ix p1))), none, none]) (st' := [.ref 35, .int p2]) (M' := M8) rfl ?_
  obtain ⟨v10, hc10, h⟩ := o_b1 h
  refine ev_cl0 (ins := .invokevirtual 200) kc_116 rfl rfl (a := 75) (as := [.ref 35]) (rest := [.int p2]) rfl rfl (Cs.deep (c_X9_everyone (M0 := M8) hc10) (by decide)) ?_
  rcases o_bif h with ⟨hb11, h⟩ | ⟨hb11, h⟩
  · refine ev_goT kc_116 4 (t := 28) (e := 20) (L' := [some (.ref 0), some (.int p1), some (.int p2), some (.int (M8 40 (ix p1))), some (.int (p2 &&& v10)), none]) (st' := []) rfl hb11 ?_
    exact Ev.forget (mLe.kp (mLe.kp (mLe.sk (mLe.sk (mLe.kp (mLe.sk mLe.nl)))))) (e_X11_lean_28  h hk)
  · refine ev_goF kc_116 4 (t := 28) (e := 20) (L' := [some (.ref 0), some (.int p1), some (.int p2), some (.int (M8 40 (ix p1))), some (.int (p2 &&& v10)), none]) (st' := []) rfl hb11 ?_
    refine ev_go kc_116 4 (i' := 24) (L' := [some (.ref 0), some (.int p1), some (.int p2), some (.int (M8 40 (ix p1))), some (.int (p2 &&& v10)), none]) (st' := [.int (p2 &&& v10), .int (M8 40 (ix p1)), .ref 35]) (M' := M8) rfl ?_
    obtain ⟨v12, hc12, h⟩ := o_b1 h
    refine ev_cl0 (ins := .invokevirtual 203) kc_116 rfl rfl (a := 83) (as := [.ref 35, .int (M8 40 (ix p1)), .int (p2 &&& v10)]) (rest := []) rfl rfl (Cs.deep (c_X9_fitsRing (M0 := M8) hc12) (by decide)) ?_
    rcases o_bif h with ⟨hb13, h⟩ | ⟨hb13, h⟩
    · refine ev_goF kc_116 1 (t := 28) (e := 26) (L' := [some (.ref 0), some (.int p1), some (.int p2), some (.int (M8 40 (ix p1))), some (.int (p2 &&& v10)), none]) (st' := []) rfl (mB_e0f hb13) ?_
      refine ev_go kc_116 2 (i' := 29) (L' := [some (.ref 0), some (.int p1), some (.int p2), some (.int (M8 40 (ix p1))), some (.int (p2 &&& v10)), none]) (st' := [.int (1 : Int32)]) (M' := M8) rfl ?_
      exact Ev.forget (mLe.kp (mLe.kp (mLe.sk (mLe.sk (mLe.kp (mLe.sk mLe.nl)))))) (e_X11_lean_29  h hk)
    · refine ev_goT kc_116 1 (t := 28) (e := 26) (L' := [some (.ref 0), some (.int p1), some (.int p2), some (.int (M8 40 (ix p1))), some (.int (p2 &&& v10)), none]) (st' := []) rfl (mB_e0t hb13) ?_
      exact Ev.forget (mLe.kp (mLe.kp (mLe.sk (mLe.sk (mLe.kp (mLe.sk mLe.nl)))))) (e_X11_lean_28  h hk)
/-- WakeTower.wake(I)I: 117, T -/
theorem kc_117 : mKc 117 = k_X11_wake := rfl
def f_X11_wake (p1 : Int32) (M0 : mM) : Option ((Int32 ⊕ Nat) × mM) :=
  tb (f_X11_mustBePerson p1 M0) (fun v1 M1 => tb (f_X11_mustBeSo (f_X11_has (M1 35 2) p1) M1) (fun v3 M3 => b2 (f_X9_copyFrom 47 35 M3) (fun v4 M4 => wr (mst M4 47 2 ((M4 47 2) &&& ((f_X11_bit p1) ^^^ (-1 : Int32)))) (fun M6 => tb (f_X11_keepNext M6) (fun v7 M7 => gd (mIn p1 8) (some (.inl (M7 42 (ix p1)), M7)))))))
set_option maxRecDepth 8000 in
theorem c_X11_wake {p1 : Int32} {M0 : mM} {out : ((Int32 ⊕ Nat) × mM)} (h : f_X11_wake p1 M0 = some out) : Cs (12) 117 [.ref 0, .int p1] M0 (emT eI out) := by
  generalize hk : emT eI out = R
  replace hk := hk.symm
  unfold f_X11_wake at h
  show Ev (12) 117 0 [some (.ref 0), some (.int p1)] [] M0 R
  refine ev_go kc_117 2 (i' := 2) (L' := [some (.ref 0), some (.int p1)]) (st' := [.int p1, .ref 0]) (M' := M0) rfl ?_
  rcases o_tb h with ⟨v1, M1, hc1, h⟩ | ⟨E1, M1, hc1, h⟩
  rotate_left
  · subst h
    rw [hk]
    exact ev_clT (ins := .invokevirtual 128) kc_117 rfl rfl (a := 170) (as := [.ref 0, .int p1]) (rest := []) rfl rfl rfl rfl (Cs.deep (c_X11_mustBePerson hc1) (by decide))
  refine ev_cl0 (ins := .invokevirtual 128) kc_117 rfl rfl (a := 170) (as := [.ref 0, .int p1]) (rest := []) rfl rfl (Cs.deep (c_X11_mustBePerson hc1) (by decide)) ?_
  refine ev_go kc_117 4 (i' := 7) (L' := [some (.ref 0), some (.int p1)]) (st' := [.int p1, .int (M1 35 2)]) (M' := M1) rfl ?_
  refine ev_cl0 (ins := .invokestatic 134) kc_117 rfl rfl (a := 178) (as := [.int (M1 35 2), .int p1]) (rest := []) rfl rfl (Cs.deep (c_X11_has (M0 := M1)) (by decide)) ?_
  rcases o_tb h with ⟨v3, M3, hc3, h⟩ | ⟨E3, M3, hc3, h⟩
  rotate_left
  · subst h
    rw [hk]
    exact ev_clT (ins := .invokestatic 206) kc_117 rfl rfl (a := 173) (as := [.int (mB (f_X11_has (M1 35 2) p1))]) (rest := []) rfl rfl rfl rfl (Cs.deep (c_X11_mustBeSo hc3) (by decide))
  refine ev_cl0 (ins := .invokestatic 206) kc_117 rfl rfl (a := 173) (as := [.int (mB (f_X11_has (M1 35 2) p1))]) (rest := []) rfl rfl (Cs.deep (c_X11_mustBeSo hc3) (by decide)) ?_
  refine ev_go kc_117 4 (i' := 13) (L' := [some (.ref 0), some (.int p1)]) (st' := [.ref 35, .ref 47]) (M' := M3) rfl ?_
  obtain ⟨v4, M4, hc4, h⟩ := o_b2 h
  refine ev_cl0 (ins := .invokevirtual 86) kc_117 rfl rfl (a := 73) (as := [.ref 47, .ref 35]) (rest := []) rfl rfl (Cs.deep (c_X9_copyFrom hc4) (by decide)) ?_
  refine ev_go kc_117 5 (i' := 19) (L' := [some (.ref 0), some (.int p1)]) (st' := [.int p1, .int (M4 47 2), .ref 47]) (M' := M4) rfl ?_
  refine ev_cl0 (ins := .invokestatic 219) kc_117 rfl rfl (a := 177) (as := [.int p1]) (rest := [.int (M4 47 2), .ref 47]) rfl rfl (Cs.deep (c_X11_bit (M0 := M4)) (by decide)) ?_
  refine ev_go kc_117 3 (i' := 23) (L' := [some (.ref 0), some (.int p1)]) (st' := [.int ((M4 47 2) &&& ((f_X11_bit p1) ^^^ (-1 : Int32))), .ref 47]) (M' := M4) rfl ?_
  obtain ⟨M6, hM6, h⟩ := o_wr h
  refine ev_pf kc_117 rfl rfl rfl rfl (fun hc => absurd hc (by decide)) hM6 ?_
  refine ev_go kc_117 1 (i' := 25) (L' := [some (.ref 0), some (.int p1)]) (st' := [.ref 0]) (M' := M6) rfl ?_
  rcases o_tb h with ⟨v7, M7, hc7, h⟩ | ⟨E7, M7, hc7, h⟩
  rotate_left
  · subst h
    rw [hk]
    exact ev_clT (ins := .invokevirtual 213) kc_117 rfl rfl (a := 120) (as := [.ref 0]) (rest := []) rfl rfl rfl rfl (Cs.deep (c_X11_keepNext hc7) (by decide))
  refine ev_cl0 (ins := .invokevirtual 213) kc_117 rfl rfl (a := 120) (as := [.ref 0]) (rest := []) rfl rfl (Cs.deep (c_X11_keepNext hc7) (by decide)) ?_
  refine ev_go kc_117 4 (i' := 30) (L' := [some (.ref 0), some (.int p1)]) (st' := [.int p1, .ref 42]) (M' := M7) rfl ?_
  obtain ⟨hg8, h⟩ := o_gd h
  refine ev_ia kc_117 rfl rfl hg8 ?_
  obtain rfl := Option.some.inj h
  rw [hk]
  exact ev_ret kc_117 rfl rfl rfl
/-- WakeTower.sleep(I)I: 118, T -/
theorem kc_118 : mKc 118 = k_X11_sleep := rfl
def f_X11_sleep_12 (l1 : Int32) (s0 : Bool) (M0 : mM) : Option ((Int32 ⊕ Nat) × mM) :=
  tb (f_X11_mustBeSo s0 M0) (fun v1 M1 => b2 (f_X9_copyFrom 47 35 M1) (fun v2 M2 => wr (mst M2 47 2 ((M2 47 2) ||| (f_X11_bit l1))) (fun M4 => tb (f_X11_keepNext M4) (fun v5 M5 => b1 (f_X9_borneByAll 35 M5) (fun v6 => some (.inl v6, M5))))))
set_option maxRecDepth 8000 in
theorem e_X11_sleep_12 {l1 : Int32} {s0 : Bool} {M0 : mM} {R : mZ} {out : ((Int32 ⊕ Nat) × mM)}  (h : f_X11_sleep_12 l1 s0 M0 = some out) (hk : R = emT eI out) : Ev (12) 118 12 [some (.ref 0), some (.int l1)] [.int (mB s0)] M0 R := by
  unfold f_X11_sleep_12 at h
  rcases o_tb h with ⟨v1, M1, hc1, h⟩ | ⟨E1, M1, hc1, h⟩
  rotate_left
  · subst h
    rw [hk]
    exact ev_clT (ins := .invokestatic 206) kc_118 rfl rfl (a := 173) (as := [.int (mB s0)]) (rest := []) rfl rfl rfl rfl (Cs.deep (c_X11_mustBeSo hc1) (by decide))
  refine ev_cl0 (ins := .invokestatic 206) kc_118 rfl rfl (a := 173) (as := [.int (mB s0)]) (rest := []) rfl rfl (Cs.deep (c_X11_mustBeSo hc1) (by decide)) ?_
  refine ev_go kc_118 4 (i' := 17) (L' := [some (.ref 0), some (.int l1)]) (st' := [.ref 35, .ref 47]) (M' := M1) rfl ?_
  obtain ⟨v2, M2, hc2, h⟩ := o_b2 h
  refine ev_cl0 (ins := .invokevirtual 86) kc_118 rfl rfl (a := 73) (as := [.ref 47, .ref 35]) (rest := []) rfl rfl (Cs.deep (c_X9_copyFrom hc2) (by decide)) ?_
  refine ev_go kc_118 5 (i' := 23) (L' := [some (.ref 0), some (.int l1)]) (st' := [.int l1, .int (M2 47 2), .ref 47]) (M' := M2) rfl ?_
  refine ev_cl0 (ins := .invokestatic 219) kc_118 rfl rfl (a := 177) (as := [.int l1]) (rest := [.int (M2 47 2), .ref 47]) rfl rfl (Cs.deep (c_X11_bit (M0 := M2)) (by decide)) ?_
  refine ev_go kc_118 1 (i' := 25) (L' := [some (.ref 0), some (.int l1)]) (st' := [.int ((M2 47 2) ||| (f_X11_bit l1)), .ref 47]) (M' := M2) rfl ?_
  obtain ⟨M4, hM4, h⟩ := o_wr h
  refine ev_pf kc_118 rfl rfl rfl rfl (fun hc => absurd hc (by decide)) hM4 ?_
  refine ev_go kc_118 1 (i' := 27) (L' := [some (.ref 0), some (.int l1)]) (st' := [.ref 0]) (M' := M4) rfl ?_
  rcases o_tb h with ⟨v5, M5, hc5, h⟩ | ⟨E5, M5, hc5, h⟩
  rotate_left
  · subst h
    rw [hk]
    exact ev_clT (ins := .invokevirtual 213) kc_118 rfl rfl (a := 120) (as := [.ref 0]) (rest := []) rfl rfl rfl rfl (Cs.deep (c_X11_keepNext hc5) (by decide))
  refine ev_cl0 (ins := .invokevirtual 213) kc_118 rfl rfl (a := 120) (as := [.ref 0]) (rest := []) rfl rfl (Cs.deep (c_X11_keepNext hc5) (by decide)) ?_
  refine ev_go kc_118 2 (i' := 30) (L' := [some (.ref 0), some (.int l1)]) (st' := [.ref 35]) (M' := M5) rfl ?_
  obtain ⟨v6, hc6, h⟩ := o_b1 h
  refine ev_cl0 (ins := .invokevirtual 183) kc_118 rfl rfl (a := 80) (as := [.ref 35]) (rest := []) rfl rfl (Cs.deep (c_X9_borneByAll (M0 := M5) hc6) (by decide)) ?_
  obtain rfl := Option.some.inj h
  rw [hk]
  exact ev_ret kc_118 rfl rfl rfl
def f_X11_sleep (p1 : Int32) (M0 : mM) : Option ((Int32 ⊕ Nat) × mM) :=
  tb (f_X11_mustBePerson p1 M0) (fun v7 M7 => bif (f_X11_has (M7 35 2) p1) then (f_X11_sleep_12 p1 false M7) else (f_X11_sleep_12 p1 true M7))
set_option maxRecDepth 8000 in
theorem c_X11_sleep {p1 : Int32} {M0 : mM} {out : ((Int32 ⊕ Nat) × mM)} (h : f_X11_sleep p1 M0 = some out) : Cs (12) 118 [.ref 0, .int p1] M0 (emT eI out) := by
  generalize hk : emT eI out = R
  replace hk := hk.symm
  unfold f_X11_sleep at h
  show Ev (12) 118 0 [some (.ref 0), some (.int p1)] [] M0 R
  refine ev_go kc_118 2 (i' := 2) (L' := [some (.ref 0), some (.int p1)]) (st' := [.int p1, .ref 0]) (M' := M0) rfl ?_
  rcases o_tb h with ⟨v7, M7, hc7, h⟩ | ⟨E7, M7, hc7, h⟩
  rotate_left
  · subst h
    rw [hk]
    exact ev_clT (ins := .invokevirtual 128) kc_118 rfl rfl (a := 170) (as := [.ref 0, .int p1]) (rest := []) rfl rfl rfl rfl (Cs.deep (c_X11_mustBePerson hc7) (by decide))
  refine ev_cl0 (ins := .invokevirtual 128) kc_118 rfl rfl (a := 170) (as := [.ref 0, .int p1]) (rest := []) rfl rfl (Cs.deep (c_X11_mustBePerson hc7) (by decide)) ?_
  refine ev_go kc_118 4 (i' := 7) (L' := [some (.ref 0), some (.int p1)]) (st' := [.int p1, .int (M7 35 2)]) (M' := M7) rfl ?_
  refine ev_cl0 (ins := .invokestatic 134) kc_118 rfl rfl (a := 178) (as := [.int (M7 35 2), .int p1]) (rest := []) rfl rfl (Cs.deep (c_X11_has (M0 := M7)) (by decide)) ?_
  rcases o_bif h with ⟨hb9, h⟩ | ⟨hb9, h⟩
  · refine ev_goT kc_118 1 (t := 11) (e := 9) (L' := [some (.ref 0), some (.int p1)]) (st' := []) rfl (mB_n0t hb9) ?_
    refine ev_go kc_118 1 (i' := 12) (L' := [some (.ref 0), some (.int p1)]) (st' := [.int (0 : Int32)]) (M' := M7) rfl ?_
    exact Ev.forget (mLe.kp (mLe.kp mLe.nl)) (e_X11_sleep_12  h hk)
  · refine ev_goF kc_118 1 (t := 11) (e := 9) (L' := [some (.ref 0), some (.int p1)]) (st' := []) rfl (mB_n0f hb9) ?_
    refine ev_go kc_118 2 (i' := 12) (L' := [some (.ref 0), some (.int p1)]) (st' := [.int (1 : Int32)]) (M' := M7) rfl ?_
    exact Ev.forget (mLe.kp (mLe.kp mLe.nl)) (e_X11_sleep_12  h hk)
/-- WakeTower.need(I)I: 119, T -/
theorem kc_119 : mKc 119 = k_X11_need := rfl
def f_X11_need_8 (l1 : Int32) (s0 : Bool) (M0 : mM) : Option ((Int32 ⊕ Nat) × mM) :=
  tb (f_X11_mustBeOne s0 M0) (fun v1 M1 => b2 (f_X3_remember 35 M1) (fun v2 M2 => wr (mst M2 35 5 l1) (fun M3 => some (.inl (M1 35 5), M3))))
set_option maxRecDepth 8000 in
theorem e_X11_need_8 {l1 : Int32} {s0 : Bool} {M0 : mM} {R : mZ} {out : ((Int32 ⊕ Nat) × mM)}  (h : f_X11_need_8 l1 s0 M0 = some out) (hk : R = emT eI out) : Ev (11) 119 8 [some (.ref 0), some (.int l1), none] [.int (mB s0)] M0 R := by
  unfold f_X11_need_8 at h
  rcases o_tb h with ⟨v1, M1, hc1, h⟩ | ⟨E1, M1, hc1, h⟩
  rotate_left
  · subst h
    rw [hk]
    exact ev_clT (ins := .invokestatic 186) kc_119 rfl rfl (a := 172) (as := [.int (mB s0)]) (rest := []) rfl rfl rfl rfl (Cs.deep (c_X11_mustBeOne hc1) (by decide))
  refine ev_cl0 (ins := .invokestatic 186) kc_119 rfl rfl (a := 172) (as := [.int (mB s0)]) (rest := []) rfl rfl (Cs.deep (c_X11_mustBeOne hc1) (by decide)) ?_
  refine ev_go kc_119 8 (i' := 17) (L' := [some (.ref 0), some (.int l1), some (.int (M1 35 5))]) (st' := [.ref 35, .ref 3]) (M' := M1) rfl ?_
  obtain ⟨v2, M2, hc2, h⟩ := o_b2 h
  refine ev_cl0 (ins := .invokevirtual 190) kc_119 rfl rfl (a := 34) (as := [.ref 3, .ref 35]) (rest := []) rfl rfl (Cs.deep (c_X3_remember hc2) (by decide)) ?_
  refine ev_go kc_119 3 (i' := 21) (L' := [some (.ref 0), some (.int l1), some (.int (M1 35 5))]) (st' := [.int l1, .ref 35]) (M' := M2) rfl ?_
  obtain ⟨M3, hM3, h⟩ := o_wr h
  refine ev_pf kc_119 rfl rfl rfl rfl (fun hc => absurd hc (by decide)) hM3 ?_
  refine ev_go kc_119 1 (i' := 23) (L' := [some (.ref 0), some (.int l1), some (.int (M1 35 5))]) (st' := [.int (M1 35 5)]) (M' := M3) rfl ?_
  obtain rfl := Option.some.inj h
  rw [hk]
  exact ev_ret kc_119 rfl rfl rfl
def f_X11_need_7 (l1 : Int32) (M0 : mM) : Option ((Int32 ⊕ Nat) × mM) :=
  f_X11_need_8 l1 false M0
set_option maxRecDepth 8000 in
theorem e_X11_need_7 {l1 : Int32} {M0 : mM} {R : mZ} {out : ((Int32 ⊕ Nat) × mM)}  (h : f_X11_need_7 l1 M0 = some out) (hk : R = emT eI out) : Ev (11) 119 7 [some (.ref 0), some (.int l1), none] [] M0 R := by
  unfold f_X11_need_7 at h
  refine ev_go kc_119 1 (i' := 8) (L' := [some (.ref 0), some (.int l1), none]) (st' := [.int (0 : Int32)]) (M' := M0) rfl ?_
  exact Ev.forget (mLe.kp (mLe.kp (mLe.sk mLe.nl))) (e_X11_need_8  h hk)
def f_X11_need (p1 : Int32) (M0 : mM) : Option ((Int32 ⊕ Nat) × mM) :=
  bif decide (p1 < 0) then (f_X11_need_7 p1 M0) else (bif decide ((8 : Int32) < p1) then (f_X11_need_7 p1 M0) else (f_X11_need_8 p1 true M0))
set_option maxRecDepth 8000 in
theorem c_X11_need {p1 : Int32} {M0 : mM} {out : ((Int32 ⊕ Nat) × mM)} (h : f_X11_need p1 M0 = some out) : Cs (11) 119 [.ref 0, .int p1] M0 (emT eI out) := by
  generalize hk : emT eI out = R
  replace hk := hk.symm
  unfold f_X11_need at h
  show Ev (11) 119 0 [some (.ref 0), some (.int p1), none] [] M0 R
  rcases o_bif h with ⟨hb4, h⟩ | ⟨hb4, h⟩
  · refine ev_goT kc_119 2 (t := 7) (e := 2) (L' := [some (.ref 0), some (.int p1), none]) (st' := []) rfl hb4 ?_
    exact Ev.forget (mLe.kp (mLe.kp (mLe.sk mLe.nl))) (e_X11_need_7  h hk)
  · refine ev_goF kc_119 2 (t := 7) (e := 2) (L' := [some (.ref 0), some (.int p1), none]) (st' := []) rfl hb4 ?_
    rcases o_bif h with ⟨hb5, h⟩ | ⟨hb5, h⟩
    · refine ev_goT kc_119 3 (t := 7) (e := 5) (L' := [some (.ref 0), some (.int p1), none]) (st' := []) rfl hb5 ?_
      exact Ev.forget (mLe.kp (mLe.kp (mLe.sk mLe.nl))) (e_X11_need_7  h hk)
    · refine ev_goF kc_119 3 (t := 7) (e := 5) (L' := [some (.ref 0), some (.int p1), none]) (st' := []) rfl hb5 ?_
      refine ev_go kc_119 2 (i' := 8) (L' := [some (.ref 0), some (.int p1), none]) (st' := [.int (1 : Int32)]) (M' := M0) rfl ?_
      exact Ev.forget (mLe.kp (mLe.kp (mLe.sk mLe.nl))) (e_X11_need_8  h hk)
/-- WakeTower.total()I: 121, R -/
theorem kc_121 : mKc 121 = k_X11_total := rfl
def f_X11_total_4 (l1 : Int32) (l2 : Int32) (M0 : mM) : Option (Int32 ⊕ (Int32 × Int32)) :=
  bif decide ((8 : Int32) ≤ l2) then (some (.inl l1)) else (bif (f_X11_has (M0 35 1) l2) then (gd (mIn l2 8) (some (.inr ((l1 + (M0 36 (ix l2))), (l2 + (1 : Int32)))))) else (some (.inr ((l1 + (0 : Int32)), (l2 + (1 : Int32))))))
set_option maxRecDepth 8000 in
theorem e_X11_total_4 {l1 : Int32} {l2 : Int32} {M0 : mM} {R : mZ} {out : (Int32 ⊕ (Int32 × Int32))}  (h : f_X11_total_4 l1 l2 M0 = some out) (hk : (∀ s' : Int32 × Int32, out = .inr s' → Ev (1) 121 4 [some (.ref 0), some (.int s'.1), some (.int s'.2)] [] M0 R) ∧ (∀ e1 : Int32, out = .inl e1 → R = emR eI M0 e1)) : Ev (1) 121 4 [some (.ref 0), some (.int l1), some (.int l2)] [] M0 R := by
  unfold f_X11_total_4 at h
  rcases o_bif h with ⟨hb1, h⟩ | ⟨hb1, h⟩
  · refine ev_goT kc_121 3 (t := 25) (e := 7) (L' := [some (.ref 0), some (.int l1), some (.int l2)]) (st' := []) rfl hb1 ?_
    refine ev_go kc_121 1 (i' := 26) (L' := [some (.ref 0), some (.int l1), some (.int l2)]) (st' := [.int l1]) (M' := M0) rfl ?_
    obtain rfl := Option.some.inj h
    rw [show _ from (hk.2 _ rfl)]
    exact ev_ret kc_121 rfl rfl rfl
  · refine ev_goF kc_121 3 (t := 25) (e := 7) (L' := [some (.ref 0), some (.int l1), some (.int l2)]) (st' := []) rfl hb1 ?_
    refine ev_go kc_121 5 (i' := 12) (L' := [some (.ref 0), some (.int l1), some (.int l2)]) (st' := [.int l2, .int (M0 35 1), .int l1]) (M' := M0) rfl ?_
    refine ev_cl0 (ins := .invokestatic 134) kc_121 rfl rfl (a := 178) (as := [.int (M0 35 1), .int l2]) (rest := [.int l1]) rfl rfl (Cs.deep (c_X11_has (M0 := M0)) (by decide)) ?_
    rcases o_bif h with ⟨hb3, h⟩ | ⟨hb3, h⟩
    · refine ev_goF kc_121 1 (t := 20) (e := 14) (L' := [some (.ref 0), some (.int l1), some (.int l2)]) (st' := [.int l1]) rfl (mB_e0f hb3) ?_
      refine ev_go kc_121 4 (i' := 18) (L' := [some (.ref 0), some (.int l1), some (.int l2)]) (st' := [.int l2, .ref 36, .int l1]) (M' := M0) rfl ?_
      obtain ⟨hg4, h⟩ := o_gd h
      refine ev_ia kc_121 rfl rfl hg4 ?_
      refine ev_go kc_121 5 (i' := 4) (L' := [some (.ref 0), some (.int (l1 + (M0 36 (ix l2)))), some (.int (l2 + (1 : Int32)))]) (st' := []) (M' := M0) rfl ?_
      obtain rfl := Option.some.inj h
      exact Ev.forget (mLe.kp (mLe.kp (mLe.kp mLe.nl))) (hk.1 ((l1 + (M0 36 (ix l2))), (l2 + (1 : Int32))) rfl)
    · refine ev_goT kc_121 1 (t := 20) (e := 14) (L' := [some (.ref 0), some (.int l1), some (.int l2)]) (st' := [.int l1]) rfl (mB_e0t hb3) ?_
      refine ev_go kc_121 5 (i' := 4) (L' := [some (.ref 0), some (.int (l1 + (0 : Int32))), some (.int (l2 + (1 : Int32)))]) (st' := []) (M' := M0) rfl ?_
      obtain rfl := Option.some.inj h
      exact Ev.forget (mLe.kp (mLe.kp (mLe.kp mLe.nl))) (hk.1 ((l1 + (0 : Int32)), (l2 + (1 : Int32))) rfl)
def f_X11_total_l4 (l1 : Int32) (l2 : Int32) (M0 : mM) : Option Int32 :=
  wh 100000 (fun s : Int32 × Int32 => f_X11_total_4 s.1 s.2 M0) (l1, l2)
theorem e_X11_total_l4 {l1 : Int32} {l2 : Int32} {M0 : mM} {R : mZ} {out : Int32}  (h : f_X11_total_l4 l1 l2 M0 = some out) (hk : R = emR eI M0 out) : Ev (1) 121 4 [some (.ref 0), some (.int l1), some (.int l2)] [] M0 R := by
  unfold f_X11_total_l4 at h
  exact wh_ev (P := fun s : Int32 × Int32 => Ev (1) 121 4 [some (.ref 0), some (.int s.1), some (.int s.2)] [] M0 R) (Q := fun e : Int32 => R = emR eI M0 e) (fun s o hb h1 h2 => e_X11_total_4  hb ⟨h1, h2⟩) 100000 _ _ h hk
def f_X11_total  (M0 : mM) : Option Int32 :=
  f_X11_total_l4 (0 : Int32) (0 : Int32) M0
set_option maxRecDepth 8000 in
theorem c_X11_total  {M0 : mM} {out : Int32} (h : f_X11_total M0 = some out) : Cs (1) 121 [.ref 0] M0 (emR eI M0 out) := by
  generalize hk : emR eI M0 out = R
  replace hk := hk.symm
  unfold f_X11_total at h
  show Ev (1) 121 0 [some (.ref 0), none, none] [] M0 R
  refine ev_go kc_121 4 (i' := 4) (L' := [some (.ref 0), some (.int (0 : Int32)), some (.int (0 : Int32))]) (st' := []) (M' := M0) rfl ?_
  exact Ev.forget (mLe.kp (mLe.kp (mLe.kp mLe.nl))) (e_X11_total_l4  h hk)
/-- WakeTower.ground()I: 122, R -/
theorem kc_122 : mKc 122 = k_X11_ground := rfl
def f_X11_ground_9 (l1 : Int32) (l2 : Int32) (l3 : Int32) (M0 : mM) : Option (Int32 ⊕ (Int32 × Int32)) :=
  bif decide ((8 : Int32) ≤ l3) then (some (.inl l2)) else (bif (f_X11_has l1 l3) then (gd (mIn l3 8) (gd (mIn l3 8) (some (.inr ((l2 + ((M0 36 (ix l3)) + (M0 42 (ix l3)))), (l3 + (1 : Int32))))))) else (some (.inr ((l2 + (0 : Int32)), (l3 + (1 : Int32))))))
set_option maxRecDepth 8000 in
theorem e_X11_ground_9 {l1 : Int32} {l2 : Int32} {l3 : Int32} {M0 : mM} {R : mZ} {out : (Int32 ⊕ (Int32 × Int32))}  (h : f_X11_ground_9 l1 l2 l3 M0 = some out) (hk : (∀ s' : Int32 × Int32, out = .inr s' → Ev (2) 122 9 [some (.ref 0), some (.int l1), some (.int s'.1), some (.int s'.2)] [] M0 R) ∧ (∀ e1 : Int32, out = .inl e1 → R = emR eI M0 e1)) : Ev (2) 122 9 [some (.ref 0), some (.int l1), some (.int l2), some (.int l3)] [] M0 R := by
  unfold f_X11_ground_9 at h
  rcases o_bif h with ⟨hb1, h⟩ | ⟨hb1, h⟩
  · refine ev_goT kc_122 3 (t := 34) (e := 12) (L' := [some (.ref 0), some (.int l1), some (.int l2), some (.int l3)]) (st' := []) rfl hb1 ?_
    refine ev_go kc_122 1 (i' := 35) (L' := [some (.ref 0), some (.int l1), some (.int l2), some (.int l3)]) (st' := [.int l2]) (M' := M0) rfl ?_
    obtain rfl := Option.some.inj h
    rw [show _ from (hk.2 _ rfl)]
    exact ev_ret kc_122 rfl rfl rfl
  · refine ev_goF kc_122 3 (t := 34) (e := 12) (L' := [some (.ref 0), some (.int l1), some (.int l2), some (.int l3)]) (st' := []) rfl hb1 ?_
    refine ev_go kc_122 3 (i' := 15) (L' := [some (.ref 0), some (.int l1), some (.int l2), some (.int l3)]) (st' := [.int l3, .int l1, .int l2]) (M' := M0) rfl ?_
    refine ev_cl0 (ins := .invokestatic 134) kc_122 rfl rfl (a := 178) (as := [.int l1, .int l3]) (rest := [.int l2]) rfl rfl (Cs.deep (c_X11_has (M0 := M0)) (by decide)) ?_
    rcases o_bif h with ⟨hb3, h⟩ | ⟨hb3, h⟩
    · refine ev_goF kc_122 1 (t := 29) (e := 17) (L' := [some (.ref 0), some (.int l1), some (.int l2), some (.int l3)]) (st' := [.int l2]) rfl (mB_e0f hb3) ?_
      refine ev_go kc_122 4 (i' := 21) (L' := [some (.ref 0), some (.int l1), some (.int l2), some (.int l3)]) (st' := [.int l3, .ref 36, .int l2]) (M' := M0) rfl ?_
      obtain ⟨hg4, h⟩ := o_gd h
      refine ev_ia kc_122 rfl rfl hg4 ?_
      refine ev_go kc_122 4 (i' := 26) (L' := [some (.ref 0), some (.int l1), some (.int l2), some (.int l3)]) (st' := [.int l3, .ref 42, .int (M0 36 (ix l3)), .int l2]) (M' := M0) rfl ?_
      obtain ⟨hg5, h⟩ := o_gd h
      refine ev_ia kc_122 rfl rfl hg5 ?_
      refine ev_go kc_122 6 (i' := 9) (L' := [some (.ref 0), some (.int l1), some (.int (l2 + ((M0 36 (ix l3)) + (M0 42 (ix l3))))), some (.int (l3 + (1 : Int32)))]) (st' := []) (M' := M0) rfl ?_
      obtain rfl := Option.some.inj h
      exact Ev.forget (mLe.kp (mLe.kp (mLe.kp (mLe.kp mLe.nl)))) (hk.1 ((l2 + ((M0 36 (ix l3)) + (M0 42 (ix l3)))), (l3 + (1 : Int32))) rfl)
    · refine ev_goT kc_122 1 (t := 29) (e := 17) (L' := [some (.ref 0), some (.int l1), some (.int l2), some (.int l3)]) (st' := [.int l2]) rfl (mB_e0t hb3) ?_
      refine ev_go kc_122 5 (i' := 9) (L' := [some (.ref 0), some (.int l1), some (.int (l2 + (0 : Int32))), some (.int (l3 + (1 : Int32)))]) (st' := []) (M' := M0) rfl ?_
      obtain rfl := Option.some.inj h
      exact Ev.forget (mLe.kp (mLe.kp (mLe.kp (mLe.kp mLe.nl)))) (hk.1 ((l2 + (0 : Int32)), (l3 + (1 : Int32))) rfl)
def f_X11_ground_l9 (l1 : Int32) (l2 : Int32) (l3 : Int32) (M0 : mM) : Option Int32 :=
  wh 100000 (fun s : Int32 × Int32 => f_X11_ground_9 l1 s.1 s.2 M0) (l2, l3)
theorem e_X11_ground_l9 {l1 : Int32} {l2 : Int32} {l3 : Int32} {M0 : mM} {R : mZ} {out : Int32}  (h : f_X11_ground_l9 l1 l2 l3 M0 = some out) (hk : R = emR eI M0 out) : Ev (2) 122 9 [some (.ref 0), some (.int l1), some (.int l2), some (.int l3)] [] M0 R := by
  unfold f_X11_ground_l9 at h
  exact wh_ev (P := fun s : Int32 × Int32 => Ev (2) 122 9 [some (.ref 0), some (.int l1), some (.int s.1), some (.int s.2)] [] M0 R) (Q := fun e : Int32 => R = emR eI M0 e) (fun s o hb h1 h2 => e_X11_ground_9  hb ⟨h1, h2⟩) 100000 _ _ h hk
def f_X11_ground  (M0 : mM) : Option Int32 :=
  b1 (f_X9_inRing 35 (0 : Int32) M0) (fun v6 => f_X11_ground_l9 v6 (0 : Int32) (0 : Int32) M0)
set_option maxRecDepth 8000 in
theorem c_X11_ground  {M0 : mM} {out : Int32} (h : f_X11_ground M0 = some out) : Cs (2) 122 [.ref 0] M0 (emR eI M0 out) := by
  generalize hk : emR eI M0 out = R
  replace hk := hk.symm
  unfold f_X11_ground at h
  show Ev (2) 122 0 [some (.ref 0), none, none, none] [] M0 R
  refine ev_go kc_122 3 (i' := 3) (L' := [some (.ref 0), none, none, none]) (st' := [.int (0 : Int32), .ref 35]) (M' := M0) rfl ?_
  obtain ⟨v6, hc6, h⟩ := o_b1 h
  refine ev_cl0 (ins := .invokevirtual 241) kc_122 rfl rfl (a := 77) (as := [.ref 35, .int (0 : Int32)]) (rest := []) rfl rfl (Cs.deep (c_X9_inRing (M0 := M0) hc6) (by decide)) ?_
  refine ev_go kc_122 5 (i' := 9) (L' := [some (.ref 0), some (.int v6), some (.int (0 : Int32)), some (.int (0 : Int32))]) (st' := []) (M' := M0) rfl ?_
  exact Ev.forget (mLe.kp (mLe.kp (mLe.kp (mLe.kp mLe.nl)))) (e_X11_ground_l9  h hk)
/-- WakeTower.height()I: 123, R -/
theorem kc_123 : mKc 123 = k_X11_height := rfl
def f_X11_height  (M0 : mM) : Option Int32 :=
  b1 (f_X9_uppermost 35 M0) (fun v1 => some (v1 + (1 : Int32)))
set_option maxRecDepth 8000 in
theorem c_X11_height  {M0 : mM} {out : Int32} (h : f_X11_height M0 = some out) : Cs (2) 123 [.ref 0] M0 (emR eI M0 out) := by
  generalize hk : emR eI M0 out = R
  replace hk := hk.symm
  unfold f_X11_height at h
  show Ev (2) 123 0 [some (.ref 0)] [] M0 R
  refine ev_go kc_123 2 (i' := 2) (L' := [some (.ref 0)]) (st' := [.ref 35]) (M' := M0) rfl ?_
  obtain ⟨v1, hc1, h⟩ := o_b1 h
  refine ev_cl0 (ins := .invokevirtual 244) kc_123 rfl rfl (a := 78) (as := [.ref 35]) (rest := []) rfl rfl (Cs.deep (c_X9_uppermost (M0 := M0) hc1) (by decide)) ?_
  refine ev_go kc_123 2 (i' := 5) (L' := [some (.ref 0)]) (st' := [.int (v1 + (1 : Int32))]) (M' := M0) rfl ?_
  obtain rfl := Option.some.inj h
  rw [hk]
  exact ev_ret kc_123 rfl rfl rfl
/-- WakeTower.weakest()I: 124, R -/
theorem kc_124 : mKc 124 = k_X11_weakest := rfl
def f_X11_weakest_8 (l1 : Int32) (l2 : Int32) (l3 : Int32) (M0 : mM) : Option (Int32 ⊕ (Int32 × Int32)) :=
  bif decide ((8 : Int32) ≤ l3) then (some (.inl l2)) else (bif (f_X11_has l1 l3) then (bif decide (l2 = (-1 : Int32)) then (some (.inr (l3, (l3 + (1 : Int32))))) else (b1 (f_X9_spare 35 l3 M0) (fun v5 => b1 (f_X9_spare 35 l2 M0) (fun v6 => bif decide (v6 ≤ v5) then (some (.inr (l2, (l3 + (1 : Int32))))) else (some (.inr (l3, (l3 + (1 : Int32))))))))) else (some (.inr (l2, (l3 + (1 : Int32))))))
set_option maxRecDepth 8000 in
theorem e_X11_weakest_8 {l1 : Int32} {l2 : Int32} {l3 : Int32} {M0 : mM} {R : mZ} {out : (Int32 ⊕ (Int32 × Int32))}  (h : f_X11_weakest_8 l1 l2 l3 M0 = some out) (hk : (∀ s' : Int32 × Int32, out = .inr s' → Ev (1) 124 8 [some (.ref 0), some (.int l1), some (.int s'.1), some (.int s'.2)] [] M0 R) ∧ (∀ e1 : Int32, out = .inl e1 → R = emR eI M0 e1)) : Ev (1) 124 8 [some (.ref 0), some (.int l1), some (.int l2), some (.int l3)] [] M0 R := by
  unfold f_X11_weakest_8 at h
  rcases o_bif h with ⟨hb1, h⟩ | ⟨hb1, h⟩
  · refine ev_goT kc_124 3 (t := 31) (e := 11) (L' := [some (.ref 0), some (.int l1), some (.int l2), some (.int l3)]) (st' := []) rfl hb1 ?_
    refine ev_go kc_124 1 (i' := 32) (L' := [some (.ref 0), some (.int l1), some (.int l2), some (.int l3)]) (st' := [.int l2]) (M' := M0) rfl ?_
    obtain rfl := Option.some.inj h
    rw [show _ from (hk.2 _ rfl)]
    exact ev_ret kc_124 rfl rfl rfl
  · refine ev_goF kc_124 3 (t := 31) (e := 11) (L' := [some (.ref 0), some (.int l1), some (.int l2), some (.int l3)]) (st' := []) rfl hb1 ?_
    refine ev_go kc_124 2 (i' := 13) (L' := [some (.ref 0), some (.int l1), some (.int l2), some (.int l3)]) (st' := [.int l3, .int l1]) (M' := M0) rfl ?_
    refine ev_cl0 (ins := .invokestatic 134) kc_124 rfl rfl (a := 178) (as := [.int l1, .int l3]) (rest := []) rfl rfl (Cs.deep (c_X11_has (M0 := M0)) (by decide)) ?_
    rcases o_bif h with ⟨hb3, h⟩ | ⟨hb3, h⟩
    · refine ev_goF kc_124 1 (t := 29) (e := 15) (L' := [some (.ref 0), some (.int l1), some (.int l2), some (.int l3)]) (st' := []) rfl (mB_e0f hb3) ?_
      rcases o_bif h with ⟨hb4, h⟩ | ⟨hb4, h⟩
      · refine ev_goT kc_124 3 (t := 27) (e := 18) (L' := [some (.ref 0), some (.int l1), some (.int l2), some (.int l3)]) (st' := []) rfl hb4 ?_
        refine ev_go kc_124 4 (i' := 8) (L' := [some (.ref 0), some (.int l1), some (.int l3), some (.int (l3 + (1 : Int32)))]) (st' := []) (M' := M0) rfl ?_
        obtain rfl := Option.some.inj h
        exact Ev.forget (mLe.kp (mLe.kp (mLe.kp (mLe.kp mLe.nl)))) (hk.1 (l3, (l3 + (1 : Int32))) rfl)
      · refine ev_goF kc_124 3 (t := 27) (e := 18) (L' := [some (.ref 0), some (.int l1), some (.int l2), some (.int l3)]) (st' := []) rfl hb4 ?_
        refine ev_go kc_124 3 (i' := 21) (L' := [some (.ref 0), some (.int l1), some (.int l2), some (.int l3)]) (st' := [.int l3, .ref 35]) (M' := M0) rfl ?_
        obtain ⟨v5, hc5, h⟩ := o_b1 h
        refine ev_cl0 (ins := .invokevirtual 171) kc_124 rfl rfl (a := 79) (as := [.ref 35, .int l3]) (rest := []) rfl rfl (Cs.deep (c_X9_spare (M0 := M0) hc5) (by decide)) ?_
        refine ev_go kc_124 3 (i' := 25) (L' := [some (.ref 0), some (.int l1), some (.int l2), some (.int l3)]) (st' := [.int l2, .ref 35, .int v5]) (M' := M0) rfl ?_
        obtain ⟨v6, hc6, h⟩ := o_b1 h
        refine ev_cl0 (ins := .invokevirtual 171) kc_124 rfl rfl (a := 79) (as := [.ref 35, .int l2]) (rest := [.int v5]) rfl rfl (Cs.deep (c_X9_spare (M0 := M0) hc6) (by decide)) ?_
        rcases o_bif h with ⟨hb7, h⟩ | ⟨hb7, h⟩
        · refine ev_goT kc_124 1 (t := 29) (e := 27) (L' := [some (.ref 0), some (.int l1), some (.int l2), some (.int l3)]) (st' := []) rfl hb7 ?_
          refine ev_go kc_124 2 (i' := 8) (L' := [some (.ref 0), some (.int l1), some (.int l2), some (.int (l3 + (1 : Int32)))]) (st' := []) (M' := M0) rfl ?_
          obtain rfl := Option.some.inj h
          exact Ev.forget (mLe.kp (mLe.kp (mLe.kp (mLe.kp mLe.nl)))) (hk.1 (l2, (l3 + (1 : Int32))) rfl)
        · refine ev_goF kc_124 1 (t := 29) (e := 27) (L' := [some (.ref 0), some (.int l1), some (.int l2), some (.int l3)]) (st' := []) rfl hb7 ?_
          refine ev_go kc_124 4 (i' := 8) (L' := [some (.ref 0), some (.int l1), some (.int l3), some (.int (l3 + (1 : Int32)))]) (st' := []) (M' := M0) rfl ?_
          obtain rfl := Option.some.inj h
          exact Ev.forget (mLe.kp (mLe.kp (mLe.kp (mLe.kp mLe.nl)))) (hk.1 (l3, (l3 + (1 : Int32))) rfl)
    · refine ev_goT kc_124 1 (t := 29) (e := 15) (L' := [some (.ref 0), some (.int l1), some (.int l2), some (.int l3)]) (st' := []) rfl (mB_e0t hb3) ?_
      refine ev_go kc_124 2 (i' := 8) (L' := [some (.ref 0), some (.int l1), some (.int l2), some (.int (l3 + (1 : Int32)))]) (st' := []) (M' := M0) rfl ?_
      obtain rfl := Option.some.inj h
      exact Ev.forget (mLe.kp (mLe.kp (mLe.kp (mLe.kp mLe.nl)))) (hk.1 (l2, (l3 + (1 : Int32))) rfl)
def f_X11_weakest_l8 (l1 : Int32) (l2 : Int32) (l3 : Int32) (M0 : mM) : Option Int32 :=
  wh 100000 (fun s : Int32 × Int32 => f_X11_weakest_8 l1 s.1 s.2 M0) (l2, l3)
theorem e_X11_weakest_l8 {l1 : Int32} {l2 : Int32} {l3 : Int32} {M0 : mM} {R : mZ} {out : Int32}  (h : f_X11_weakest_l8 l1 l2 l3 M0 = some out) (hk : R = emR eI M0 out) : Ev (1) 124 8 [some (.ref 0), some (.int l1), some (.int l2), some (.int l3)] [] M0 R := by
  unfold f_X11_weakest_l8 at h
  exact wh_ev (P := fun s : Int32 × Int32 => Ev (1) 124 8 [some (.ref 0), some (.int l1), some (.int s.1), some (.int s.2)] [] M0 R) (Q := fun e : Int32 => R = emR eI M0 e) (fun s o hb h1 h2 => e_X11_weakest_8  hb ⟨h1, h2⟩) 100000 _ _ h hk
def f_X11_weakest  (M0 : mM) : Option Int32 :=
  b1 (f_X9_holders 35 M0) (fun v8 => f_X11_weakest_l8 v8 (-1 : Int32) (0 : Int32) M0)
set_option maxRecDepth 8000 in
theorem c_X11_weakest  {M0 : mM} {out : Int32} (h : f_X11_weakest M0 = some out) : Cs (1) 124 [.ref 0] M0 (emR eI M0 out) := by
  generalize hk : emR eI M0 out = R
  replace hk := hk.symm
  unfold f_X11_weakest at h
  show Ev (1) 124 0 [some (.ref 0), none, none, none] [] M0 R
  refine ev_go kc_124 2 (i' := 2) (L' := [some (.ref 0), none, none, none]) (st' := [.ref 35]) (M' := M0) rfl ?_
  obtain ⟨v8, hc8, h⟩ := o_b1 h
  refine ev_cl0 (ins := .invokevirtual 167) kc_124 rfl rfl (a := 76) (as := [.ref 35]) (rest := []) rfl rfl (Cs.deep (c_X9_holders (M0 := M0) hc8) (by decide)) ?_
  refine ev_go kc_124 5 (i' := 8) (L' := [some (.ref 0), some (.int v8), some (.int (-1 : Int32)), some (.int (0 : Int32))]) (st' := []) (M' := M0) rfl ?_
  exact Ev.forget (mLe.kp (mLe.kp (mLe.kp (mLe.kp mLe.nl)))) (e_X11_weakest_l8  h hk)
/-- WakeTower.more(I)I: 125, T -/
theorem kc_125 : mKc 125 = k_X11_more := rfl
def f_X11_more_15 (l1 : Int32) (l2 : Int32) (l3 : Int32) (M0 : mM) : Option (((Int32 ⊕ Nat) × mM) ⊕ (Int32 × Int32 × mM)) :=
  bif decide ((99 : Int32) < l3) then (some (.inl (.inl l2, M0))) else (gd (mIn l1 8) (gd (mIn l1 8) (wr (mst M0 48 (ix l1) ((M0 36 (ix l1)) + l3)) (fun M3 => b2 (f_X9_stands 47 (M3 47 1) (M3 47 2) M3) (fun v5 M5 => bif v5 then (some (.inr (l3, (l3 + (1 : Int32)), M5))) else (some (.inl (.inl l2, M5))))))))
set_option maxRecDepth 8000 in
theorem e_X11_more_15 {l1 : Int32} {l2 : Int32} {l3 : Int32} {M0 : mM} {R : mZ} {out : (((Int32 ⊕ Nat) × mM) ⊕ (Int32 × Int32 × mM))}  (h : f_X11_more_15 l1 l2 l3 M0 = some out) (hk : (∀ s' : Int32 × Int32 × mM, out = .inr s' → Ev (10) 125 15 [some (.ref 0), some (.int l1), some (.int s'.1), some (.int s'.2.1)] [] (s'.2.2) R) ∧ (∀ e1 : ((Int32 ⊕ Nat) × mM), out = .inl e1 → R = emT eI e1)) : Ev (10) 125 15 [some (.ref 0), some (.int l1), some (.int l2), some (.int l3)] [] M0 R := by
  unfold f_X11_more_15 at h
  rcases o_bif h with ⟨hb1, h⟩ | ⟨hb1, h⟩
  · refine ev_goT kc_125 3 (t := 46) (e := 18) (L' := [some (.ref 0), some (.int l1), some (.int l2), some (.int l3)]) (st' := []) rfl hb1 ?_
    refine ev_go kc_125 1 (i' := 47) (L' := [some (.ref 0), some (.int l1), some (.int l2), some (.int l3)]) (st' := [.int l2]) (M' := M0) rfl ?_
    obtain rfl := Option.some.inj h
    rw [show _ from (hk.2 _ rfl)]
    exact ev_ret kc_125 rfl rfl rfl
  · refine ev_goF kc_125 3 (t := 46) (e := 18) (L' := [some (.ref 0), some (.int l1), some (.int l2), some (.int l3)]) (st' := []) rfl hb1 ?_
    refine ev_go kc_125 8 (i' := 26) (L' := [some (.ref 0), some (.int l1), some (.int l2), some (.int l3)]) (st' := [.int l1, .ref 36, .int l1, .ref 48]) (M' := M0) rfl ?_
    obtain ⟨hg2, h⟩ := o_gd h
    refine ev_ia kc_125 rfl rfl hg2 ?_
    refine ev_go kc_125 2 (i' := 29) (L' := [some (.ref 0), some (.int l1), some (.int l2), some (.int l3)]) (st' := [.int ((M0 36 (ix l1)) + l3), .int l1, .ref 48]) (M' := M0) rfl ?_
    obtain ⟨hg4, h⟩ := o_gd h
    obtain ⟨M3, hM3, h⟩ := o_wr h
    refine ev_is kc_125 rfl rfl hg4 hM3 ?_
    refine ev_go kc_125 8 (i' := 38) (L' := [some (.ref 0), some (.int l1), some (.int l2), some (.int l3)]) (st' := [.int (M3 47 2), .int (M3 47 1), .ref 47]) (M' := M3) rfl ?_
    obtain ⟨v5, M5, hc5, h⟩ := o_b2 h
    refine ev_cl0 (ins := .invokevirtual 238) kc_125 rfl rfl (a := 93) (as := [.ref 47, .int (M3 47 1), .int (M3 47 2)]) (rest := []) rfl rfl (Cs.deep (c_X9_stands hc5) (by decide)) ?_
    rcases o_bif h with ⟨hb6, h⟩ | ⟨hb6, h⟩
    · refine ev_goT kc_125 1 (t := 42) (e := 40) (L' := [some (.ref 0), some (.int l1), some (.int l2), some (.int l3)]) (st' := []) rfl (mB_n0t hb6) ?_
      refine ev_go kc_125 4 (i' := 15) (L' := [some (.ref 0), some (.int l1), some (.int l3), some (.int (l3 + (1 : Int32)))]) (st' := []) (M' := M5) rfl ?_
      obtain rfl := Option.some.inj h
      exact Ev.forget (mLe.kp (mLe.kp (mLe.kp (mLe.kp mLe.nl)))) (hk.1 (l3, (l3 + (1 : Int32)), M5) rfl)
    · refine ev_goF kc_125 1 (t := 42) (e := 40) (L' := [some (.ref 0), some (.int l1), some (.int l2), some (.int l3)]) (st' := []) rfl (mB_n0f hb6) ?_
      refine ev_go kc_125 1 (i' := 41) (L' := [some (.ref 0), some (.int l1), some (.int l2), some (.int l3)]) (st' := [.int l2]) (M' := M5) rfl ?_
      obtain rfl := Option.some.inj h
      rw [show _ from (hk.2 _ rfl)]
      exact ev_ret kc_125 rfl rfl rfl
def f_X11_more_l15 (l1 : Int32) (l2 : Int32) (l3 : Int32) (M0 : mM) : Option ((Int32 ⊕ Nat) × mM) :=
  wh 100000 (fun s : Int32 × Int32 × mM => f_X11_more_15 l1 s.1 s.2.1 s.2.2) (l2, l3, M0)
theorem e_X11_more_l15 {l1 : Int32} {l2 : Int32} {l3 : Int32} {M0 : mM} {R : mZ} {out : ((Int32 ⊕ Nat) × mM)}  (h : f_X11_more_l15 l1 l2 l3 M0 = some out) (hk : R = emT eI out) : Ev (10) 125 15 [some (.ref 0), some (.int l1), some (.int l2), some (.int l3)] [] M0 R := by
  unfold f_X11_more_l15 at h
  exact wh_ev (P := fun s : Int32 × Int32 × mM => Ev (10) 125 15 [some (.ref 0), some (.int l1), some (.int s.1), some (.int s.2.1)] [] s.2.2 R) (Q := fun e : ((Int32 ⊕ Nat) × mM) => R = emT eI e) (fun s o hb h1 h2 => e_X11_more_15  hb ⟨h1, h2⟩) 100000 _ _ h hk
def f_X11_more (p1 : Int32) (M0 : mM) : Option ((Int32 ⊕ Nat) × mM) :=
  tb (f_X11_mustBePerson p1 M0) (fun v7 M7 => tb (f_X11_mustBeUp p1 M7) (fun v8 M8 => b2 (f_X9_copyFrom 47 35 M8) (fun v9 M9 => f_X11_more_l15 p1 (0 : Int32) (1 : Int32) M9)))
set_option maxRecDepth 8000 in
theorem c_X11_more {p1 : Int32} {M0 : mM} {out : ((Int32 ⊕ Nat) × mM)} (h : f_X11_more p1 M0 = some out) : Cs (10) 125 [.ref 0, .int p1] M0 (emT eI out) := by
  generalize hk : emT eI out = R
  replace hk := hk.symm
  unfold f_X11_more at h
  show Ev (10) 125 0 [some (.ref 0), some (.int p1), none, none] [] M0 R
  refine ev_go kc_125 2 (i' := 2) (L' := [some (.ref 0), some (.int p1), none, none]) (st' := [.int p1, .ref 0]) (M' := M0) rfl ?_
  rcases o_tb h with ⟨v7, M7, hc7, h⟩ | ⟨E7, M7, hc7, h⟩
  rotate_left
  · subst h
    rw [hk]
    exact ev_clT (ins := .invokevirtual 128) kc_125 rfl rfl (a := 170) (as := [.ref 0, .int p1]) (rest := []) rfl rfl rfl rfl (Cs.deep (c_X11_mustBePerson hc7) (by decide))
  refine ev_cl0 (ins := .invokevirtual 128) kc_125 rfl rfl (a := 170) (as := [.ref 0, .int p1]) (rest := []) rfl rfl (Cs.deep (c_X11_mustBePerson hc7) (by decide)) ?_
  refine ev_go kc_125 2 (i' := 5) (L' := [some (.ref 0), some (.int p1), none, none]) (st' := [.int p1, .ref 0]) (M' := M7) rfl ?_
  rcases o_tb h with ⟨v8, M8, hc8, h⟩ | ⟨E8, M8, hc8, h⟩
  rotate_left
  · subst h
    rw [hk]
    exact ev_clT (ins := .invokevirtual 216) kc_125 rfl rfl (a := 175) (as := [.ref 0, .int p1]) (rest := []) rfl rfl rfl rfl (Cs.deep (c_X11_mustBeUp hc8) (by decide))
  refine ev_cl0 (ins := .invokevirtual 216) kc_125 rfl rfl (a := 175) (as := [.ref 0, .int p1]) (rest := []) rfl rfl (Cs.deep (c_X11_mustBeUp hc8) (by decide)) ?_
  refine ev_go kc_125 4 (i' := 10) (L' := [some (.ref 0), some (.int p1), none, none]) (st' := [.ref 35, .ref 47]) (M' := M8) rfl ?_
  obtain ⟨v9, M9, hc9, h⟩ := o_b2 h
  refine ev_cl0 (ins := .invokevirtual 86) kc_125 rfl rfl (a := 73) (as := [.ref 47, .ref 35]) (rest := []) rfl rfl (Cs.deep (c_X9_copyFrom hc9) (by decide)) ?_
  refine ev_go kc_125 4 (i' := 15) (L' := [some (.ref 0), some (.int p1), some (.int (0 : Int32)), some (.int (1 : Int32))]) (st' := []) (M' := M9) rfl ?_
  exact Ev.forget (mLe.kp (mLe.kp (mLe.kp (mLe.kp mLe.nl)))) (e_X11_more_l15  h hk)
/-- WakeTower.outs()I: 126, W -/
theorem kc_126 : mKc 126 = k_X11_outs := rfl
def f_X11_outs_4 (l1 : Int32) (l2 : Int32) (M0 : mM) : Option ((Int32 × mM) ⊕ (Int32 × Int32 × mM)) :=
  bif decide ((8 : Int32) ≤ l2) then (some (.inl (l1, M0))) else (bif (f_X11_has (M0 35 1) l2) then (b2 (f_X9_stands 35 ((M0 35 1) &&& ((f_X11_bit l2) ^^^ (-1 : Int32))) (M0 35 2) M0) (fun v5 M5 => bif v5 then (some (.inr ((l1 ||| (f_X11_bit l2)), (l2 + (1 : Int32)), M5))) else (some (.inr (l1, (l2 + (1 : Int32)), M5))))) else (some (.inr (l1, (l2 + (1 : Int32)), M0))))
set_option maxRecDepth 8000 in
theorem e_X11_outs_4 {l1 : Int32} {l2 : Int32} {M0 : mM} {R : mZ} {out : ((Int32 × mM) ⊕ (Int32 × Int32 × mM))}  (h : f_X11_outs_4 l1 l2 M0 = some out) (hk : (∀ s' : Int32 × Int32 × mM, out = .inr s' → Ev (4) 126 4 [some (.ref 0), some (.int s'.1), some (.int s'.2.1)] [] (s'.2.2) R) ∧ (∀ e1 : (Int32 × mM), out = .inl e1 → R = emW eI e1)) : Ev (4) 126 4 [some (.ref 0), some (.int l1), some (.int l2)] [] M0 R := by
  unfold f_X11_outs_4 at h
  rcases o_bif h with ⟨hb1, h⟩ | ⟨hb1, h⟩
  · refine ev_goT kc_126 3 (t := 35) (e := 7) (L' := [some (.ref 0), some (.int l1), some (.int l2)]) (st' := []) rfl hb1 ?_
    refine ev_go kc_126 1 (i' := 36) (L' := [some (.ref 0), some (.int l1), some (.int l2)]) (st' := [.int l1]) (M' := M0) rfl ?_
    obtain rfl := Option.some.inj h
    rw [show _ from (hk.2 _ rfl)]
    exact ev_ret kc_126 rfl rfl rfl
  · refine ev_goF kc_126 3 (t := 35) (e := 7) (L' := [some (.ref 0), some (.int l1), some (.int l2)]) (st' := []) rfl hb1 ?_
    refine ev_go kc_126 4 (i' := 11) (L' := [some (.ref 0), some (.int l1), some (.int l2)]) (st' := [.int l2, .int (M0 35 1)]) (M' := M0) rfl ?_
    refine ev_cl0 (ins := .invokestatic 134) kc_126 rfl rfl (a := 178) (as := [.int (M0 35 1), .int l2]) (rest := []) rfl rfl (Cs.deep (c_X11_has (M0 := M0)) (by decide)) ?_
    rcases o_bif h with ⟨hb3, h⟩ | ⟨hb3, h⟩
    · refine ev_goF kc_126 1 (t := 33) (e := 13) (L' := [some (.ref 0), some (.int l1), some (.int l2)]) (st' := []) rfl (mB_e0f hb3) ?_
      refine ev_go kc_126 6 (i' := 19) (L' := [some (.ref 0), some (.int l1), some (.int l2)]) (st' := [.int l2, .int (M0 35 1), .ref 35]) (M' := M0) rfl ?_
      refine ev_cl0 (ins := .invokestatic 219) kc_126 rfl rfl (a := 177) (as := [.int l2]) (rest := [.int (M0 35 1), .ref 35]) rfl rfl (Cs.deep (c_X11_bit (M0 := M0)) (by decide)) ?_
      refine ev_go kc_126 6 (i' := 26) (L' := [some (.ref 0), some (.int l1), some (.int l2)]) (st' := [.int (M0 35 2), .int ((M0 35 1) &&& ((f_X11_bit l2) ^^^ (-1 : Int32))), .ref 35]) (M' := M0) rfl ?_
      obtain ⟨v5, M5, hc5, h⟩ := o_b2 h
      refine ev_cl0 (ins := .invokevirtual 238) kc_126 rfl rfl (a := 93) (as := [.ref 35, .int ((M0 35 1) &&& ((f_X11_bit l2) ^^^ (-1 : Int32))), .int (M0 35 2)]) (rest := []) rfl rfl (Cs.deep (c_X9_stands hc5) (by decide)) ?_
      rcases o_bif h with ⟨hb6, h⟩ | ⟨hb6, h⟩
      · refine ev_goF kc_126 1 (t := 33) (e := 28) (L' := [some (.ref 0), some (.int l1), some (.int l2)]) (st' := []) rfl (mB_e0f hb6) ?_
        refine ev_go kc_126 2 (i' := 30) (L' := [some (.ref 0), some (.int l1), some (.int l2)]) (st' := [.int l2, .int l1]) (M' := M5) rfl ?_
        refine ev_cl0 (ins := .invokestatic 219) kc_126 rfl rfl (a := 177) (as := [.int l2]) (rest := [.int l1]) rfl rfl (Cs.deep (c_X11_bit (M0 := M5)) (by decide)) ?_
        refine ev_go kc_126 4 (i' := 4) (L' := [some (.ref 0), some (.int (l1 ||| (f_X11_bit l2))), some (.int (l2 + (1 : Int32)))]) (st' := []) (M' := M5) rfl ?_
        obtain rfl := Option.some.inj h
        exact Ev.forget (mLe.kp (mLe.kp (mLe.kp mLe.nl))) (hk.1 ((l1 ||| (f_X11_bit l2)), (l2 + (1 : Int32)), M5) rfl)
      · refine ev_goT kc_126 1 (t := 33) (e := 28) (L' := [some (.ref 0), some (.int l1), some (.int l2)]) (st' := []) rfl (mB_e0t hb6) ?_
        refine ev_go kc_126 2 (i' := 4) (L' := [some (.ref 0), some (.int l1), some (.int (l2 + (1 : Int32)))]) (st' := []) (M' := M5) rfl ?_
        obtain rfl := Option.some.inj h
        exact Ev.forget (mLe.kp (mLe.kp (mLe.kp mLe.nl))) (hk.1 (l1, (l2 + (1 : Int32)), M5) rfl)
    · refine ev_goT kc_126 1 (t := 33) (e := 13) (L' := [some (.ref 0), some (.int l1), some (.int l2)]) (st' := []) rfl (mB_e0t hb3) ?_
      refine ev_go kc_126 2 (i' := 4) (L' := [some (.ref 0), some (.int l1), some (.int (l2 + (1 : Int32)))]) (st' := []) (M' := M0) rfl ?_
      obtain rfl := Option.some.inj h
      exact Ev.forget (mLe.kp (mLe.kp (mLe.kp mLe.nl))) (hk.1 (l1, (l2 + (1 : Int32)), M0) rfl)
def f_X11_outs_l4 (l1 : Int32) (l2 : Int32) (M0 : mM) : Option (Int32 × mM) :=
  wh 100000 (fun s : Int32 × Int32 × mM => f_X11_outs_4 s.1 s.2.1 s.2.2) (l1, l2, M0)
theorem e_X11_outs_l4 {l1 : Int32} {l2 : Int32} {M0 : mM} {R : mZ} {out : (Int32 × mM)}  (h : f_X11_outs_l4 l1 l2 M0 = some out) (hk : R = emW eI out) : Ev (4) 126 4 [some (.ref 0), some (.int l1), some (.int l2)] [] M0 R := by
  unfold f_X11_outs_l4 at h
  exact wh_ev (P := fun s : Int32 × Int32 × mM => Ev (4) 126 4 [some (.ref 0), some (.int s.1), some (.int s.2.1)] [] s.2.2 R) (Q := fun e : (Int32 × mM) => R = emW eI e) (fun s o hb h1 h2 => e_X11_outs_4  hb ⟨h1, h2⟩) 100000 _ _ h hk
def f_X11_outs  (M0 : mM) : Option (Int32 × mM) :=
  f_X11_outs_l4 (0 : Int32) (0 : Int32) M0
set_option maxRecDepth 8000 in
theorem c_X11_outs  {M0 : mM} {out : (Int32 × mM)} (h : f_X11_outs M0 = some out) : Cs (4) 126 [.ref 0] M0 (emW eI out) := by
  generalize hk : emW eI out = R
  replace hk := hk.symm
  unfold f_X11_outs at h
  show Ev (4) 126 0 [some (.ref 0), none, none] [] M0 R
  refine ev_go kc_126 4 (i' := 4) (L' := [some (.ref 0), some (.int (0 : Int32)), some (.int (0 : Int32))]) (st' := []) (M' := M0) rfl ?_
  exact Ev.forget (mLe.kp (mLe.kp (mLe.kp mLe.nl))) (e_X11_outs_l4  h hk)
/-- WakeTower.sleeps()I: 127, W -/
theorem kc_127 : mKc 127 = k_X11_sleeps := rfl
def f_X11_sleeps_8 (l1 : Int32) (l2 : Int32) (l3 : Int32) (M0 : mM) : Option ((Int32 × mM) ⊕ (Int32 × Int32 × mM)) :=
  bif decide ((8 : Int32) ≤ l3) then (some (.inl (l2, M0))) else (bif (f_X11_has l1 l3) then (b2 (f_X9_stands 35 (M0 35 1) ((M0 35 2) ||| (f_X11_bit l3)) M0) (fun v5 M5 => bif v5 then (some (.inr ((l2 ||| (f_X11_bit l3)), (l3 + (1 : Int32)), M5))) else (some (.inr (l2, (l3 + (1 : Int32)), M5))))) else (some (.inr (l2, (l3 + (1 : Int32)), M0))))
set_option maxRecDepth 8000 in
theorem e_X11_sleeps_8 {l1 : Int32} {l2 : Int32} {l3 : Int32} {M0 : mM} {R : mZ} {out : ((Int32 × mM) ⊕ (Int32 × Int32 × mM))}  (h : f_X11_sleeps_8 l1 l2 l3 M0 = some out) (hk : (∀ s' : Int32 × Int32 × mM, out = .inr s' → Ev (4) 127 8 [some (.ref 0), some (.int l1), some (.int s'.1), some (.int s'.2.1)] [] (s'.2.2) R) ∧ (∀ e1 : (Int32 × mM), out = .inl e1 → R = emW eI e1)) : Ev (4) 127 8 [some (.ref 0), some (.int l1), some (.int l2), some (.int l3)] [] M0 R := by
  unfold f_X11_sleeps_8 at h
  rcases o_bif h with ⟨hb1, h⟩ | ⟨hb1, h⟩
  · refine ev_goT kc_127 3 (t := 35) (e := 11) (L' := [some (.ref 0), some (.int l1), some (.int l2), some (.int l3)]) (st' := []) rfl hb1 ?_
    refine ev_go kc_127 1 (i' := 36) (L' := [some (.ref 0), some (.int l1), some (.int l2), some (.int l3)]) (st' := [.int l2]) (M' := M0) rfl ?_
    obtain rfl := Option.some.inj h
    rw [show _ from (hk.2 _ rfl)]
    exact ev_ret kc_127 rfl rfl rfl
  · refine ev_goF kc_127 3 (t := 35) (e := 11) (L' := [some (.ref 0), some (.int l1), some (.int l2), some (.int l3)]) (st' := []) rfl hb1 ?_
    refine ev_go kc_127 2 (i' := 13) (L' := [some (.ref 0), some (.int l1), some (.int l2), some (.int l3)]) (st' := [.int l3, .int l1]) (M' := M0) rfl ?_
    refine ev_cl0 (ins := .invokestatic 134) kc_127 rfl rfl (a := 178) (as := [.int l1, .int l3]) (rest := []) rfl rfl (Cs.deep (c_X11_has (M0 := M0)) (by decide)) ?_
    rcases o_bif h with ⟨hb3, h⟩ | ⟨hb3, h⟩
    · refine ev_goF kc_127 1 (t := 33) (e := 15) (L' := [some (.ref 0), some (.int l1), some (.int l2), some (.int l3)]) (st' := []) rfl (mB_e0f hb3) ?_
      refine ev_go kc_127 9 (i' := 24) (L' := [some (.ref 0), some (.int l1), some (.int l2), some (.int l3)]) (st' := [.int l3, .int (M0 35 2), .int (M0 35 1), .ref 35]) (M' := M0) rfl ?_
      refine ev_cl0 (ins := .invokestatic 219) kc_127 rfl rfl (a := 177) (as := [.int l3]) (rest := [.int (M0 35 2), .int (M0 35 1), .ref 35]) rfl rfl (Cs.deep (c_X11_bit (M0 := M0)) (by decide)) ?_
      refine ev_go kc_127 1 (i' := 26) (L' := [some (.ref 0), some (.int l1), some (.int l2), some (.int l3)]) (st' := [.int ((M0 35 2) ||| (f_X11_bit l3)), .int (M0 35 1), .ref 35]) (M' := M0) rfl ?_
      obtain ⟨v5, M5, hc5, h⟩ := o_b2 h
      refine ev_cl0 (ins := .invokevirtual 238) kc_127 rfl rfl (a := 93) (as := [.ref 35, .int (M0 35 1), .int ((M0 35 2) ||| (f_X11_bit l3))]) (rest := []) rfl rfl (Cs.deep (c_X9_stands hc5) (by decide)) ?_
      rcases o_bif h with ⟨hb6, h⟩ | ⟨hb6, h⟩
      · refine ev_goF kc_127 1 (t := 33) (e := 28) (L' := [some (.ref 0), some (.int l1), some (.int l2), some (.int l3)]) (st' := []) rfl (mB_e0f hb6) ?_
        refine ev_go kc_127 2 (i' := 30) (L' := [some (.ref 0), some (.int l1), some (.int l2), some (.int l3)]) (st' := [.int l3, .int l2]) (M' := M5) rfl ?_
        refine ev_cl0 (ins := .invokestatic 219) kc_127 rfl rfl (a := 177) (as := [.int l3]) (rest := [.int l2]) rfl rfl (Cs.deep (c_X11_bit (M0 := M5)) (by decide)) ?_
        refine ev_go kc_127 4 (i' := 8) (L' := [some (.ref 0), some (.int l1), some (.int (l2 ||| (f_X11_bit l3))), some (.int (l3 + (1 : Int32)))]) (st' := []) (M' := M5) rfl ?_
        obtain rfl := Option.some.inj h
        exact Ev.forget (mLe.kp (mLe.kp (mLe.kp (mLe.kp mLe.nl)))) (hk.1 ((l2 ||| (f_X11_bit l3)), (l3 + (1 : Int32)), M5) rfl)
      · refine ev_goT kc_127 1 (t := 33) (e := 28) (L' := [some (.ref 0), some (.int l1), some (.int l2), some (.int l3)]) (st' := []) rfl (mB_e0t hb6) ?_
        refine ev_go kc_127 2 (i' := 8) (L' := [some (.ref 0), some (.int l1), some (.int l2), some (.int (l3 + (1 : Int32)))]) (st' := []) (M' := M5) rfl ?_
        obtain rfl := Option.some.inj h
        exact Ev.forget (mLe.kp (mLe.kp (mLe.kp (mLe.kp mLe.nl)))) (hk.1 (l2, (l3 + (1 : Int32)), M5) rfl)
    · refine ev_goT kc_127 1 (t := 33) (e := 15) (L' := [some (.ref 0), some (.int l1), some (.int l2), some (.int l3)]) (st' := []) rfl (mB_e0t hb3) ?_
      refine ev_go kc_127 2 (i' := 8) (L' := [some (.ref 0), some (.int l1), some (.int l2), some (.int (l3 + (1 : Int32)))]) (st' := []) (M' := M0) rfl ?_
      obtain rfl := Option.some.inj h
      exact Ev.forget (mLe.kp (mLe.kp (mLe.kp (mLe.kp mLe.nl)))) (hk.1 (l2, (l3 + (1 : Int32)), M0) rfl)
def f_X11_sleeps_l8 (l1 : Int32) (l2 : Int32) (l3 : Int32) (M0 : mM) : Option (Int32 × mM) :=
  wh 100000 (fun s : Int32 × Int32 × mM => f_X11_sleeps_8 l1 s.1 s.2.1 s.2.2) (l2, l3, M0)
theorem e_X11_sleeps_l8 {l1 : Int32} {l2 : Int32} {l3 : Int32} {M0 : mM} {R : mZ} {out : (Int32 × mM)}  (h : f_X11_sleeps_l8 l1 l2 l3 M0 = some out) (hk : R = emW eI out) : Ev (4) 127 8 [some (.ref 0), some (.int l1), some (.int l2), some (.int l3)] [] M0 R := by
  unfold f_X11_sleeps_l8 at h
  exact wh_ev (P := fun s : Int32 × Int32 × mM => Ev (4) 127 8 [some (.ref 0), some (.int l1), some (.int s.1), some (.int s.2.1)] [] s.2.2 R) (Q := fun e : (Int32 × mM) => R = emW eI e) (fun s o hb h1 h2 => e_X11_sleeps_8  hb ⟨h1, h2⟩) 100000 _ _ h hk
def f_X11_sleeps  (M0 : mM) : Option (Int32 × mM) :=
  b1 (f_X9_holders 35 M0) (fun v8 => f_X11_sleeps_l8 v8 (0 : Int32) (0 : Int32) M0)
set_option maxRecDepth 8000 in
theorem c_X11_sleeps  {M0 : mM} {out : (Int32 × mM)} (h : f_X11_sleeps M0 = some out) : Cs (4) 127 [.ref 0] M0 (emW eI out) := by
  generalize hk : emW eI out = R
  replace hk := hk.symm
  unfold f_X11_sleeps at h
  show Ev (4) 127 0 [some (.ref 0), none, none, none] [] M0 R
  refine ev_go kc_127 2 (i' := 2) (L' := [some (.ref 0), none, none, none]) (st' := [.ref 35]) (M' := M0) rfl ?_
  obtain ⟨v8, hc8, h⟩ := o_b1 h
  refine ev_cl0 (ins := .invokevirtual 167) kc_127 rfl rfl (a := 76) (as := [.ref 35]) (rest := []) rfl rfl (Cs.deep (c_X9_holders (M0 := M0) hc8) (by decide)) ?_
  refine ev_go kc_127 5 (i' := 8) (L' := [some (.ref 0), some (.int v8), some (.int (0 : Int32)), some (.int (0 : Int32))]) (st' := []) (M' := M0) rfl ?_
  exact Ev.forget (mLe.kp (mLe.kp (mLe.kp (mLe.kp mLe.nl)))) (e_X11_sleeps_l8  h hk)
/-- WakeTower.fallOf(I)I: 131, W -/
theorem kc_131 : mKc 131 = k_X11_fallOf := rfl
def f_X11_fallOf (p1 : Int32) (M0 : mM) : Option (Int32 × mM) :=
  b2 (f_X9_copyFrom 47 35 M0) (fun v1 M1 => b2 (f_X9_takeDown 47 (f_X11_bit p1) M1) (fun v3 M3 => b2 (f_X9_collapse 47 M3) (fun v4 M4 => some (((1 : Int32) + v4), M4))))
set_option maxRecDepth 8000 in
theorem c_X11_fallOf {p1 : Int32} {M0 : mM} {out : (Int32 × mM)} (h : f_X11_fallOf p1 M0 = some out) : Cs (10) 131 [.ref 0, .int p1] M0 (emW eI out) := by
  generalize hk : emW eI out = R
  replace hk := hk.symm
  unfold f_X11_fallOf at h
  show Ev (10) 131 0 [some (.ref 0), some (.int p1)] [] M0 R
  refine ev_go kc_131 4 (i' := 4) (L' := [some (.ref 0), some (.int p1)]) (st' := [.ref 35, .ref 47]) (M' := M0) rfl ?_
  obtain ⟨v1, M1, hc1, h⟩ := o_b2 h
  refine ev_cl0 (ins := .invokevirtual 86) kc_131 rfl rfl (a := 73) (as := [.ref 47, .ref 35]) (rest := []) rfl rfl (Cs.deep (c_X9_copyFrom hc1) (by decide)) ?_
  refine ev_go kc_131 3 (i' := 8) (L' := [some (.ref 0), some (.int p1)]) (st' := [.int p1, .ref 47]) (M' := M1) rfl ?_
  refine ev_cl0 (ins := .invokestatic 219) kc_131 rfl rfl (a := 177) (as := [.int p1]) (rest := [.ref 47]) rfl rfl (Cs.deep (c_X11_bit (M0 := M1)) (by decide)) ?_
  obtain ⟨v3, M3, hc3, h⟩ := o_b2 h
  refine ev_cl0 (ins := .invokevirtual 222) kc_131 rfl rfl (a := 85) (as := [.ref 47, .int (f_X11_bit p1)]) (rest := []) rfl rfl (Cs.deep (c_X9_takeDown hc3) (by decide)) ?_
  refine ev_go kc_131 3 (i' := 13) (L' := [some (.ref 0), some (.int p1)]) (st' := [.ref 47, .int (1 : Int32)]) (M' := M3) rfl ?_
  obtain ⟨v4, M4, hc4, h⟩ := o_b2 h
  refine ev_cl0 (ins := .invokevirtual 256) kc_131 rfl rfl (a := 94) (as := [.ref 47]) (rest := [.int (1 : Int32)]) rfl rfl (Cs.deep (c_X9_collapse hc4) (by decide)) ?_
  refine ev_go kc_131 1 (i' := 15) (L' := [some (.ref 0), some (.int p1)]) (st' := [.int ((1 : Int32) + v4)]) (M' := M4) rfl ?_
  obtain rfl := Option.some.inj h
  rw [hk]
  exact ev_ret kc_131 rfl rfl rfl
/-- WakeTower.falls(I)I: 128, T -/
theorem kc_128 : mKc 128 = k_X11_falls := rfl
def f_X11_falls (p1 : Int32) (M0 : mM) : Option ((Int32 ⊕ Nat) × mM) :=
  tb (f_X11_mustBePerson p1 M0) (fun v1 M1 => tb (f_X11_mustBeUp p1 M1) (fun v2 M2 => b2 (f_X11_fallOf p1 M2) (fun v3 M3 => some (.inl v3, M3))))
set_option maxRecDepth 8000 in
theorem c_X11_falls {p1 : Int32} {M0 : mM} {out : ((Int32 ⊕ Nat) × mM)} (h : f_X11_falls p1 M0 = some out) : Cs (11) 128 [.ref 0, .int p1] M0 (emT eI out) := by
  generalize hk : emT eI out = R
  replace hk := hk.symm
  unfold f_X11_falls at h
  show Ev (11) 128 0 [some (.ref 0), some (.int p1)] [] M0 R
  refine ev_go kc_128 2 (i' := 2) (L' := [some (.ref 0), some (.int p1)]) (st' := [.int p1, .ref 0]) (M' := M0) rfl ?_
  rcases o_tb h with ⟨v1, M1, hc1, h⟩ | ⟨E1, M1, hc1, h⟩
  rotate_left
  · subst h
    rw [hk]
    exact ev_clT (ins := .invokevirtual 128) kc_128 rfl rfl (a := 170) (as := [.ref 0, .int p1]) (rest := []) rfl rfl rfl rfl (Cs.deep (c_X11_mustBePerson hc1) (by decide))
  refine ev_cl0 (ins := .invokevirtual 128) kc_128 rfl rfl (a := 170) (as := [.ref 0, .int p1]) (rest := []) rfl rfl (Cs.deep (c_X11_mustBePerson hc1) (by decide)) ?_
  refine ev_go kc_128 2 (i' := 5) (L' := [some (.ref 0), some (.int p1)]) (st' := [.int p1, .ref 0]) (M' := M1) rfl ?_
  rcases o_tb h with ⟨v2, M2, hc2, h⟩ | ⟨E2, M2, hc2, h⟩
  rotate_left
  · subst h
    rw [hk]
    exact ev_clT (ins := .invokevirtual 216) kc_128 rfl rfl (a := 175) (as := [.ref 0, .int p1]) (rest := []) rfl rfl rfl rfl (Cs.deep (c_X11_mustBeUp hc2) (by decide))
  refine ev_cl0 (ins := .invokevirtual 216) kc_128 rfl rfl (a := 175) (as := [.ref 0, .int p1]) (rest := []) rfl rfl (Cs.deep (c_X11_mustBeUp hc2) (by decide)) ?_
  refine ev_go kc_128 2 (i' := 8) (L' := [some (.ref 0), some (.int p1)]) (st' := [.int p1, .ref 0]) (M' := M2) rfl ?_
  obtain ⟨v3, M3, hc3, h⟩ := o_b2 h
  refine ev_cl0 (ins := .invokevirtual 247) kc_128 rfl rfl (a := 131) (as := [.ref 0, .int p1]) (rest := []) rfl rfl (Cs.deep (c_X11_fallOf hc3) (by decide)) ?_
  obtain rfl := Option.some.inj h
  rw [hk]
  exact ev_ret kc_128 rfl rfl rfl
/-- WakeTower.rounds(I)I: 129, T -/
theorem kc_129 : mKc 129 = k_X11_rounds := rfl
def f_X11_rounds (p1 : Int32) (M0 : mM) : Option ((Int32 ⊕ Nat) × mM) :=
  tb (f_X11_mustBePerson p1 M0) (fun v1 M1 => tb (f_X11_mustBeUp p1 M1) (fun v2 M2 => b2 (f_X11_fallOf p1 M2) (fun v3 M3 => some (.inl (M3 47 19), M3))))
set_option maxRecDepth 8000 in
theorem c_X11_rounds {p1 : Int32} {M0 : mM} {out : ((Int32 ⊕ Nat) × mM)} (h : f_X11_rounds p1 M0 = some out) : Cs (11) 129 [.ref 0, .int p1] M0 (emT eI out) := by
  generalize hk : emT eI out = R
  replace hk := hk.symm
  unfold f_X11_rounds at h
  show Ev (11) 129 0 [some (.ref 0), some (.int p1)] [] M0 R
  refine ev_go kc_129 2 (i' := 2) (L' := [some (.ref 0), some (.int p1)]) (st' := [.int p1, .ref 0]) (M' := M0) rfl ?_
  rcases o_tb h with ⟨v1, M1, hc1, h⟩ | ⟨E1, M1, hc1, h⟩
  rotate_left
  · subst h
    rw [hk]
    exact ev_clT (ins := .invokevirtual 128) kc_129 rfl rfl (a := 170) (as := [.ref 0, .int p1]) (rest := []) rfl rfl rfl rfl (Cs.deep (c_X11_mustBePerson hc1) (by decide))
  refine ev_cl0 (ins := .invokevirtual 128) kc_129 rfl rfl (a := 170) (as := [.ref 0, .int p1]) (rest := []) rfl rfl (Cs.deep (c_X11_mustBePerson hc1) (by decide)) ?_
  refine ev_go kc_129 2 (i' := 5) (L' := [some (.ref 0), some (.int p1)]) (st' := [.int p1, .ref 0]) (M' := M1) rfl ?_
  rcases o_tb h with ⟨v2, M2, hc2, h⟩ | ⟨E2, M2, hc2, h⟩
  rotate_left
  · subst h
    rw [hk]
    exact ev_clT (ins := .invokevirtual 216) kc_129 rfl rfl (a := 175) (as := [.ref 0, .int p1]) (rest := []) rfl rfl rfl rfl (Cs.deep (c_X11_mustBeUp hc2) (by decide))
  refine ev_cl0 (ins := .invokevirtual 216) kc_129 rfl rfl (a := 175) (as := [.ref 0, .int p1]) (rest := []) rfl rfl (Cs.deep (c_X11_mustBeUp hc2) (by decide)) ?_
  refine ev_go kc_129 2 (i' := 8) (L' := [some (.ref 0), some (.int p1)]) (st' := [.int p1, .ref 0]) (M' := M2) rfl ?_
  obtain ⟨v3, M3, hc3, h⟩ := o_b2 h
  refine ev_cl0 (ins := .invokevirtual 247) kc_129 rfl rfl (a := 131) (as := [.ref 0, .int p1]) (rest := []) rfl rfl (Cs.deep (c_X11_fallOf hc3) (by decide)) ?_
  refine ev_go kc_129 4 (i' := 13) (L' := [some (.ref 0), some (.int p1)]) (st' := [.int (M3 47 19)]) (M' := M3) rfl ?_
  obtain rfl := Option.some.inj h
  rw [hk]
  exact ev_ret kc_129 rfl rfl rfl
/-- WakeTower.fallen(II)I: 130, T -/
theorem kc_130 : mKc 130 = k_X11_fallen := rfl
def f_X11_fallen (p1 : Int32) (p2 : Int32) (M0 : mM) : Option ((Int32 ⊕ Nat) × mM) :=
  tb (f_X11_mustBePerson p1 M0) (fun v1 M1 => tb (f_X11_mustBeUp p1 M1) (fun v2 M2 => b2 (f_X11_fallOf p1 M2) (fun v3 M3 => bif decide (¬ p2 = 0) then (bif decide (p2 ≤ 0) then (some (.inl (-1 : Int32), M3)) else (bif decide (v3 ≤ p2) then (some (.inl (-1 : Int32), M3)) else (bif decide ((8 : Int32) < p2) then (some (.inl (-1 : Int32), M3)) else (gd (mIn (p2 - (1 : Int32)) 8) (some (.inl (M3 58 (ix (p2 - (1 : Int32)))), M3)))))) else (some (.inl p1, M3)))))
set_option maxRecDepth 8000 in
theorem c_X11_fallen {p1 : Int32} {p2 : Int32} {M0 : mM} {out : ((Int32 ⊕ Nat) × mM)} (h : f_X11_fallen p1 p2 M0 = some out) : Cs (11) 130 [.ref 0, .int p1, .int p2] M0 (emT eI out) := by
  generalize hk : emT eI out = R
  replace hk := hk.symm
  unfold f_X11_fallen at h
  show Ev (11) 130 0 [some (.ref 0), some (.int p1), some (.int p2), none] [] M0 R
  refine ev_go kc_130 2 (i' := 2) (L' := [some (.ref 0), some (.int p1), some (.int p2), none]) (st' := [.int p1, .ref 0]) (M' := M0) rfl ?_
  rcases o_tb h with ⟨v1, M1, hc1, h⟩ | ⟨E1, M1, hc1, h⟩
  rotate_left
  · subst h
    rw [hk]
    exact ev_clT (ins := .invokevirtual 128) kc_130 rfl rfl (a := 170) (as := [.ref 0, .int p1]) (rest := []) rfl rfl rfl rfl (Cs.deep (c_X11_mustBePerson hc1) (by decide))
  refine ev_cl0 (ins := .invokevirtual 128) kc_130 rfl rfl (a := 170) (as := [.ref 0, .int p1]) (rest := []) rfl rfl (Cs.deep (c_X11_mustBePerson hc1) (by decide)) ?_
  refine ev_go kc_130 2 (i' := 5) (L' := [some (.ref 0), some (.int p1), some (.int p2), none]) (st' := [.int p1, .ref 0]) (M' := M1) rfl ?_
  rcases o_tb h with ⟨v2, M2, hc2, h⟩ | ⟨E2, M2, hc2, h⟩
  rotate_left
  · subst h
    rw [hk]
    exact ev_clT (ins := .invokevirtual 216) kc_130 rfl rfl (a := 175) (as := [.ref 0, .int p1]) (rest := []) rfl rfl rfl rfl (Cs.deep (c_X11_mustBeUp hc2) (by decide))
  refine ev_cl0 (ins := .invokevirtual 216) kc_130 rfl rfl (a := 175) (as := [.ref 0, .int p1]) (rest := []) rfl rfl (Cs.deep (c_X11_mustBeUp hc2) (by decide)) ?_
  refine ev_go kc_130 2 (i' := 8) (L' := [some (.ref 0), some (.int p1), some (.int p2), none]) (st' := [.int p1, .ref 0]) (M' := M2) rfl ?_
  obtain ⟨v3, M3, hc3, h⟩ := o_b2 h
  refine ev_cl0 (ins := .invokevirtual 247) kc_130 rfl rfl (a := 131) (as := [.ref 0, .int p1]) (rest := []) rfl rfl (Cs.deep (c_X11_fallOf hc3) (by decide)) ?_
  rcases o_bif h with ⟨hb4, h⟩ | ⟨hb4, h⟩
  · refine ev_goT kc_130 3 (t := 14) (e := 12) (L' := [some (.ref 0), some (.int p1), some (.int p2), some (.int v3)]) (st' := []) rfl hb4 ?_
    rcases o_bif h with ⟨hb5, h⟩ | ⟨hb5, h⟩
    · refine ev_goT kc_130 2 (t := 30) (e := 16) (L' := [some (.ref 0), some (.int p1), some (.int p2), some (.int v3)]) (st' := []) rfl hb5 ?_
      refine ev_go kc_130 1 (i' := 31) (L' := [some (.ref 0), some (.int p1), some (.int p2), some (.int v3)]) (st' := [.int (-1 : Int32)]) (M' := M3) rfl ?_
      obtain rfl := Option.some.inj h
      rw [hk]
      exact ev_ret kc_130 rfl rfl rfl
    · refine ev_goF kc_130 2 (t := 30) (e := 16) (L' := [some (.ref 0), some (.int p1), some (.int p2), some (.int v3)]) (st' := []) rfl hb5 ?_
      rcases o_bif h with ⟨hb6, h⟩ | ⟨hb6, h⟩
      · refine ev_goT kc_130 3 (t := 30) (e := 19) (L' := [some (.ref 0), some (.int p1), some (.int p2), some (.int v3)]) (st' := []) rfl hb6 ?_
        refine ev_go kc_130 1 (i' := 31) (L' := [some (.ref 0), some (.int p1), some (.int p2), some (.int v3)]) (st' := [.int (-1 : Int32)]) (M' := M3) rfl ?_
        obtain rfl := Option.some.inj h
        rw [hk]
        exact ev_ret kc_130 rfl rfl rfl
      · refine ev_goF kc_130 3 (t := 30) (e := 19) (L' := [some (.ref 0), some (.int p1), some (.int p2), some (.int v3)]) (st' := []) rfl hb6 ?_
        rcases o_bif h with ⟨hb7, h⟩ | ⟨hb7, h⟩
        · refine ev_goT kc_130 3 (t := 30) (e := 22) (L' := [some (.ref 0), some (.int p1), some (.int p2), some (.int v3)]) (st' := []) rfl hb7 ?_
          refine ev_go kc_130 1 (i' := 31) (L' := [some (.ref 0), some (.int p1), some (.int p2), some (.int v3)]) (st' := [.int (-1 : Int32)]) (M' := M3) rfl ?_
          obtain rfl := Option.some.inj h
          rw [hk]
          exact ev_ret kc_130 rfl rfl rfl
        · refine ev_goF kc_130 3 (t := 30) (e := 22) (L' := [some (.ref 0), some (.int p1), some (.int p2), some (.int v3)]) (st' := []) rfl hb7 ?_
          refine ev_go kc_130 6 (i' := 28) (L' := [some (.ref 0), some (.int p1), some (.int p2), some (.int v3)]) (st' := [.int (p2 - (1 : Int32)), .ref 58]) (M' := M3) rfl ?_
          obtain ⟨hg8, h⟩ := o_gd h
          refine ev_ia kc_130 rfl rfl hg8 ?_
          refine ev_go kc_130 1 (i' := 31) (L' := [some (.ref 0), some (.int p1), some (.int p2), some (.int v3)]) (st' := [.int (M3 58 (ix (p2 - (1 : Int32))))]) (M' := M3) rfl ?_
          obtain rfl := Option.some.inj h
          rw [hk]
          exact ev_ret kc_130 rfl rfl rfl
  · refine ev_goF kc_130 3 (t := 14) (e := 12) (L' := [some (.ref 0), some (.int p1), some (.int p2), some (.int v3)]) (st' := []) rfl hb4 ?_
    refine ev_go kc_130 1 (i' := 13) (L' := [some (.ref 0), some (.int p1), some (.int p2), some (.int v3)]) (st' := [.int p1]) (M' := M3) rfl ?_
    obtain rfl := Option.some.inj h
    rw [hk]
    exact ev_ret kc_130 rfl rfl rfl
/-- WakeTower.key()I: 132, W -/
theorem kc_132 : mKc 132 = k_X11_key := rfl
def f_X11_key_20 (l1 : Int32) (l2 : Int32) (l3 : Int32) (s0 : Int32) (M0 : mM) : Option ((Int32 × mM) ⊕ (Int32 × Int32 × Int32 × mM)) :=
  bif decide (s0 ≤ l2) then (some (.inr (l1, l2, (l3 + (1 : Int32)), M0))) else (some (.inr (l3, s0, (l3 + (1 : Int32)), M0)))
set_option maxRecDepth 8000 in
theorem e_X11_key_20 {l1 : Int32} {l2 : Int32} {l3 : Int32} {s0 : Int32} {M0 : mM} {R : mZ} {out : ((Int32 × mM) ⊕ (Int32 × Int32 × Int32 × mM))}  (h : f_X11_key_20 l1 l2 l3 s0 M0 = some out) (hk : (∀ s' : Int32 × Int32 × Int32 × mM, out = .inr s' → Ev (11) 132 6 [some (.ref 0), some (.int s'.1), some (.int s'.2.1), some (.int s'.2.2.1), none] [] (s'.2.2.2) R) ∧ (∀ e1 : (Int32 × mM), out = .inl e1 → R = emW eI e1)) : Ev (11) 132 20 [some (.ref 0), some (.int l1), some (.int l2), some (.int l3), none] [.int s0] M0 R := by
  unfold f_X11_key_20 at h
  rcases o_bif h with ⟨hb1, h⟩ | ⟨hb1, h⟩
  · refine ev_goT kc_132 4 (t := 28) (e := 24) (L' := [some (.ref 0), some (.int l1), some (.int l2), some (.int l3), some (.int s0)]) (st' := []) rfl hb1 ?_
    refine ev_go kc_132 2 (i' := 6) (L' := [some (.ref 0), some (.int l1), some (.int l2), some (.int (l3 + (1 : Int32))), some (.int s0)]) (st' := []) (M' := M0) rfl ?_
    obtain rfl := Option.some.inj h
    exact Ev.forget (mLe.kp (mLe.kp (mLe.kp (mLe.kp (mLe.sk mLe.nl))))) (hk.1 (l1, l2, (l3 + (1 : Int32)), M0) rfl)
  · refine ev_goF kc_132 4 (t := 28) (e := 24) (L' := [some (.ref 0), some (.int l1), some (.int l2), some (.int l3), some (.int s0)]) (st' := []) rfl hb1 ?_
    refine ev_go kc_132 6 (i' := 6) (L' := [some (.ref 0), some (.int l3), some (.int s0), some (.int (l3 + (1 : Int32))), some (.int s0)]) (st' := []) (M' := M0) rfl ?_
    obtain rfl := Option.some.inj h
    exact Ev.forget (mLe.kp (mLe.kp (mLe.kp (mLe.kp (mLe.sk mLe.nl))))) (hk.1 (l3, s0, (l3 + (1 : Int32)), M0) rfl)
def f_X11_key_6 (l1 : Int32) (l2 : Int32) (l3 : Int32) (M0 : mM) : Option ((Int32 × mM) ⊕ (Int32 × Int32 × Int32 × mM)) :=
  bif decide ((8 : Int32) ≤ l3) then (some (.inl (l1, M0))) else (bif (f_X11_has (M0 35 1) l3) then (b2 (f_X11_fallOf l3 M0) (fun v5 M5 => f_X11_key_20 l1 l2 l3 v5 M5)) else (f_X11_key_20 l1 l2 l3 (0 : Int32) M0))
set_option maxRecDepth 8000 in
theorem e_X11_key_6 {l1 : Int32} {l2 : Int32} {l3 : Int32} {M0 : mM} {R : mZ} {out : ((Int32 × mM) ⊕ (Int32 × Int32 × Int32 × mM))}  (h : f_X11_key_6 l1 l2 l3 M0 = some out) (hk : (∀ s' : Int32 × Int32 × Int32 × mM, out = .inr s' → Ev (11) 132 6 [some (.ref 0), some (.int s'.1), some (.int s'.2.1), some (.int s'.2.2.1), none] [] (s'.2.2.2) R) ∧ (∀ e1 : (Int32 × mM), out = .inl e1 → R = emW eI e1)) : Ev (11) 132 6 [some (.ref 0), some (.int l1), some (.int l2), some (.int l3), none] [] M0 R := by
  unfold f_X11_key_6 at h
  rcases o_bif h with ⟨hb2, h⟩ | ⟨hb2, h⟩
  · refine ev_goT kc_132 3 (t := 30) (e := 9) (L' := [some (.ref 0), some (.int l1), some (.int l2), some (.int l3), none]) (st' := []) rfl hb2 ?_
    refine ev_go kc_132 1 (i' := 31) (L' := [some (.ref 0), some (.int l1), some (.int l2), some (.int l3), none]) (st' := [.int l1]) (M' := M0) rfl ?_
    obtain rfl := Option.some.inj h
    rw [show _ from (hk.2 _ rfl)]
    exact ev_ret kc_132 rfl rfl rfl
  · refine ev_goF kc_132 3 (t := 30) (e := 9) (L' := [some (.ref 0), some (.int l1), some (.int l2), some (.int l3), none]) (st' := []) rfl hb2 ?_
    refine ev_go kc_132 4 (i' := 13) (L' := [some (.ref 0), some (.int l1), some (.int l2), some (.int l3), none]) (st' := [.int l3, .int (M0 35 1)]) (M' := M0) rfl ?_
    refine ev_cl0 (ins := .invokestatic 134) kc_132 rfl rfl (a := 178) (as := [.int (M0 35 1), .int l3]) (rest := []) rfl rfl (Cs.deep (c_X11_has (M0 := M0)) (by decide)) ?_
    rcases o_bif h with ⟨hb4, h⟩ | ⟨hb4, h⟩
    · refine ev_goF kc_132 1 (t := 19) (e := 15) (L' := [some (.ref 0), some (.int l1), some (.int l2), some (.int l3), none]) (st' := []) rfl (mB_e0f hb4) ?_
      refine ev_go kc_132 2 (i' := 17) (L' := [some (.ref 0), some (.int l1), some (.int l2), some (.int l3), none]) (st' := [.int l3, .ref 0]) (M' := M0) rfl ?_
      obtain ⟨v5, M5, hc5, h⟩ := o_b2 h
      refine ev_cl0 (ins := .invokevirtual 247) kc_132 rfl rfl (a := 131) (as := [.ref 0, .int l3]) (rest := []) rfl rfl (Cs.deep (c_X11_fallOf hc5) (by decide)) ?_
      refine ev_go kc_132 1 (i' := 20) (L' := [some (.ref 0), some (.int l1), some (.int l2), some (.int l3), none]) (st' := [.int v5]) (M' := M5) rfl ?_
      exact Ev.forget (mLe.kp (mLe.kp (mLe.kp (mLe.kp (mLe.sk mLe.nl))))) (e_X11_key_20  h hk)
    · refine ev_goT kc_132 1 (t := 19) (e := 15) (L' := [some (.ref 0), some (.int l1), some (.int l2), some (.int l3), none]) (st' := []) rfl (mB_e0t hb4) ?_
      refine ev_go kc_132 1 (i' := 20) (L' := [some (.ref 0), some (.int l1), some (.int l2), some (.int l3), none]) (st' := [.int (0 : Int32)]) (M' := M0) rfl ?_
      exact Ev.forget (mLe.kp (mLe.kp (mLe.kp (mLe.kp (mLe.sk mLe.nl))))) (e_X11_key_20  h hk)
def f_X11_key_l6 (l1 : Int32) (l2 : Int32) (l3 : Int32) (M0 : mM) : Option (Int32 × mM) :=
  wh 100000 (fun s : Int32 × Int32 × Int32 × mM => f_X11_key_6 s.1 s.2.1 s.2.2.1 s.2.2.2) (l1, l2, l3, M0)
theorem e_X11_key_l6 {l1 : Int32} {l2 : Int32} {l3 : Int32} {M0 : mM} {R : mZ} {out : (Int32 × mM)}  (h : f_X11_key_l6 l1 l2 l3 M0 = some out) (hk : R = emW eI out) : Ev (11) 132 6 [some (.ref 0), some (.int l1), some (.int l2), some (.int l3), none] [] M0 R := by
  unfold f_X11_key_l6 at h
  exact wh_ev (P := fun s : Int32 × Int32 × Int32 × mM => Ev (11) 132 6 [some (.ref 0), some (.int s.1), some (.int s.2.1), some (.int s.2.2.1), none] [] s.2.2.2 R) (Q := fun e : (Int32 × mM) => R = emW eI e) (fun s o hb h1 h2 => e_X11_key_6  hb ⟨h1, h2⟩) 100000 _ _ h hk
def f_X11_key  (M0 : mM) : Option (Int32 × mM) :=
  f_X11_key_l6 (-1 : Int32) (0 : Int32) (0 : Int32) M0
set_option maxRecDepth 8000 in
theorem c_X11_key  {M0 : mM} {out : (Int32 × mM)} (h : f_X11_key M0 = some out) : Cs (11) 132 [.ref 0] M0 (emW eI out) := by
  generalize hk : emW eI out = R
  replace hk := hk.symm
  unfold f_X11_key at h
  show Ev (11) 132 0 [some (.ref 0), none, none, none, none] [] M0 R
  refine ev_go kc_132 6 (i' := 6) (L' := [some (.ref 0), some (.int (-1 : Int32)), some (.int (0 : Int32)), some (.int (0 : Int32)), none]) (st' := []) (M' := M0) rfl ?_
  exact Ev.forget (mLe.kp (mLe.kp (mLe.kp (mLe.kp (mLe.sk mLe.nl))))) (e_X11_key_l6  h hk)
/-- WakeTower.pillars()I: 133, W -/
theorem kc_133 : mKc 133 = k_X11_pillars := rfl
def f_X11_pillars_4 (l1 : Int32) (l2 : Int32) (M0 : mM) : Option ((Int32 × mM) ⊕ (Int32 × Int32 × mM)) :=
  bif decide ((256 : Int32) ≤ l2) then (some (.inl (l1, M0))) else (bif (f_X11_within l2 (M0 35 1)) then (b2 (f_X9_stands 35 l2 (M0 35 2) M0) (fun v4 M4 => bif v4 then (some (.inr ((l1 + (1 : Int32)), (l2 + (1 : Int32)), M4))) else (some (.inr (l1, (l2 + (1 : Int32)), M4))))) else (some (.inr (l1, (l2 + (1 : Int32)), M0))))
set_option maxRecDepth 8000 in
theorem e_X11_pillars_4 {l1 : Int32} {l2 : Int32} {M0 : mM} {R : mZ} {out : ((Int32 × mM) ⊕ (Int32 × Int32 × mM))}  (h : f_X11_pillars_4 l1 l2 M0 = some out) (hk : (∀ s' : Int32 × Int32 × mM, out = .inr s' → Ev (4) 133 4 [some (.ref 0), some (.int s'.1), some (.int s'.2.1)] [] (s'.2.2) R) ∧ (∀ e1 : (Int32 × mM), out = .inl e1 → R = emW eI e1)) : Ev (4) 133 4 [some (.ref 0), some (.int l1), some (.int l2)] [] M0 R := by
  unfold f_X11_pillars_4 at h
  rcases o_bif h with ⟨hb1, h⟩ | ⟨hb1, h⟩
  · refine ev_goT kc_133 3 (t := 24) (e := 7) (L' := [some (.ref 0), some (.int l1), some (.int l2)]) (st' := []) rfl hb1 ?_
    refine ev_go kc_133 1 (i' := 25) (L' := [some (.ref 0), some (.int l1), some (.int l2)]) (st' := [.int l1]) (M' := M0) rfl ?_
    obtain rfl := Option.some.inj h
    rw [show _ from (hk.2 _ rfl)]
    exact ev_ret kc_133 rfl rfl rfl
  · refine ev_goF kc_133 3 (t := 24) (e := 7) (L' := [some (.ref 0), some (.int l1), some (.int l2)]) (st' := []) rfl hb1 ?_
    refine ev_go kc_133 4 (i' := 11) (L' := [some (.ref 0), some (.int l1), some (.int l2)]) (st' := [.int (M0 35 1), .int l2]) (M' := M0) rfl ?_
    refine ev_cl0 (ins := .invokestatic 259) kc_133 rfl rfl (a := 179) (as := [.int l2, .int (M0 35 1)]) (rest := []) rfl rfl (Cs.deep (c_X11_within (M0 := M0)) (by decide)) ?_
    rcases o_bif h with ⟨hb3, h⟩ | ⟨hb3, h⟩
    · refine ev_goF kc_133 1 (t := 22) (e := 13) (L' := [some (.ref 0), some (.int l1), some (.int l2)]) (st' := []) rfl (mB_e0f hb3) ?_
      refine ev_go kc_133 6 (i' := 19) (L' := [some (.ref 0), some (.int l1), some (.int l2)]) (st' := [.int (M0 35 2), .int l2, .ref 35]) (M' := M0) rfl ?_
      obtain ⟨v4, M4, hc4, h⟩ := o_b2 h
      refine ev_cl0 (ins := .invokevirtual 238) kc_133 rfl rfl (a := 93) (as := [.ref 35, .int l2, .int (M0 35 2)]) (rest := []) rfl rfl (Cs.deep (c_X9_stands hc4) (by decide)) ?_
      rcases o_bif h with ⟨hb5, h⟩ | ⟨hb5, h⟩
      · refine ev_goF kc_133 1 (t := 22) (e := 21) (L' := [some (.ref 0), some (.int l1), some (.int l2)]) (st' := []) rfl (mB_e0f hb5) ?_
        refine ev_go kc_133 3 (i' := 4) (L' := [some (.ref 0), some (.int (l1 + (1 : Int32))), some (.int (l2 + (1 : Int32)))]) (st' := []) (M' := M4) rfl ?_
        obtain rfl := Option.some.inj h
        exact Ev.forget (mLe.kp (mLe.kp (mLe.kp mLe.nl))) (hk.1 ((l1 + (1 : Int32)), (l2 + (1 : Int32)), M4) rfl)
      · refine ev_goT kc_133 1 (t := 22) (e := 21) (L' := [some (.ref 0), some (.int l1), some (.int l2)]) (st' := []) rfl (mB_e0t hb5) ?_
        refine ev_go kc_133 2 (i' := 4) (L' := [some (.ref 0), some (.int l1), some (.int (l2 + (1 : Int32)))]) (st' := []) (M' := M4) rfl ?_
        obtain rfl := Option.some.inj h
        exact Ev.forget (mLe.kp (mLe.kp (mLe.kp mLe.nl))) (hk.1 (l1, (l2 + (1 : Int32)), M4) rfl)
    · refine ev_goT kc_133 1 (t := 22) (e := 13) (L' := [some (.ref 0), some (.int l1), some (.int l2)]) (st' := []) rfl (mB_e0t hb3) ?_
      refine ev_go kc_133 2 (i' := 4) (L' := [some (.ref 0), some (.int l1), some (.int (l2 + (1 : Int32)))]) (st' := []) (M' := M0) rfl ?_
      obtain rfl := Option.some.inj h
      exact Ev.forget (mLe.kp (mLe.kp (mLe.kp mLe.nl))) (hk.1 (l1, (l2 + (1 : Int32)), M0) rfl)
def f_X11_pillars_l4 (l1 : Int32) (l2 : Int32) (M0 : mM) : Option (Int32 × mM) :=
  wh 100000 (fun s : Int32 × Int32 × mM => f_X11_pillars_4 s.1 s.2.1 s.2.2) (l1, l2, M0)
theorem e_X11_pillars_l4 {l1 : Int32} {l2 : Int32} {M0 : mM} {R : mZ} {out : (Int32 × mM)}  (h : f_X11_pillars_l4 l1 l2 M0 = some out) (hk : R = emW eI out) : Ev (4) 133 4 [some (.ref 0), some (.int l1), some (.int l2)] [] M0 R := by
  unfold f_X11_pillars_l4 at h
  exact wh_ev (P := fun s : Int32 × Int32 × mM => Ev (4) 133 4 [some (.ref 0), some (.int s.1), some (.int s.2.1)] [] s.2.2 R) (Q := fun e : (Int32 × mM) => R = emW eI e) (fun s o hb h1 h2 => e_X11_pillars_4  hb ⟨h1, h2⟩) 100000 _ _ h hk
def f_X11_pillars  (M0 : mM) : Option (Int32 × mM) :=
  f_X11_pillars_l4 (0 : Int32) (0 : Int32) M0
set_option maxRecDepth 8000 in
theorem c_X11_pillars  {M0 : mM} {out : (Int32 × mM)} (h : f_X11_pillars M0 = some out) : Cs (4) 133 [.ref 0] M0 (emW eI out) := by
  generalize hk : emW eI out = R
  replace hk := hk.symm
  unfold f_X11_pillars at h
  show Ev (4) 133 0 [some (.ref 0), none, none] [] M0 R
  refine ev_go kc_133 4 (i' := 4) (L' := [some (.ref 0), some (.int (0 : Int32)), some (.int (0 : Int32))]) (st' := []) (M' := M0) rfl ?_
  exact Ev.forget (mLe.kp (mLe.kp (mLe.kp mLe.nl))) (e_X11_pillars_l4  h hk)
/-- WakeTower.left()I: 134, W -/
theorem kc_134 : mKc 134 = k_X11_left := rfl
def f_X11_left_24 (l1 : Int32) (l2 : Int32) (l3 : Int32) (s0 : Bool) (M0 : mM) : Option ((Int32 × mM) ⊕ (Int32 × Int32 × mM)) :=
  bif s0 then (bif (f_X11_within l3 (M0 35 1)) then (bif decide ((l3 &&& l1) = 0) then (some (.inr (l2, (l3 + (1 : Int32)), M0))) else (b2 (f_X9_stands 35 l3 (M0 35 2) M0) (fun v5 M5 => bif v5 then (some (.inr (l3, (l3 + (1 : Int32)), M5))) else (some (.inr (l2, (l3 + (1 : Int32)), M5)))))) else (some (.inr (l2, (l3 + (1 : Int32)), M0)))) else (some (.inr (l2, (l3 + (1 : Int32)), M0)))
set_option maxRecDepth 8000 in
theorem e_X11_left_24 {l1 : Int32} {l2 : Int32} {l3 : Int32} {s0 : Bool} {M0 : mM} {R : mZ} {out : ((Int32 × mM) ⊕ (Int32 × Int32 × mM))}  (h : f_X11_left_24 l1 l2 l3 s0 M0 = some out) (hk : (∀ s' : Int32 × Int32 × mM, out = .inr s' → Ev (4) 134 13 [some (.ref 0), some (.int l1), some (.int s'.1), some (.int s'.2.1), none] [] (s'.2.2) R) ∧ (∀ e1 : (Int32 × mM), out = .inl e1 → R = emW eI e1)) : Ev (4) 134 24 [some (.ref 0), some (.int l1), some (.int l2), some (.int l3), none] [.int (mB s0)] M0 R := by
  unfold f_X11_left_24 at h
  rcases o_bif h with ⟨hb1, h⟩ | ⟨hb1, h⟩
  · refine ev_goF kc_134 3 (t := 47) (e := 27) (L' := [some (.ref 0), some (.int l1), some (.int l2), some (.int l3), some (.int (mB s0))]) (st' := []) rfl (mB_e0f hb1) ?_
    refine ev_go kc_134 4 (i' := 31) (L' := [some (.ref 0), some (.int l1), some (.int l2), some (.int l3), some (.int (mB s0))]) (st' := [.int (M0 35 1), .int l3]) (M' := M0) rfl ?_
    refine ev_cl0 (ins := .invokestatic 259) kc_134 rfl rfl (a := 179) (as := [.int l3, .int (M0 35 1)]) (rest := []) rfl rfl (Cs.deep (c_X11_within (M0 := M0)) (by decide)) ?_
    rcases o_bif h with ⟨hb3, h⟩ | ⟨hb3, h⟩
    · refine ev_goF kc_134 1 (t := 47) (e := 33) (L' := [some (.ref 0), some (.int l1), some (.int l2), some (.int l3), some (.int (mB s0))]) (st' := []) rfl (mB_e0f hb3) ?_
      rcases o_bif h with ⟨hb4, h⟩ | ⟨hb4, h⟩
      · refine ev_goT kc_134 4 (t := 47) (e := 37) (L' := [some (.ref 0), some (.int l1), some (.int l2), some (.int l3), some (.int (mB s0))]) (st' := []) rfl hb4 ?_
        refine ev_go kc_134 2 (i' := 13) (L' := [some (.ref 0), some (.int l1), some (.int l2), some (.int (l3 + (1 : Int32))), some (.int (mB s0))]) (st' := []) (M' := M0) rfl ?_
        obtain rfl := Option.some.inj h
        exact Ev.forget (mLe.kp (mLe.kp (mLe.kp (mLe.kp (mLe.sk mLe.nl))))) (hk.1 (l2, (l3 + (1 : Int32)), M0) rfl)
      · refine ev_goF kc_134 4 (t := 47) (e := 37) (L' := [some (.ref 0), some (.int l1), some (.int l2), some (.int l3), some (.int (mB s0))]) (st' := []) rfl hb4 ?_
        refine ev_go kc_134 6 (i' := 43) (L' := [some (.ref 0), some (.int l1), some (.int l2), some (.int l3), some (.int (mB s0))]) (st' := [.int (M0 35 2), .int l3, .ref 35]) (M' := M0) rfl ?_
        obtain ⟨v5, M5, hc5, h⟩ := o_b2 h
        refine ev_cl0 (ins := .invokevirtual 238) kc_134 rfl rfl (a := 93) (as := [.ref 35, .int l3, .int (M0 35 2)]) (rest := []) rfl rfl (Cs.deep (c_X9_stands hc5) (by decide)) ?_
        rcases o_bif h with ⟨hb6, h⟩ | ⟨hb6, h⟩
        · refine ev_goF kc_134 1 (t := 47) (e := 45) (L' := [some (.ref 0), some (.int l1), some (.int l2), some (.int l3), some (.int (mB s0))]) (st' := []) rfl (mB_e0f hb6) ?_
          refine ev_go kc_134 4 (i' := 13) (L' := [some (.ref 0), some (.int l1), some (.int l3), some (.int (l3 + (1 : Int32))), some (.int (mB s0))]) (st' := []) (M' := M5) rfl ?_
          obtain rfl := Option.some.inj h
          exact Ev.forget (mLe.kp (mLe.kp (mLe.kp (mLe.kp (mLe.sk mLe.nl))))) (hk.1 (l3, (l3 + (1 : Int32)), M5) rfl)
        · refine ev_goT kc_134 1 (t := 47) (e := 45) (L' := [some (.ref 0), some (.int l1), some (.int l2), some (.int l3), some (.int (mB s0))]) (st' := []) rfl (mB_e0t hb6) ?_
          refine ev_go kc_134 2 (i' := 13) (L' := [some (.ref 0), some (.int l1), some (.int l2), some (.int (l3 + (1 : Int32))), some (.int (mB s0))]) (st' := []) (M' := M5) rfl ?_
          obtain rfl := Option.some.inj h
          exact Ev.forget (mLe.kp (mLe.kp (mLe.kp (mLe.kp (mLe.sk mLe.nl))))) (hk.1 (l2, (l3 + (1 : Int32)), M5) rfl)
    · refine ev_goT kc_134 1 (t := 47) (e := 33) (L' := [some (.ref 0), some (.int l1), some (.int l2), some (.int l3), some (.int (mB s0))]) (st' := []) rfl (mB_e0t hb3) ?_
      refine ev_go kc_134 2 (i' := 13) (L' := [some (.ref 0), some (.int l1), some (.int l2), some (.int (l3 + (1 : Int32))), some (.int (mB s0))]) (st' := []) (M' := M0) rfl ?_
      obtain rfl := Option.some.inj h
      exact Ev.forget (mLe.kp (mLe.kp (mLe.kp (mLe.kp (mLe.sk mLe.nl))))) (hk.1 (l2, (l3 + (1 : Int32)), M0) rfl)
  · refine ev_goT kc_134 3 (t := 47) (e := 27) (L' := [some (.ref 0), some (.int l1), some (.int l2), some (.int l3), some (.int (mB s0))]) (st' := []) rfl (mB_e0t hb1) ?_
    refine ev_go kc_134 2 (i' := 13) (L' := [some (.ref 0), some (.int l1), some (.int l2), some (.int (l3 + (1 : Int32))), some (.int (mB s0))]) (st' := []) (M' := M0) rfl ?_
    obtain rfl := Option.some.inj h
    exact Ev.forget (mLe.kp (mLe.kp (mLe.kp (mLe.kp (mLe.sk mLe.nl))))) (hk.1 (l2, (l3 + (1 : Int32)), M0) rfl)
def f_X11_left_13 (l1 : Int32) (l2 : Int32) (l3 : Int32) (M0 : mM) : Option ((Int32 × mM) ⊕ (Int32 × Int32 × mM)) :=
  bif decide ((256 : Int32) ≤ l3) then (some (.inl (l2, M0))) else (bif decide ((f_J6_bitCount_0f7a4 l2) ≤ (f_J6_bitCount_0f7a4 l3)) then (f_X11_left_24 l1 l2 l3 false M0) else (f_X11_left_24 l1 l2 l3 true M0))
set_option maxRecDepth 8000 in
theorem e_X11_left_13 {l1 : Int32} {l2 : Int32} {l3 : Int32} {M0 : mM} {R : mZ} {out : ((Int32 × mM) ⊕ (Int32 × Int32 × mM))}  (h : f_X11_left_13 l1 l2 l3 M0 = some out) (hk : (∀ s' : Int32 × Int32 × mM, out = .inr s' → Ev (4) 134 13 [some (.ref 0), some (.int l1), some (.int s'.1), some (.int s'.2.1), none] [] (s'.2.2) R) ∧ (∀ e1 : (Int32 × mM), out = .inl e1 → R = emW eI e1)) : Ev (4) 134 13 [some (.ref 0), some (.int l1), some (.int l2), some (.int l3), none] [] M0 R := by
  unfold f_X11_left_13 at h
  rcases o_bif h with ⟨hb7, h⟩ | ⟨hb7, h⟩
  · refine ev_goT kc_134 3 (t := 49) (e := 16) (L' := [some (.ref 0), some (.int l1), some (.int l2), some (.int l3), none]) (st' := []) rfl hb7 ?_
    refine ev_go kc_134 1 (i' := 50) (L' := [some (.ref 0), some (.int l1), some (.int l2), some (.int l3), none]) (st' := [.int l2]) (M' := M0) rfl ?_
    obtain rfl := Option.some.inj h
    rw [show _ from (hk.2 _ rfl)]
    exact ev_ret kc_134 rfl rfl rfl
  · refine ev_goF kc_134 3 (t := 49) (e := 16) (L' := [some (.ref 0), some (.int l1), some (.int l2), some (.int l3), none]) (st' := []) rfl hb7 ?_
    refine ev_go kc_134 1 (i' := 17) (L' := [some (.ref 0), some (.int l1), some (.int l2), some (.int l3), none]) (st' := [.int l3]) (M' := M0) rfl ?_
    refine ev_cl0 (ins := .invokestatic 262) kc_134 rfl rfl (a := 10) (as := [.int l3]) (rest := []) rfl rfl (Cs.deep (c_J6_bitCount_0f7a4 (M0 := M0)) (by decide)) ?_
    refine ev_go kc_134 1 (i' := 19) (L' := [some (.ref 0), some (.int l1), some (.int l2), some (.int l3), none]) (st' := [.int l2, .int (f_J6_bitCount_0f7a4 l3)]) (M' := M0) rfl ?_
    refine ev_cl0 (ins := .invokestatic 262) kc_134 rfl rfl (a := 10) (as := [.int l2]) (rest := [.int (f_J6_bitCount_0f7a4 l3)]) rfl rfl (Cs.deep (c_J6_bitCount_0f7a4 (M0 := M0)) (by decide)) ?_
    rcases o_bif h with ⟨hb10, h⟩ | ⟨hb10, h⟩
    · refine ev_goT kc_134 1 (t := 23) (e := 21) (L' := [some (.ref 0), some (.int l1), some (.int l2), some (.int l3), none]) (st' := []) rfl hb10 ?_
      refine ev_go kc_134 1 (i' := 24) (L' := [some (.ref 0), some (.int l1), some (.int l2), some (.int l3), none]) (st' := [.int (0 : Int32)]) (M' := M0) rfl ?_
      exact Ev.forget (mLe.kp (mLe.kp (mLe.kp (mLe.kp (mLe.sk mLe.nl))))) (e_X11_left_24  h hk)
    · refine ev_goF kc_134 1 (t := 23) (e := 21) (L' := [some (.ref 0), some (.int l1), some (.int l2), some (.int l3), none]) (st' := []) rfl hb10 ?_
      refine ev_go kc_134 2 (i' := 24) (L' := [some (.ref 0), some (.int l1), some (.int l2), some (.int l3), none]) (st' := [.int (1 : Int32)]) (M' := M0) rfl ?_
      exact Ev.forget (mLe.kp (mLe.kp (mLe.kp (mLe.kp (mLe.sk mLe.nl))))) (e_X11_left_24  h hk)
def f_X11_left_l13 (l1 : Int32) (l2 : Int32) (l3 : Int32) (M0 : mM) : Option (Int32 × mM) :=
  wh 100000 (fun s : Int32 × Int32 × mM => f_X11_left_13 l1 s.1 s.2.1 s.2.2) (l2, l3, M0)
theorem e_X11_left_l13 {l1 : Int32} {l2 : Int32} {l3 : Int32} {M0 : mM} {R : mZ} {out : (Int32 × mM)}  (h : f_X11_left_l13 l1 l2 l3 M0 = some out) (hk : R = emW eI out) : Ev (4) 134 13 [some (.ref 0), some (.int l1), some (.int l2), some (.int l3), none] [] M0 R := by
  unfold f_X11_left_l13 at h
  exact wh_ev (P := fun s : Int32 × Int32 × mM => Ev (4) 134 13 [some (.ref 0), some (.int l1), some (.int s.1), some (.int s.2.1), none] [] s.2.2 R) (Q := fun e : (Int32 × mM) => R = emW eI e) (fun s o hb h1 h2 => e_X11_left_13  hb ⟨h1, h2⟩) 100000 _ _ h hk
def f_X11_left  (M0 : mM) : Option (Int32 × mM) :=
  b1 (f_X9_uppermost 35 M0) (fun v11 => b1 (f_X9_inRing 35 v11 M0) (fun v12 => f_X11_left_l13 v12 (M0 35 1) (0 : Int32) M0))
set_option maxRecDepth 8000 in
theorem c_X11_left  {M0 : mM} {out : (Int32 × mM)} (h : f_X11_left M0 = some out) : Cs (4) 134 [.ref 0] M0 (emW eI out) := by
  generalize hk : emW eI out = R
  replace hk := hk.symm
  unfold f_X11_left at h
  show Ev (4) 134 0 [some (.ref 0), none, none, none, none] [] M0 R
  refine ev_go kc_134 4 (i' := 4) (L' := [some (.ref 0), none, none, none, none]) (st' := [.ref 35, .ref 35]) (M' := M0) rfl ?_
  obtain ⟨v11, hc11, h⟩ := o_b1 h
  refine ev_cl0 (ins := .invokevirtual 244) kc_134 rfl rfl (a := 78) (as := [.ref 35]) (rest := [.ref 35]) rfl rfl (Cs.deep (c_X9_uppermost (M0 := M0) hc11) (by decide)) ?_
  obtain ⟨v12, hc12, h⟩ := o_b1 h
  refine ev_cl0 (ins := .invokevirtual 241) kc_134 rfl rfl (a := 77) (as := [.ref 35, .int v11]) (rest := []) rfl rfl (Cs.deep (c_X9_inRing (M0 := M0) hc12) (by decide)) ?_
  refine ev_go kc_134 7 (i' := 13) (L' := [some (.ref 0), some (.int v12), some (.int (M0 35 1)), some (.int (0 : Int32)), none]) (st' := []) (M' := M0) rfl ?_
  exact Ev.forget (mLe.kp (mLe.kp (mLe.kp (mLe.kp (mLe.sk mLe.nl))))) (e_X11_left_l13  h hk)
/-- WakeTower.guard(I)I: 135, T -/
theorem kc_135 : mKc 135 = k_X11_guard := rfl
def f_X11_guard (p1 : Int32) (M0 : mM) : Option ((Int32 ⊕ Nat) × mM) :=
  b2 (f_X4_read (M0 35 0) M0) (fun v1 M1 => wr (mst M1 1 1 (0 : Int32)) (fun M2 => tb (f_X11_mustBeOne v1 M2) (fun v3 M3 => b2 (f_X4_rowOf p1 35 47 M3) (fun v4 M4 => some (.inl v4, M4)))))
set_option maxRecDepth 8000 in
theorem c_X11_guard {p1 : Int32} {M0 : mM} {out : ((Int32 ⊕ Nat) × mM)} (h : f_X11_guard p1 M0 = some out) : Cs (13) 135 [.ref 0, .int p1] M0 (emT eI out) := by
  generalize hk : emT eI out = R
  replace hk := hk.symm
  unfold f_X11_guard at h
  show Ev (13) 135 0 [some (.ref 0), some (.int p1), none] [] M0 R
  refine ev_go kc_135 7 (i' := 7) (L' := [some (.ref 0), some (.int p1), none]) (st' := [.int (M0 35 0), .ref 1, .ref 13]) (M' := M0) rfl ?_
  obtain ⟨v1, M1, hc1, h⟩ := o_b2 h
  refine ev_cl0 (ins := .invokevirtual 270) kc_135 rfl rfl (a := 36) (as := [.ref 13, .ref 1, .int (M0 35 0)]) (rest := []) rfl rfl (Cs.deep (c_X4_read hc1) (by decide)) ?_
  refine ev_go kc_135 4 (i' := 12) (L' := [some (.ref 0), some (.int p1), some (.int (mB v1))]) (st' := [.int (0 : Int32), .ref 1]) (M' := M1) rfl ?_
  obtain ⟨M2, hM2, h⟩ := o_wr h
  refine ev_pf kc_135 rfl rfl rfl rfl (fun hc => absurd hc (by decide)) hM2 ?_
  refine ev_go kc_135 1 (i' := 14) (L' := [some (.ref 0), some (.int p1), some (.int (mB v1))]) (st' := [.int (mB v1)]) (M' := M2) rfl ?_
  rcases o_tb h with ⟨v3, M3, hc3, h⟩ | ⟨E3, M3, hc3, h⟩
  rotate_left
  · subst h
    rw [hk]
    exact ev_clT (ins := .invokestatic 186) kc_135 rfl rfl (a := 172) (as := [.int (mB v1)]) (rest := []) rfl rfl rfl rfl (Cs.deep (c_X11_mustBeOne hc3) (by decide))
  refine ev_cl0 (ins := .invokestatic 186) kc_135 rfl rfl (a := 172) (as := [.int (mB v1)]) (rest := []) rfl rfl (Cs.deep (c_X11_mustBeOne hc3) (by decide)) ?_
  refine ev_go kc_135 7 (i' := 22) (L' := [some (.ref 0), some (.int p1), some (.int (mB v1))]) (st' := [.ref 47, .ref 35, .int p1, .ref 13]) (M' := M3) rfl ?_
  obtain ⟨v4, M4, hc4, h⟩ := o_b2 h
  refine ev_cl0 (ins := .invokevirtual 273) kc_135 rfl rfl (a := 40) (as := [.ref 13, .int p1, .ref 35, .ref 47]) (rest := []) rfl rfl (Cs.deep (c_X4_rowOf hc4) (by decide)) ?_
  obtain rfl := Option.some.inj h
  rw [hk]
  exact ev_ret kc_135 rfl rfl rfl
/-- WakeTower.solo()I: 136, T -/
theorem kc_136 : mKc 136 = k_X11_solo := rfl
def f_X11_solo  (M0 : mM) : Option ((Int32 ⊕ Nat) × mM) :=
  b2 (f_X4_read (M0 35 0) M0) (fun v1 M1 => wr (mst M1 1 1 (0 : Int32)) (fun M2 => tb (f_X11_mustBeOne v1 M2) (fun v3 M3 => b2 (f_X4_firstRows 35 47 M3) (fun v4 M4 => some (.inl v4, M4)))))
set_option maxRecDepth 8000 in
theorem c_X11_solo  {M0 : mM} {out : ((Int32 ⊕ Nat) × mM)} (h : f_X11_solo M0 = some out) : Cs (12) 136 [.ref 0] M0 (emT eI out) := by
  generalize hk : emT eI out = R
  replace hk := hk.symm
  unfold f_X11_solo at h
  show Ev (12) 136 0 [some (.ref 0), none] [] M0 R
  refine ev_go kc_136 7 (i' := 7) (L' := [some (.ref 0), none]) (st' := [.int (M0 35 0), .ref 1, .ref 13]) (M' := M0) rfl ?_
  obtain ⟨v1, M1, hc1, h⟩ := o_b2 h
  refine ev_cl0 (ins := .invokevirtual 270) kc_136 rfl rfl (a := 36) (as := [.ref 13, .ref 1, .int (M0 35 0)]) (rest := []) rfl rfl (Cs.deep (c_X4_read hc1) (by decide)) ?_
  refine ev_go kc_136 4 (i' := 12) (L' := [some (.ref 0), some (.int (mB v1))]) (st' := [.int (0 : Int32), .ref 1]) (M' := M1) rfl ?_
  obtain ⟨M2, hM2, h⟩ := o_wr h
  refine ev_pf kc_136 rfl rfl rfl rfl (fun hc => absurd hc (by decide)) hM2 ?_
  refine ev_go kc_136 1 (i' := 14) (L' := [some (.ref 0), some (.int (mB v1))]) (st' := [.int (mB v1)]) (M' := M2) rfl ?_
  rcases o_tb h with ⟨v3, M3, hc3, h⟩ | ⟨E3, M3, hc3, h⟩
  rotate_left
  · subst h
    rw [hk]
    exact ev_clT (ins := .invokestatic 186) kc_136 rfl rfl (a := 172) (as := [.int (mB v1)]) (rest := []) rfl rfl rfl rfl (Cs.deep (c_X11_mustBeOne hc3) (by decide))
  refine ev_cl0 (ins := .invokestatic 186) kc_136 rfl rfl (a := 172) (as := [.int (mB v1)]) (rest := []) rfl rfl (Cs.deep (c_X11_mustBeOne hc3) (by decide)) ?_
  refine ev_go kc_136 6 (i' := 21) (L' := [some (.ref 0), some (.int (mB v1))]) (st' := [.ref 47, .ref 35, .ref 13]) (M' := M3) rfl ?_
  obtain ⟨v4, M4, hc4, h⟩ := o_b2 h
  refine ev_cl0 (ins := .invokevirtual 277) kc_136 rfl rfl (a := 39) (as := [.ref 13, .ref 35, .ref 47]) (rest := []) rfl rfl (Cs.deep (c_X4_firstRows hc4) (by decide)) ?_
  obtain rfl := Option.some.inj h
  rw [hk]
  exact ev_ret kc_136 rfl rfl rfl
/-- WakeTower.mustHold(I)V: 176, T -/
theorem kc_176 : mKc 176 = k_X11_mustHold := rfl
def f_X11_mustHold (p1 : Int32) (M0 : mM) : Option ((Unit ⊕ Nat) × mM) :=
  b1 (f_X9_holders 35 M0) (fun v1 => tb (f_X11_mustBeSo (f_X11_has v1 p1) M0) (fun v3 M3 => some (.inl (), M3)))
set_option maxRecDepth 8000 in
theorem c_X11_mustHold {p1 : Int32} {M0 : mM} {out : ((Unit ⊕ Nat) × mM)} (h : f_X11_mustHold p1 M0 = some out) : Cs (9) 176 [.ref 0, .int p1] M0 (emT eU out) := by
  generalize hk : emT eU out = R
  replace hk := hk.symm
  unfold f_X11_mustHold at h
  show Ev (9) 176 0 [some (.ref 0), some (.int p1)] [] M0 R
  refine ev_go kc_176 2 (i' := 2) (L' := [some (.ref 0), some (.int p1)]) (st' := [.ref 35]) (M' := M0) rfl ?_
  obtain ⟨v1, hc1, h⟩ := o_b1 h
  refine ev_cl0 (ins := .invokevirtual 167) kc_176 rfl rfl (a := 76) (as := [.ref 35]) (rest := []) rfl rfl (Cs.deep (c_X9_holders (M0 := M0) hc1) (by decide)) ?_
  refine ev_go kc_176 1 (i' := 4) (L' := [some (.ref 0), some (.int p1)]) (st' := [.int p1, .int v1]) (M' := M0) rfl ?_
  refine ev_cl0 (ins := .invokestatic 134) kc_176 rfl rfl (a := 178) (as := [.int v1, .int p1]) (rest := []) rfl rfl (Cs.deep (c_X11_has (M0 := M0)) (by decide)) ?_
  rcases o_tb h with ⟨v3, M3, hc3, h⟩ | ⟨E3, M3, hc3, h⟩
  rotate_left
  · subst h
    rw [hk]
    exact ev_clT (ins := .invokestatic 206) kc_176 rfl rfl (a := 173) (as := [.int (mB (f_X11_has v1 p1))]) (rest := []) rfl rfl rfl rfl (Cs.deep (c_X11_mustBeSo hc3) (by decide))
  refine ev_cl0 (ins := .invokestatic 206) kc_176 rfl rfl (a := 173) (as := [.int (mB (f_X11_has v1 p1))]) (rest := []) rfl rfl (Cs.deep (c_X11_mustBeSo hc3) (by decide)) ?_
  obtain rfl := Option.some.inj h
  rw [hk]
  exact ev_vret kc_176 rfl rfl rfl
/-- WakeTower.feels(I)I: 137, T -/
theorem kc_137 : mKc 137 = k_X11_feels := rfl
def f_X11_feels (p1 : Int32) (M0 : mM) : Option ((Int32 ⊕ Nat) × mM) :=
  tb (f_X11_mustBePerson p1 M0) (fun v1 M1 => tb (f_X11_mustHold p1 M1) (fun v2 M2 => b2 (f_X6_gather 35 p1 p1 M2) (fun v3 M3 => some (.inl (M3 5 4), M3))))
set_option maxRecDepth 8000 in
theorem c_X11_feels {p1 : Int32} {M0 : mM} {out : ((Int32 ⊕ Nat) × mM)} (h : f_X11_feels p1 M0 = some out) : Cs (10) 137 [.ref 0, .int p1] M0 (emT eI out) := by
  generalize hk : emT eI out = R
  replace hk := hk.symm
  unfold f_X11_feels at h
  show Ev (10) 137 0 [some (.ref 0), some (.int p1)] [] M0 R
  refine ev_go kc_137 2 (i' := 2) (L' := [some (.ref 0), some (.int p1)]) (st' := [.int p1, .ref 0]) (M' := M0) rfl ?_
  rcases o_tb h with ⟨v1, M1, hc1, h⟩ | ⟨E1, M1, hc1, h⟩
  rotate_left
  · subst h
    rw [hk]
    exact ev_clT (ins := .invokevirtual 128) kc_137 rfl rfl (a := 170) (as := [.ref 0, .int p1]) (rest := []) rfl rfl rfl rfl (Cs.deep (c_X11_mustBePerson hc1) (by decide))
  refine ev_cl0 (ins := .invokevirtual 128) kc_137 rfl rfl (a := 170) (as := [.ref 0, .int p1]) (rest := []) rfl rfl (Cs.deep (c_X11_mustBePerson hc1) (by decide)) ?_
  refine ev_go kc_137 2 (i' := 5) (L' := [some (.ref 0), some (.int p1)]) (st' := [.int p1, .ref 0]) (M' := M1) rfl ?_
  rcases o_tb h with ⟨v2, M2, hc2, h⟩ | ⟨E2, M2, hc2, h⟩
  rotate_left
  · subst h
    rw [hk]
    exact ev_clT (ins := .invokevirtual 281) kc_137 rfl rfl (a := 176) (as := [.ref 0, .int p1]) (rest := []) rfl rfl rfl rfl (Cs.deep (c_X11_mustHold hc2) (by decide))
  refine ev_cl0 (ins := .invokevirtual 281) kc_137 rfl rfl (a := 176) (as := [.ref 0, .int p1]) (rest := []) rfl rfl (Cs.deep (c_X11_mustHold hc2) (by decide)) ?_
  refine ev_go kc_137 6 (i' := 12) (L' := [some (.ref 0), some (.int p1)]) (st' := [.int p1, .int p1, .ref 35, .ref 5]) (M' := M2) rfl ?_
  obtain ⟨v3, M3, hc3, h⟩ := o_b2 h
  refine ev_cl0 (ins := .invokevirtual 284) kc_137 rfl rfl (a := 50) (as := [.ref 5, .ref 35, .int p1, .int p1]) (rest := []) rfl rfl (Cs.deep (c_X6_gather hc3) (by decide)) ?_
  refine ev_go kc_137 3 (i' := 16) (L' := [some (.ref 0), some (.int p1)]) (st' := [.int (M3 5 4)]) (M' := M3) rfl ?_
  obtain rfl := Option.some.inj h
  rw [hk]
  exact ev_ret kc_137 rfl rfl rfl
/-- WakeTower.sure(I)I: 138, T -/
theorem kc_138 : mKc 138 = k_X11_sure := rfl
def f_X11_sure (p1 : Int32) (M0 : mM) : Option ((Int32 ⊕ Nat) × mM) :=
  tb (f_X11_mustBePerson p1 M0) (fun v1 M1 => tb (f_X11_mustHold p1 M1) (fun v2 M2 => b2 (f_X6_gather 35 p1 p1 M2) (fun v3 M3 => b1 (f_X6_asleepInAll M3) (fun v4 => some (.inl v4, M3)))))
set_option maxRecDepth 8000 in
theorem c_X11_sure {p1 : Int32} {M0 : mM} {out : ((Int32 ⊕ Nat) × mM)} (h : f_X11_sure p1 M0 = some out) : Cs (10) 138 [.ref 0, .int p1] M0 (emT eI out) := by
  generalize hk : emT eI out = R
  replace hk := hk.symm
  unfold f_X11_sure at h
  show Ev (10) 138 0 [some (.ref 0), some (.int p1)] [] M0 R
  refine ev_go kc_138 2 (i' := 2) (L' := [some (.ref 0), some (.int p1)]) (st' := [.int p1, .ref 0]) (M' := M0) rfl ?_
  rcases o_tb h with ⟨v1, M1, hc1, h⟩ | ⟨E1, M1, hc1, h⟩
  rotate_left
  · subst h
    rw [hk]
    exact ev_clT (ins := .invokevirtual 128) kc_138 rfl rfl (a := 170) (as := [.ref 0, .int p1]) (rest := []) rfl rfl rfl rfl (Cs.deep (c_X11_mustBePerson hc1) (by decide))
  refine ev_cl0 (ins := .invokevirtual 128) kc_138 rfl rfl (a := 170) (as := [.ref 0, .int p1]) (rest := []) rfl rfl (Cs.deep (c_X11_mustBePerson hc1) (by decide)) ?_
  refine ev_go kc_138 2 (i' := 5) (L' := [some (.ref 0), some (.int p1)]) (st' := [.int p1, .ref 0]) (M' := M1) rfl ?_
  rcases o_tb h with ⟨v2, M2, hc2, h⟩ | ⟨E2, M2, hc2, h⟩
  rotate_left
  · subst h
    rw [hk]
    exact ev_clT (ins := .invokevirtual 281) kc_138 rfl rfl (a := 176) (as := [.ref 0, .int p1]) (rest := []) rfl rfl rfl rfl (Cs.deep (c_X11_mustHold hc2) (by decide))
  refine ev_cl0 (ins := .invokevirtual 281) kc_138 rfl rfl (a := 176) (as := [.ref 0, .int p1]) (rest := []) rfl rfl (Cs.deep (c_X11_mustHold hc2) (by decide)) ?_
  refine ev_go kc_138 6 (i' := 12) (L' := [some (.ref 0), some (.int p1)]) (st' := [.int p1, .int p1, .ref 35, .ref 5]) (M' := M2) rfl ?_
  obtain ⟨v3, M3, hc3, h⟩ := o_b2 h
  refine ev_cl0 (ins := .invokevirtual 284) kc_138 rfl rfl (a := 50) (as := [.ref 5, .ref 35, .int p1, .int p1]) (rest := []) rfl rfl (Cs.deep (c_X6_gather hc3) (by decide)) ?_
  refine ev_go kc_138 2 (i' := 15) (L' := [some (.ref 0), some (.int p1)]) (st' := [.ref 5]) (M' := M3) rfl ?_
  obtain ⟨v4, hc4, h⟩ := o_b1 h
  refine ev_cl0 (ins := .invokevirtual 291) kc_138 rfl rfl (a := 52) (as := [.ref 5]) (rest := []) rfl rfl (Cs.deep (c_X6_asleepInAll (M0 := M3) hc4) (by decide)) ?_
  obtain rfl := Option.some.inj h
  rw [hk]
  exact ev_ret kc_138 rfl rfl rfl
/-- WakeTower.free(I)I: 139, T -/
theorem kc_139 : mKc 139 = k_X11_free := rfl
def f_X11_free (p1 : Int32) (M0 : mM) : Option ((Int32 ⊕ Nat) × mM) :=
  tb (f_X11_mustBePerson p1 M0) (fun v1 M1 => tb (f_X11_mustHold p1 M1) (fun v2 M2 => b2 (f_X6_gather 35 p1 p1 M2) (fun v3 M3 => b1 (f_X6_asleepInSome M3) (fun v5 => some (.inl (((M3 35 1) &&& ((f_X11_bit p1) ^^^ (-1 : Int32))) &&& (v5 ^^^ (-1 : Int32))), M3)))))
set_option maxRecDepth 8000 in
theorem c_X11_free {p1 : Int32} {M0 : mM} {out : ((Int32 ⊕ Nat) × mM)} (h : f_X11_free p1 M0 = some out) : Cs (10) 139 [.ref 0, .int p1] M0 (emT eI out) := by
  generalize hk : emT eI out = R
  replace hk := hk.symm
  unfold f_X11_free at h
  show Ev (10) 139 0 [some (.ref 0), some (.int p1)] [] M0 R
  refine ev_go kc_139 2 (i' := 2) (L' := [some (.ref 0), some (.int p1)]) (st' := [.int p1, .ref 0]) (M' := M0) rfl ?_
  rcases o_tb h with ⟨v1, M1, hc1, h⟩ | ⟨E1, M1, hc1, h⟩
  rotate_left
  · subst h
    rw [hk]
    exact ev_clT (ins := .invokevirtual 128) kc_139 rfl rfl (a := 170) (as := [.ref 0, .int p1]) (rest := []) rfl rfl rfl rfl (Cs.deep (c_X11_mustBePerson hc1) (by decide))
  refine ev_cl0 (ins := .invokevirtual 128) kc_139 rfl rfl (a := 170) (as := [.ref 0, .int p1]) (rest := []) rfl rfl (Cs.deep (c_X11_mustBePerson hc1) (by decide)) ?_
  refine ev_go kc_139 2 (i' := 5) (L' := [some (.ref 0), some (.int p1)]) (st' := [.int p1, .ref 0]) (M' := M1) rfl ?_
  rcases o_tb h with ⟨v2, M2, hc2, h⟩ | ⟨E2, M2, hc2, h⟩
  rotate_left
  · subst h
    rw [hk]
    exact ev_clT (ins := .invokevirtual 281) kc_139 rfl rfl (a := 176) (as := [.ref 0, .int p1]) (rest := []) rfl rfl rfl rfl (Cs.deep (c_X11_mustHold hc2) (by decide))
  refine ev_cl0 (ins := .invokevirtual 281) kc_139 rfl rfl (a := 176) (as := [.ref 0, .int p1]) (rest := []) rfl rfl (Cs.deep (c_X11_mustHold hc2) (by decide)) ?_
  refine ev_go kc_139 6 (i' := 12) (L' := [some (.ref 0), some (.int p1)]) (st' := [.int p1, .int p1, .ref 35, .ref 5]) (M' := M2) rfl ?_
  obtain ⟨v3, M3, hc3, h⟩ := o_b2 h
  refine ev_cl0 (ins := .invokevirtual 284) kc_139 rfl rfl (a := 50) (as := [.ref 5, .ref 35, .int p1, .int p1]) (rest := []) rfl rfl (Cs.deep (c_X6_gather hc3) (by decide)) ?_
  refine ev_go kc_139 4 (i' := 17) (L' := [some (.ref 0), some (.int p1)]) (st' := [.int p1, .int (M3 35 1)]) (M' := M3) rfl ?_
  refine ev_cl0 (ins := .invokestatic 219) kc_139 rfl rfl (a := 177) (as := [.int p1]) (rest := [.int (M3 35 1)]) rfl rfl (Cs.deep (c_X11_bit (M0 := M3)) (by decide)) ?_
  refine ev_go kc_139 5 (i' := 23) (L' := [some (.ref 0), some (.int p1)]) (st' := [.ref 5, .int ((M3 35 1) &&& ((f_X11_bit p1) ^^^ (-1 : Int32)))]) (M' := M3) rfl ?_
  obtain ⟨v5, hc5, h⟩ := o_b1 h
  refine ev_cl0 (ins := .invokevirtual 294) kc_139 rfl rfl (a := 53) (as := [.ref 5]) (rest := [.int ((M3 35 1) &&& ((f_X11_bit p1) ^^^ (-1 : Int32)))]) rfl rfl (Cs.deep (c_X6_asleepInSome (M0 := M3) hc5) (by decide)) ?_
  refine ev_go kc_139 3 (i' := 27) (L' := [some (.ref 0), some (.int p1)]) (st' := [.int (((M3 35 1) &&& ((f_X11_bit p1) ^^^ (-1 : Int32))) &&& (v5 ^^^ (-1 : Int32)))]) (M' := M3) rfl ?_
  obtain rfl := Option.some.inj h
  rw [hk]
  exact ev_ret kc_139 rfl rfl rfl
/-- WakeTower.both(II)I: 140, T -/
theorem kc_140 : mKc 140 = k_X11_both := rfl
def f_X11_both_12 (l1 : Int32) (l2 : Int32) (s0 : Bool) (M0 : mM) : Option ((Int32 ⊕ Nat) × mM) :=
  tb (f_X11_mustBeOne s0 M0) (fun v1 M1 => tb (f_X11_mustHold l1 M1) (fun v2 M2 => tb (f_X11_mustHold l2 M2) (fun v3 M3 => b2 (f_X6_gather 35 l1 l2 M3) (fun v4 M4 => some (.inl (M4 5 4), M4)))))
set_option maxRecDepth 8000 in
theorem e_X11_both_12 {l1 : Int32} {l2 : Int32} {s0 : Bool} {M0 : mM} {R : mZ} {out : ((Int32 ⊕ Nat) × mM)}  (h : f_X11_both_12 l1 l2 s0 M0 = some out) (hk : R = emT eI out) : Ev (10) 140 12 [some (.ref 0), some (.int l1), some (.int l2)] [.int (mB s0)] M0 R := by
  unfold f_X11_both_12 at h
  rcases o_tb h with ⟨v1, M1, hc1, h⟩ | ⟨E1, M1, hc1, h⟩
  rotate_left
  · subst h
    rw [hk]
    exact ev_clT (ins := .invokestatic 186) kc_140 rfl rfl (a := 172) (as := [.int (mB s0)]) (rest := []) rfl rfl rfl rfl (Cs.deep (c_X11_mustBeOne hc1) (by decide))
  refine ev_cl0 (ins := .invokestatic 186) kc_140 rfl rfl (a := 172) (as := [.int (mB s0)]) (rest := []) rfl rfl (Cs.deep (c_X11_mustBeOne hc1) (by decide)) ?_
  refine ev_go kc_140 2 (i' := 15) (L' := [some (.ref 0), some (.int l1), some (.int l2)]) (st' := [.int l1, .ref 0]) (M' := M1) rfl ?_
  rcases o_tb h with ⟨v2, M2, hc2, h⟩ | ⟨E2, M2, hc2, h⟩
  rotate_left
  · subst h
    rw [hk]
    exact ev_clT (ins := .invokevirtual 281) kc_140 rfl rfl (a := 176) (as := [.ref 0, .int l1]) (rest := []) rfl rfl rfl rfl (Cs.deep (c_X11_mustHold hc2) (by decide))
  refine ev_cl0 (ins := .invokevirtual 281) kc_140 rfl rfl (a := 176) (as := [.ref 0, .int l1]) (rest := []) rfl rfl (Cs.deep (c_X11_mustHold hc2) (by decide)) ?_
  refine ev_go kc_140 2 (i' := 18) (L' := [some (.ref 0), some (.int l1), some (.int l2)]) (st' := [.int l2, .ref 0]) (M' := M2) rfl ?_
  rcases o_tb h with ⟨v3, M3, hc3, h⟩ | ⟨E3, M3, hc3, h⟩
  rotate_left
  · subst h
    rw [hk]
    exact ev_clT (ins := .invokevirtual 281) kc_140 rfl rfl (a := 176) (as := [.ref 0, .int l2]) (rest := []) rfl rfl rfl rfl (Cs.deep (c_X11_mustHold hc3) (by decide))
  refine ev_cl0 (ins := .invokevirtual 281) kc_140 rfl rfl (a := 176) (as := [.ref 0, .int l2]) (rest := []) rfl rfl (Cs.deep (c_X11_mustHold hc3) (by decide)) ?_
  refine ev_go kc_140 6 (i' := 25) (L' := [some (.ref 0), some (.int l1), some (.int l2)]) (st' := [.int l2, .int l1, .ref 35, .ref 5]) (M' := M3) rfl ?_
  obtain ⟨v4, M4, hc4, h⟩ := o_b2 h
  refine ev_cl0 (ins := .invokevirtual 284) kc_140 rfl rfl (a := 50) (as := [.ref 5, .ref 35, .int l1, .int l2]) (rest := []) rfl rfl (Cs.deep (c_X6_gather hc4) (by decide)) ?_
  refine ev_go kc_140 3 (i' := 29) (L' := [some (.ref 0), some (.int l1), some (.int l2)]) (st' := [.int (M4 5 4)]) (M' := M4) rfl ?_
  obtain rfl := Option.some.inj h
  rw [hk]
  exact ev_ret kc_140 rfl rfl rfl
def f_X11_both (p1 : Int32) (p2 : Int32) (M0 : mM) : Option ((Int32 ⊕ Nat) × mM) :=
  tb (f_X11_mustBePerson p1 M0) (fun v5 M5 => tb (f_X11_mustBePerson p2 M5) (fun v6 M6 => bif decide (p1 = p2) then (f_X11_both_12 p1 p2 false M6) else (f_X11_both_12 p1 p2 true M6)))
set_option maxRecDepth 8000 in
theorem c_X11_both {p1 : Int32} {p2 : Int32} {M0 : mM} {out : ((Int32 ⊕ Nat) × mM)} (h : f_X11_both p1 p2 M0 = some out) : Cs (10) 140 [.ref 0, .int p1, .int p2] M0 (emT eI out) := by
  generalize hk : emT eI out = R
  replace hk := hk.symm
  unfold f_X11_both at h
  show Ev (10) 140 0 [some (.ref 0), some (.int p1), some (.int p2)] [] M0 R
  refine ev_go kc_140 2 (i' := 2) (L' := [some (.ref 0), some (.int p1), some (.int p2)]) (st' := [.int p1, .ref 0]) (M' := M0) rfl ?_
  rcases o_tb h with ⟨v5, M5, hc5, h⟩ | ⟨E5, M5, hc5, h⟩
  rotate_left
  · subst h
    rw [hk]
    exact ev_clT (ins := .invokevirtual 128) kc_140 rfl rfl (a := 170) (as := [.ref 0, .int p1]) (rest := []) rfl rfl rfl rfl (Cs.deep (c_X11_mustBePerson hc5) (by decide))
  refine ev_cl0 (ins := .invokevirtual 128) kc_140 rfl rfl (a := 170) (as := [.ref 0, .int p1]) (rest := []) rfl rfl (Cs.deep (c_X11_mustBePerson hc5) (by decide)) ?_
  refine ev_go kc_140 2 (i' := 5) (L' := [some (.ref 0), some (.int p1), some (.int p2)]) (st' := [.int p2, .ref 0]) (M' := M5) rfl ?_
  rcases o_tb h with ⟨v6, M6, hc6, h⟩ | ⟨E6, M6, hc6, h⟩
  rotate_left
  · subst h
    rw [hk]
    exact ev_clT (ins := .invokevirtual 128) kc_140 rfl rfl (a := 170) (as := [.ref 0, .int p2]) (rest := []) rfl rfl rfl rfl (Cs.deep (c_X11_mustBePerson hc6) (by decide))
  refine ev_cl0 (ins := .invokevirtual 128) kc_140 rfl rfl (a := 170) (as := [.ref 0, .int p2]) (rest := []) rfl rfl (Cs.deep (c_X11_mustBePerson hc6) (by decide)) ?_
  rcases o_bif h with ⟨hb7, h⟩ | ⟨hb7, h⟩
  · refine ev_goT kc_140 3 (t := 11) (e := 9) (L' := [some (.ref 0), some (.int p1), some (.int p2)]) (st' := []) rfl hb7 ?_
    refine ev_go kc_140 1 (i' := 12) (L' := [some (.ref 0), some (.int p1), some (.int p2)]) (st' := [.int (0 : Int32)]) (M' := M6) rfl ?_
    exact Ev.forget (mLe.kp (mLe.kp (mLe.kp mLe.nl))) (e_X11_both_12  h hk)
  · refine ev_goF kc_140 3 (t := 11) (e := 9) (L' := [some (.ref 0), some (.int p1), some (.int p2)]) (st' := []) rfl hb7 ?_
    refine ev_go kc_140 2 (i' := 12) (L' := [some (.ref 0), some (.int p1), some (.int p2)]) (st' := [.int (1 : Int32)]) (M' := M6) rfl ?_
    exact Ev.forget (mLe.kp (mLe.kp (mLe.kp mLe.nl))) (e_X11_both_12  h hk)
/-- WakeTower.ask(I)I: 141, T -/
theorem kc_141 : mKc 141 = k_X11_ask := rfl
def f_X11_ask (p1 : Int32) (M0 : mM) : Option ((Int32 ⊕ Nat) × mM) :=
  tb (f_X11_mustBePerson p1 M0) (fun v1 M1 => tb (f_X11_mustHold p1 M1) (fun v2 M2 => b2 (f_X6_gather 35 p1 p1 M2) (fun v3 M3 => b1 (f_X9_holders 35 M3) (fun v4 => b2 (f_X6_bestToAsk (v4 &&& ((f_X11_bit p1) ^^^ (-1 : Int32))) M3) (fun v6 M6 => some (.inl v6, M6))))))
set_option maxRecDepth 8000 in
theorem c_X11_ask {p1 : Int32} {M0 : mM} {out : ((Int32 ⊕ Nat) × mM)} (h : f_X11_ask p1 M0 = some out) : Cs (10) 141 [.ref 0, .int p1] M0 (emT eI out) := by
  generalize hk : emT eI out = R
  replace hk := hk.symm
  unfold f_X11_ask at h
  show Ev (10) 141 0 [some (.ref 0), some (.int p1)] [] M0 R
  refine ev_go kc_141 2 (i' := 2) (L' := [some (.ref 0), some (.int p1)]) (st' := [.int p1, .ref 0]) (M' := M0) rfl ?_
  rcases o_tb h with ⟨v1, M1, hc1, h⟩ | ⟨E1, M1, hc1, h⟩
  rotate_left
  · subst h
    rw [hk]
    exact ev_clT (ins := .invokevirtual 128) kc_141 rfl rfl (a := 170) (as := [.ref 0, .int p1]) (rest := []) rfl rfl rfl rfl (Cs.deep (c_X11_mustBePerson hc1) (by decide))
  refine ev_cl0 (ins := .invokevirtual 128) kc_141 rfl rfl (a := 170) (as := [.ref 0, .int p1]) (rest := []) rfl rfl (Cs.deep (c_X11_mustBePerson hc1) (by decide)) ?_
  refine ev_go kc_141 2 (i' := 5) (L' := [some (.ref 0), some (.int p1)]) (st' := [.int p1, .ref 0]) (M' := M1) rfl ?_
  rcases o_tb h with ⟨v2, M2, hc2, h⟩ | ⟨E2, M2, hc2, h⟩
  rotate_left
  · subst h
    rw [hk]
    exact ev_clT (ins := .invokevirtual 281) kc_141 rfl rfl (a := 176) (as := [.ref 0, .int p1]) (rest := []) rfl rfl rfl rfl (Cs.deep (c_X11_mustHold hc2) (by decide))
  refine ev_cl0 (ins := .invokevirtual 281) kc_141 rfl rfl (a := 176) (as := [.ref 0, .int p1]) (rest := []) rfl rfl (Cs.deep (c_X11_mustHold hc2) (by decide)) ?_
  refine ev_go kc_141 6 (i' := 12) (L' := [some (.ref 0), some (.int p1)]) (st' := [.int p1, .int p1, .ref 35, .ref 5]) (M' := M2) rfl ?_
  obtain ⟨v3, M3, hc3, h⟩ := o_b2 h
  refine ev_cl0 (ins := .invokevirtual 284) kc_141 rfl rfl (a := 50) (as := [.ref 5, .ref 35, .int p1, .int p1]) (rest := []) rfl rfl (Cs.deep (c_X6_gather hc3) (by decide)) ?_
  refine ev_go kc_141 4 (i' := 17) (L' := [some (.ref 0), some (.int p1)]) (st' := [.ref 35, .ref 5]) (M' := M3) rfl ?_
  obtain ⟨v4, hc4, h⟩ := o_b1 h
  refine ev_cl0 (ins := .invokevirtual 167) kc_141 rfl rfl (a := 76) (as := [.ref 35]) (rest := [.ref 5]) rfl rfl (Cs.deep (c_X9_holders (M0 := M3) hc4) (by decide)) ?_
  refine ev_go kc_141 1 (i' := 19) (L' := [some (.ref 0), some (.int p1)]) (st' := [.int p1, .int v4, .ref 5]) (M' := M3) rfl ?_
  refine ev_cl0 (ins := .invokestatic 219) kc_141 rfl rfl (a := 177) (as := [.int p1]) (rest := [.int v4, .ref 5]) rfl rfl (Cs.deep (c_X11_bit (M0 := M3)) (by decide)) ?_
  refine ev_go kc_141 3 (i' := 23) (L' := [some (.ref 0), some (.int p1)]) (st' := [.int (v4 &&& ((f_X11_bit p1) ^^^ (-1 : Int32))), .ref 5]) (M' := M3) rfl ?_
  obtain ⟨v6, M6, hc6, h⟩ := o_b2 h
  refine ev_cl0 (ins := .invokevirtual 297) kc_141 rfl rfl (a := 54) (as := [.ref 5, .int (v4 &&& ((f_X11_bit p1) ^^^ (-1 : Int32)))]) (rest := []) rfl rfl (Cs.deep (c_X6_bestToAsk hc6) (by decide)) ?_
  obtain rfl := Option.some.inj h
  rw [hk]
  exact ev_ret kc_141 rfl rfl rfl
/-- WakeTower.pushes(II)I: 142, T -/
theorem kc_142 : mKc 142 = k_X11_pushes := rfl
def f_X11_pushes (p1 : Int32) (p2 : Int32) (M0 : mM) : Option ((Int32 ⊕ Nat) × mM) :=
  tb (f_X11_mustBePerson p1 M0) (fun v1 M1 => tb (f_X11_mustBePerson p2 M1) (fun v2 M2 => b1 (f_X8_steps 35 p1 (f_X11_bit p2) M2) (fun v4 => some (.inl v4, M2))))
set_option maxRecDepth 8000 in
theorem c_X11_pushes {p1 : Int32} {p2 : Int32} {M0 : mM} {out : ((Int32 ⊕ Nat) × mM)} (h : f_X11_pushes p1 p2 M0 = some out) : Cs (9) 142 [.ref 0, .int p1, .int p2] M0 (emT eI out) := by
  generalize hk : emT eI out = R
  replace hk := hk.symm
  unfold f_X11_pushes at h
  show Ev (9) 142 0 [some (.ref 0), some (.int p1), some (.int p2)] [] M0 R
  refine ev_go kc_142 2 (i' := 2) (L' := [some (.ref 0), some (.int p1), some (.int p2)]) (st' := [.int p1, .ref 0]) (M' := M0) rfl ?_
  rcases o_tb h with ⟨v1, M1, hc1, h⟩ | ⟨E1, M1, hc1, h⟩
  rotate_left
  · subst h
    rw [hk]
    exact ev_clT (ins := .invokevirtual 128) kc_142 rfl rfl (a := 170) (as := [.ref 0, .int p1]) (rest := []) rfl rfl rfl rfl (Cs.deep (c_X11_mustBePerson hc1) (by decide))
  refine ev_cl0 (ins := .invokevirtual 128) kc_142 rfl rfl (a := 170) (as := [.ref 0, .int p1]) (rest := []) rfl rfl (Cs.deep (c_X11_mustBePerson hc1) (by decide)) ?_
  refine ev_go kc_142 2 (i' := 5) (L' := [some (.ref 0), some (.int p1), some (.int p2)]) (st' := [.int p2, .ref 0]) (M' := M1) rfl ?_
  rcases o_tb h with ⟨v2, M2, hc2, h⟩ | ⟨E2, M2, hc2, h⟩
  rotate_left
  · subst h
    rw [hk]
    exact ev_clT (ins := .invokevirtual 128) kc_142 rfl rfl (a := 170) (as := [.ref 0, .int p2]) (rest := []) rfl rfl rfl rfl (Cs.deep (c_X11_mustBePerson hc2) (by decide))
  refine ev_cl0 (ins := .invokevirtual 128) kc_142 rfl rfl (a := 170) (as := [.ref 0, .int p2]) (rest := []) rfl rfl (Cs.deep (c_X11_mustBePerson hc2) (by decide)) ?_
  refine ev_go kc_142 4 (i' := 10) (L' := [some (.ref 0), some (.int p1), some (.int p2)]) (st' := [.int p2, .int p1, .ref 35]) (M' := M2) rfl ?_
  refine ev_cl0 (ins := .invokestatic 219) kc_142 rfl rfl (a := 177) (as := [.int p2]) (rest := [.int p1, .ref 35]) rfl rfl (Cs.deep (c_X11_bit (M0 := M2)) (by decide)) ?_
  obtain ⟨v4, hc4, h⟩ := o_b1 h
  refine ev_cl0 (ins := .invokestatic 300) kc_142 rfl rfl (a := 71) (as := [.ref 35, .int p1, .int (f_X11_bit p2)]) (rest := []) rfl rfl (Cs.deep (c_X8_steps (M0 := M2) hc4) (by decide)) ?_
  obtain rfl := Option.some.inj h
  rw [hk]
  exact ev_ret kc_142 rfl rfl rfl
