/-! the methods, by program -/
/-- WakeTower$Log.at(II)I: 30, R -/
theorem kc_30 : mKc 30 = k_X2_at := rfl
def f_X2_at (o0 : Nat) (p1 : Int32) (p2 : Int32) (M0 : mM) : Option Int32 :=
  gd (mLgB o0) (bif decide (p1 < 0) then (some (-1 : Int32)) else (bif decide (p1 < (M0 o0 2)) then (b1 (f_J9_floorMod_7cf53 (((M0 o0 1) - (1 : Int32)) - p1) (60 : Int32)) (fun v3 => bif decide (((v3 * (6 : Int32)) + p2) < 0) then (some (-1 : Int32)) else (bif decide ((nI 360) ≤ ((v3 * (6 : Int32)) + p2)) then (some (-1 : Int32)) else (gd (mIn ((v3 * (6 : Int32)) + p2) 360) (some (M0 (o0 + 1) (ix ((v3 * (6 : Int32)) + p2)))))))) else (some (-1 : Int32))))
set_option maxRecDepth 8000 in
theorem c_X2_at {o0 : Nat} {p1 : Int32} {p2 : Int32} {M0 : mM} {out : Int32} (h : f_X2_at o0 p1 p2 M0 = some out) : Cs (1) 30 [.ref o0, .int p1, .int p2] M0 (emR eI M0 out) := by
  generalize hk : emR eI M0 out = R
  replace hk := hk.symm
  unfold f_X2_at at h
  obtain ⟨go0, h⟩ := o_gd h
  show Ev (1) 30 0 [some (.ref o0), some (.int p1), some (.int p2), none] [] M0 R
  rcases o_bif h with ⟨hb1, h⟩ | ⟨hb1, h⟩
  · refine ev_goT kc_30 2 (t := 6) (e := 2) (L' := [some (.ref o0), some (.int p1), some (.int p2), none]) (st' := []) rfl hb1 ?_
    refine ev_go kc_30 1 (i' := 7) (L' := [some (.ref o0), some (.int p1), some (.int p2), none]) (st' := [.int (-1 : Int32)]) (M' := M0) rfl ?_
    obtain rfl := Option.some.inj h
    rw [hk]
    exact ev_ret kc_30 rfl rfl rfl
  · refine ev_goF kc_30 2 (t := 6) (e := 2) (L' := [some (.ref o0), some (.int p1), some (.int p2), none]) (st' := []) rfl hb1 ?_
    refine ev_go kc_30 2 (i' := 4) (L' := [some (.ref o0), some (.int p1), some (.int p2), none]) (st' := [.ref o0, .int p1]) (M' := M0) rfl ?_
    refine ev_gf kc_30 rfl (mLgB0 go0) rfl ?_
    rcases o_bif h with ⟨hb2, h⟩ | ⟨hb2, h⟩
    · refine ev_goT kc_30 1 (t := 8) (e := 6) (L' := [some (.ref o0), some (.int p1), some (.int p2), none]) (st' := []) rfl hb2 ?_
      refine ev_go kc_30 1 (i' := 9) (L' := [some (.ref o0), some (.int p1), some (.int p2), none]) (st' := [.ref o0]) (M' := M0) rfl ?_
      refine ev_gf kc_30 rfl (mLgB0 go0) rfl ?_
      refine ev_go kc_30 5 (i' := 15) (L' := [some (.ref o0), some (.int p1), some (.int p2), none]) (st' := [.int (60 : Int32), .int (((M0 o0 1) - (1 : Int32)) - p1)]) (M' := M0) rfl ?_
      obtain ⟨v3, hc3, h⟩ := o_b1 h
      refine ev_cl0 (ins := .invokestatic 34) kc_30 rfl rfl (a := 11) (as := [.int (((M0 o0 1) - (1 : Int32)) - p1), .int (60 : Int32)]) (rest := []) rfl rfl (Cs.deep (c_J9_floorMod_7cf53 (M0 := M0) hc3) (by decide)) ?_
      rcases o_bif h with ⟨hb4, h⟩ | ⟨hb4, h⟩
      · refine ev_goT kc_30 7 (t := 33) (e := 23) (L' := [some (.ref o0), some (.int p1), some (.int p2), some (.int ((v3 * (6 : Int32)) + p2))]) (st' := []) rfl hb4 ?_
        refine ev_go kc_30 1 (i' := 34) (L' := [some (.ref o0), some (.int p1), some (.int p2), some (.int ((v3 * (6 : Int32)) + p2))]) (st' := [.int (-1 : Int32)]) (M' := M0) rfl ?_
        obtain rfl := Option.some.inj h
        rw [hk]
        exact ev_ret kc_30 rfl rfl rfl
      · refine ev_goF kc_30 7 (t := 33) (e := 23) (L' := [some (.ref o0), some (.int p1), some (.int p2), some (.int ((v3 * (6 : Int32)) + p2))]) (st' := []) rfl hb4 ?_
        refine ev_go kc_30 2 (i' := 25) (L' := [some (.ref o0), some (.int p1), some (.int p2), some (.int ((v3 * (6 : Int32)) + p2))]) (st' := [.ref o0, .int ((v3 * (6 : Int32)) + p2)]) (M' := M0) rfl ?_
        refine ev_gr kc_30 rfl (mLgB0 go0) (j := 0) rfl ?_
        refine ev_al kc_30 rfl (mLgB1 go0) rfl ?_
        rcases o_bif h with ⟨hb5, h⟩ | ⟨hb5, h⟩
        · refine ev_goT kc_30 1 (t := 33) (e := 28) (L' := [some (.ref o0), some (.int p1), some (.int p2), some (.int ((v3 * (6 : Int32)) + p2))]) (st' := []) rfl hb5 ?_
          refine ev_go kc_30 1 (i' := 34) (L' := [some (.ref o0), some (.int p1), some (.int p2), some (.int ((v3 * (6 : Int32)) + p2))]) (st' := [.int (-1 : Int32)]) (M' := M0) rfl ?_
          obtain rfl := Option.some.inj h
          rw [hk]
          exact ev_ret kc_30 rfl rfl rfl
        · refine ev_goF kc_30 1 (t := 33) (e := 28) (L' := [some (.ref o0), some (.int p1), some (.int p2), some (.int ((v3 * (6 : Int32)) + p2))]) (st' := []) rfl hb5 ?_
          refine ev_go kc_30 1 (i' := 29) (L' := [some (.ref o0), some (.int p1), some (.int p2), some (.int ((v3 * (6 : Int32)) + p2))]) (st' := [.ref o0]) (M' := M0) rfl ?_
          refine ev_gr kc_30 rfl (mLgB0 go0) (j := 0) rfl ?_
          refine ev_go kc_30 1 (i' := 31) (L' := [some (.ref o0), some (.int p1), some (.int p2), some (.int ((v3 * (6 : Int32)) + p2))]) (st' := [.int ((v3 * (6 : Int32)) + p2), .ref (o0 + 1)]) (M' := M0) rfl ?_
          obtain ⟨hg6, h⟩ := o_gd h
          refine ev_ia kc_30 rfl (mLgB1 go0) hg6 ?_
          refine ev_go kc_30 1 (i' := 34) (L' := [some (.ref o0), some (.int p1), some (.int p2), some (.int ((v3 * (6 : Int32)) + p2))]) (st' := [.int (M0 (o0 + 1) (ix ((v3 * (6 : Int32)) + p2)))]) (M' := M0) rfl ?_
          obtain rfl := Option.some.inj h
          rw [hk]
          exact ev_ret kc_30 rfl rfl rfl
    · refine ev_goF kc_30 1 (t := 8) (e := 6) (L' := [some (.ref o0), some (.int p1), some (.int p2), none]) (st' := []) rfl hb2 ?_
      refine ev_go kc_30 1 (i' := 7) (L' := [some (.ref o0), some (.int p1), some (.int p2), none]) (st' := [.int (-1 : Int32)]) (M' := M0) rfl ?_
      obtain rfl := Option.some.inj h
      rw [hk]
      exact ev_ret kc_30 rfl rfl rfl
/-- WakeTower$Log.rowsOf(I)I: 31, R -/
theorem kc_31 : mKc 31 = k_X2_rowsOf := rfl
def f_X2_rowsOf_4 (o0 : Nat) (l1 : Int32) (l2 : Int32) (l3 : Int32) (M0 : mM) : Option (Int32 ⊕ (Int32 × Int32)) :=
  bif decide ((60 : Int32) ≤ l3) then (some (.inl l2)) else (b1 (f_X2_at o0 l3 (2 : Int32) M0) (fun v2 => bif decide (¬ v2 = l1) then (some (.inr (l2, (l3 + (1 : Int32))))) else (some (.inr ((l2 + (1 : Int32)), (l3 + (1 : Int32)))))))
set_option maxRecDepth 8000 in
theorem e_X2_rowsOf_4 {o0 : Nat} {l1 : Int32} {l2 : Int32} {l3 : Int32} {M0 : mM} {R : mZ} {out : (Int32 ⊕ (Int32 × Int32))} (go0 : mLgB o0 = true) (h : f_X2_rowsOf_4 o0 l1 l2 l3 M0 = some out) (hk : (∀ s' : Int32 × Int32, out = .inr s' → Ev (2) 31 4 [some (.ref o0), some (.int l1), some (.int s'.1), some (.int s'.2)] [] M0 R) ∧ (∀ e1 : Int32, out = .inl e1 → R = emR eI M0 e1)) : Ev (2) 31 4 [some (.ref o0), some (.int l1), some (.int l2), some (.int l3)] [] M0 R := by
  unfold f_X2_rowsOf_4 at h
  rcases o_bif h with ⟨hb1, h⟩ | ⟨hb1, h⟩
  · refine ev_goT kc_31 3 (t := 16) (e := 7) (L' := [some (.ref o0), some (.int l1), some (.int l2), some (.int l3)]) (st' := []) rfl hb1 ?_
    refine ev_go kc_31 1 (i' := 17) (L' := [some (.ref o0), some (.int l1), some (.int l2), some (.int l3)]) (st' := [.int l2]) (M' := M0) rfl ?_
    obtain rfl := Option.some.inj h
    rw [show _ from (hk.2 _ rfl)]
    exact ev_ret kc_31 rfl rfl rfl
  · refine ev_goF kc_31 3 (t := 16) (e := 7) (L' := [some (.ref o0), some (.int l1), some (.int l2), some (.int l3)]) (st' := []) rfl hb1 ?_
    refine ev_go kc_31 3 (i' := 10) (L' := [some (.ref o0), some (.int l1), some (.int l2), some (.int l3)]) (st' := [.int (2 : Int32), .int l3, .ref o0]) (M' := M0) rfl ?_
    obtain ⟨v2, hc2, h⟩ := o_b1 h
    refine ev_cl0 (ins := .invokevirtual 37) kc_31 rfl rfl (a := 30) (as := [.ref o0, .int l3, .int (2 : Int32)]) (rest := []) rfl (m_rec (mLgB0 go0)) (Cs.deep (c_X2_at (M0 := M0) hc2) (by decide)) ?_
    rcases o_bif h with ⟨hb3, h⟩ | ⟨hb3, h⟩
    · refine ev_goT kc_31 2 (t := 14) (e := 13) (L' := [some (.ref o0), some (.int l1), some (.int l2), some (.int l3)]) (st' := []) rfl hb3 ?_
      refine ev_go kc_31 2 (i' := 4) (L' := [some (.ref o0), some (.int l1), some (.int l2), some (.int (l3 + (1 : Int32)))]) (st' := []) (M' := M0) rfl ?_
      obtain rfl := Option.some.inj h
      exact Ev.forget (mLe.kp (mLe.kp (mLe.kp (mLe.kp mLe.nl)))) (hk.1 (l2, (l3 + (1 : Int32))) rfl)
    · refine ev_goF kc_31 2 (t := 14) (e := 13) (L' := [some (.ref o0), some (.int l1), some (.int l2), some (.int l3)]) (st' := []) rfl hb3 ?_
      refine ev_go kc_31 3 (i' := 4) (L' := [some (.ref o0), some (.int l1), some (.int (l2 + (1 : Int32))), some (.int (l3 + (1 : Int32)))]) (st' := []) (M' := M0) rfl ?_
      obtain rfl := Option.some.inj h
      exact Ev.forget (mLe.kp (mLe.kp (mLe.kp (mLe.kp mLe.nl)))) (hk.1 ((l2 + (1 : Int32)), (l3 + (1 : Int32))) rfl)
def f_X2_rowsOf_l4 (o0 : Nat) (l1 : Int32) (l2 : Int32) (l3 : Int32) (M0 : mM) : Option Int32 :=
  wh 100000 (fun s : Int32 × Int32 => f_X2_rowsOf_4 o0 l1 s.1 s.2 M0) (l2, l3)
theorem e_X2_rowsOf_l4 {o0 : Nat} {l1 : Int32} {l2 : Int32} {l3 : Int32} {M0 : mM} {R : mZ} {out : Int32} (go0 : mLgB o0 = true) (h : f_X2_rowsOf_l4 o0 l1 l2 l3 M0 = some out) (hk : R = emR eI M0 out) : Ev (2) 31 4 [some (.ref o0), some (.int l1), some (.int l2), some (.int l3)] [] M0 R := by
  unfold f_X2_rowsOf_l4 at h
  exact wh_ev (P := fun s : Int32 × Int32 => Ev (2) 31 4 [some (.ref o0), some (.int l1), some (.int s.1), some (.int s.2)] [] M0 R) (Q := fun e : Int32 => R = emR eI M0 e) (fun s o hb h1 h2 => e_X2_rowsOf_4 go0 hb ⟨h1, h2⟩) 100000 _ _ h hk
def f_X2_rowsOf (o0 : Nat) (p1 : Int32) (M0 : mM) : Option Int32 :=
  gd (mLgB o0) (f_X2_rowsOf_l4 o0 p1 (0 : Int32) (0 : Int32) M0)
set_option maxRecDepth 8000 in
theorem c_X2_rowsOf {o0 : Nat} {p1 : Int32} {M0 : mM} {out : Int32} (h : f_X2_rowsOf o0 p1 M0 = some out) : Cs (2) 31 [.ref o0, .int p1] M0 (emR eI M0 out) := by
  generalize hk : emR eI M0 out = R
  replace hk := hk.symm
  unfold f_X2_rowsOf at h
  obtain ⟨go0, h⟩ := o_gd h
  show Ev (2) 31 0 [some (.ref o0), some (.int p1), none, none] [] M0 R
  refine ev_go kc_31 4 (i' := 4) (L' := [some (.ref o0), some (.int p1), some (.int (0 : Int32)), some (.int (0 : Int32))]) (st' := []) (M' := M0) rfl ?_
  exact Ev.forget (mLe.kp (mLe.kp (mLe.kp (mLe.kp mLe.nl)))) (e_X2_rowsOf_l4 go0 h hk)
/-- WakeTower$Log.latestDay(I)I: 32, R -/
theorem kc_32 : mKc 32 = k_X2_latestDay := rfl
def f_X2_latestDay_2 (o0 : Nat) (l1 : Int32) (l2 : Int32) (M0 : mM) : Option (Int32 ⊕ (Int32)) :=
  bif decide ((60 : Int32) ≤ l2) then (some (.inl (-1 : Int32))) else (b1 (f_X2_at o0 l2 (2 : Int32) M0) (fun v2 => bif decide (¬ v2 = l1) then (some (.inr (l2 + (1 : Int32)))) else (b1 (f_X2_at o0 l2 (0 : Int32) M0) (fun v4 => some (.inl v4)))))
set_option maxRecDepth 8000 in
theorem e_X2_latestDay_2 {o0 : Nat} {l1 : Int32} {l2 : Int32} {M0 : mM} {R : mZ} {out : (Int32 ⊕ (Int32))} (go0 : mLgB o0 = true) (h : f_X2_latestDay_2 o0 l1 l2 M0 = some out) (hk : (∀ s' : Int32, out = .inr s' → Ev (2) 32 2 [some (.ref o0), some (.int l1), some (.int s')] [] M0 R) ∧ (∀ e1 : Int32, out = .inl e1 → R = emR eI M0 e1)) : Ev (2) 32 2 [some (.ref o0), some (.int l1), some (.int l2)] [] M0 R := by
  unfold f_X2_latestDay_2 at h
  rcases o_bif h with ⟨hb1, h⟩ | ⟨hb1, h⟩
  · refine ev_goT kc_32 3 (t := 18) (e := 5) (L' := [some (.ref o0), some (.int l1), some (.int l2)]) (st' := []) rfl hb1 ?_
    refine ev_go kc_32 1 (i' := 19) (L' := [some (.ref o0), some (.int l1), some (.int l2)]) (st' := [.int (-1 : Int32)]) (M' := M0) rfl ?_
    obtain rfl := Option.some.inj h
    rw [show _ from (hk.2 _ rfl)]
    exact ev_ret kc_32 rfl rfl rfl
  · refine ev_goF kc_32 3 (t := 18) (e := 5) (L' := [some (.ref o0), some (.int l1), some (.int l2)]) (st' := []) rfl hb1 ?_
    refine ev_go kc_32 3 (i' := 8) (L' := [some (.ref o0), some (.int l1), some (.int l2)]) (st' := [.int (2 : Int32), .int l2, .ref o0]) (M' := M0) rfl ?_
    obtain ⟨v2, hc2, h⟩ := o_b1 h
    refine ev_cl0 (ins := .invokevirtual 37) kc_32 rfl rfl (a := 30) (as := [.ref o0, .int l2, .int (2 : Int32)]) (rest := []) rfl (m_rec (mLgB0 go0)) (Cs.deep (c_X2_at (M0 := M0) hc2) (by decide)) ?_
    rcases o_bif h with ⟨hb3, h⟩ | ⟨hb3, h⟩
    · refine ev_goT kc_32 2 (t := 16) (e := 11) (L' := [some (.ref o0), some (.int l1), some (.int l2)]) (st' := []) rfl hb3 ?_
      refine ev_go kc_32 2 (i' := 2) (L' := [some (.ref o0), some (.int l1), some (.int (l2 + (1 : Int32)))]) (st' := []) (M' := M0) rfl ?_
      obtain rfl := Option.some.inj h
      exact Ev.forget (mLe.kp (mLe.kp (mLe.kp mLe.nl))) (hk.1 (l2 + (1 : Int32)) rfl)
    · refine ev_goF kc_32 2 (t := 16) (e := 11) (L' := [some (.ref o0), some (.int l1), some (.int l2)]) (st' := []) rfl hb3 ?_
      refine ev_go kc_32 3 (i' := 14) (L' := [some (.ref o0), some (.int l1), some (.int l2)]) (st' := [.int (0 : Int32), .int l2, .ref o0]) (M' := M0) rfl ?_
      obtain ⟨v4, hc4, h⟩ := o_b1 h
      refine ev_cl0 (ins := .invokevirtual 37) kc_32 rfl rfl (a := 30) (as := [.ref o0, .int l2, .int (0 : Int32)]) (rest := []) rfl (m_rec (mLgB0 go0)) (Cs.deep (c_X2_at (M0 := M0) hc4) (by decide)) ?_
      obtain rfl := Option.some.inj h
      rw [show _ from (hk.2 _ rfl)]
      exact ev_ret kc_32 rfl rfl rfl
def f_X2_latestDay_l2 (o0 : Nat) (l1 : Int32) (l2 : Int32) (M0 : mM) : Option Int32 :=
  wh 100000 (fun s : Int32 => f_X2_latestDay_2 o0 l1 s M0) l2
theorem e_X2_latestDay_l2 {o0 : Nat} {l1 : Int32} {l2 : Int32} {M0 : mM} {R : mZ} {out : Int32} (go0 : mLgB o0 = true) (h : f_X2_latestDay_l2 o0 l1 l2 M0 = some out) (hk : R = emR eI M0 out) : Ev (2) 32 2 [some (.ref o0), some (.int l1), some (.int l2)] [] M0 R := by
  unfold f_X2_latestDay_l2 at h
  exact wh_ev (P := fun s : Int32 => Ev (2) 32 2 [some (.ref o0), some (.int l1), some (.int s)] [] M0 R) (Q := fun e : Int32 => R = emR eI M0 e) (fun s o hb h1 h2 => e_X2_latestDay_2 go0 hb ⟨h1, h2⟩) 100000 _ _ h hk
def f_X2_latestDay (o0 : Nat) (p1 : Int32) (M0 : mM) : Option Int32 :=
  gd (mLgB o0) (f_X2_latestDay_l2 o0 p1 (0 : Int32) M0)
set_option maxRecDepth 8000 in
theorem c_X2_latestDay {o0 : Nat} {p1 : Int32} {M0 : mM} {out : Int32} (h : f_X2_latestDay o0 p1 M0 = some out) : Cs (2) 32 [.ref o0, .int p1] M0 (emR eI M0 out) := by
  generalize hk : emR eI M0 out = R
  replace hk := hk.symm
  unfold f_X2_latestDay at h
  obtain ⟨go0, h⟩ := o_gd h
  show Ev (2) 32 0 [some (.ref o0), some (.int p1), none] [] M0 R
  refine ev_go kc_32 2 (i' := 2) (L' := [some (.ref o0), some (.int p1), some (.int (0 : Int32))]) (st' := []) (M' := M0) rfl ?_
  exact Ev.forget (mLe.kp (mLe.kp (mLe.kp mLe.nl))) (e_X2_latestDay_l2 go0 h hk)
/-- WakeTower$Past.forget()V: 33, W -/
theorem kc_33 : mKc 33 = k_X3_forget := rfl
def f_X3_forget  (M0 : mM) : Option (Unit × mM) :=
  wr (mst M0 3 2 (0 : Int32)) (fun M1 => some ((), M1))
set_option maxRecDepth 8000 in
theorem c_X3_forget  {M0 : mM} {out : (Unit × mM)} (h : f_X3_forget M0 = some out) : Cs (0) 33 [.ref 3] M0 (emW eU out) := by
  generalize hk : emW eU out = R
  replace hk := hk.symm
  unfold f_X3_forget at h
  show Ev (0) 33 0 [some (.ref 3)] [] M0 R
  refine ev_go kc_33 2 (i' := 2) (L' := [some (.ref 3)]) (st' := [.int (0 : Int32), .ref 3]) (M' := M0) rfl ?_
  obtain ⟨M1, hM1, h⟩ := o_wr h
  refine ev_pf kc_33 rfl rfl rfl rfl (fun hc => absurd hc (by decide)) hM1 ?_
  obtain rfl := Option.some.inj h
  rw [hk]
  exact ev_vret kc_33 rfl rfl rfl
/-- WakeTower$Tower.copyFrom(LWakeTower$Tower;)V: 73, W -/
theorem kc_73 : mKc 73 = k_X9_copyFrom := rfl
def f_X9_copyFrom (o0 : Nat) (o1 : Nat) (M0 : mM) : Option (Unit × mM) :=
  gd (mTwB o0) (gd (mTwB o1) (wr (mst M0 o0 0 (M0 o1 0)) (fun M1 => wr (mst M1 o0 1 (M1 o1 1)) (fun M2 => wr (mst M2 o0 2 (M2 o1 2)) (fun M3 => wr (mst M3 o0 3 (M3 o1 3)) (fun M4 => wr (mst M4 o0 4 (M4 o1 4)) (fun M5 => wr (mst M5 o0 5 (M5 o1 5)) (fun M6 => wr (mst M6 o0 6 (M6 o1 6)) (fun M7 => wr (mst M7 o0 7 (M7 o1 7)) (fun M8 => wr (mst M8 o0 14 (M8 o1 14)) (fun M9 => gd (mAcB (o1 + 1) (o0 + 1) (0 : Int32) (0 : Int32) (8 : Int32)) (wr (mAc (o1 + 1) (o0 + 1) (0 : Int32) (0 : Int32) (8 : Int32) M9) (fun M10 => gd (mAcB (o1 + 2) (o0 + 2) (0 : Int32) (0 : Int32) (8 : Int32)) (wr (mAc (o1 + 2) (o0 + 2) (0 : Int32) (0 : Int32) (8 : Int32) M10) (fun M12 => gd (mAcB (o1 + 3) (o0 + 3) (0 : Int32) (0 : Int32) (8 : Int32)) (wr (mAc (o1 + 3) (o0 + 3) (0 : Int32) (0 : Int32) (8 : Int32) M12) (fun M14 => gd (mAcB (o1 + 4) (o0 + 4) (0 : Int32) (0 : Int32) (8 : Int32)) (wr (mAc (o1 + 4) (o0 + 4) (0 : Int32) (0 : Int32) (8 : Int32) M14) (fun M16 => gd (mAcB (o1 + 5) (o0 + 5) (0 : Int32) (0 : Int32) (8 : Int32)) (wr (mAc (o1 + 5) (o0 + 5) (0 : Int32) (0 : Int32) (8 : Int32) M16) (fun M18 => gd (mAcB (o1 + 6) (o0 + 6) (0 : Int32) (0 : Int32) (8 : Int32)) (wr (mAc (o1 + 6) (o0 + 6) (0 : Int32) (0 : Int32) (8 : Int32) M18) (fun M20 => gd (mAcB (o1 + 7) (o0 + 7) (0 : Int32) (0 : Int32) (8 : Int32)) (wr (mAc (o1 + 7) (o0 + 7) (0 : Int32) (0 : Int32) (8 : Int32) M20) (fun M22 => b2 (f_X2_copyFrom (o0 + 9) (o1 + 9) M22) (fun v24 M24 => some ((), M24)))))))))))))))))))))))))))
set_option maxRecDepth 8000 in
theorem c_X9_copyFrom {o0 : Nat} {o1 : Nat} {M0 : mM} {out : (Unit × mM)} (h : f_X9_copyFrom o0 o1 M0 = some out) : Cs (9) 73 [.ref o0, .ref o1] M0 (emW eU out) := by
  generalize hk : emW eU out = R
  replace hk := hk.symm
  unfold f_X9_copyFrom at h
  obtain ⟨go0, h⟩ := o_gd h
  obtain ⟨go1, h⟩ := o_gd h
  show Ev (9) 73 0 [some (.ref o0), some (.ref o1)] [] M0 R
  refine ev_go kc_73 2 (i' := 2) (L' := [some (.ref o0), some (.ref o1)]) (st' := [.ref o1, .ref o0]) (M' := M0) rfl ?_
  refine ev_gf kc_73 rfl (mTw0 go1) rfl ?_
  obtain ⟨M1, hM1, h⟩ := o_wr h
  refine ev_pf kc_73 rfl (mTw0 go0) rfl rfl (fun hc => absurd hc (by decide)) hM1 ?_
  refine ev_go kc_73 2 (i' := 6) (L' := [some (.ref o0), some (.ref o1)]) (st' := [.ref o1, .ref o0]) (M' := M1) rfl ?_
  refine ev_gf kc_73 rfl (mTw0 go1) rfl ?_
  obtain ⟨M2, hM2, h⟩ := o_wr h
  refine ev_pf kc_73 rfl (mTw0 go0) rfl rfl (fun hc => absurd hc (by decide)) hM2 ?_
  refine ev_go kc_73 2 (i' := 10) (L' := [some (.ref o0), some (.ref o1)]) (st' := [.ref o1, .ref o0]) (M' := M2) rfl ?_
  refine ev_gf kc_73 rfl (mTw0 go1) rfl ?_
  obtain ⟨M3, hM3, h⟩ := o_wr h
  refine ev_pf kc_73 rfl (mTw0 go0) rfl rfl (fun hc => absurd hc (by decide)) hM3 ?_
  refine ev_go kc_73 2 (i' := 14) (L' := [some (.ref o0), some (.ref o1)]) (st' := [.ref o1, .ref o0]) (M' := M3) rfl ?_
  refine ev_gf kc_73 rfl (mTw0 go1) rfl ?_
  obtain ⟨M4, hM4, h⟩ := o_wr h
  refine ev_pf kc_73 rfl (mTw0 go0) rfl rfl (fun hc => absurd hc (by decide)) hM4 ?_
  refine ev_go kc_73 2 (i' := 18) (L' := [some (.ref o0), some (.ref o1)]) (st' := [.ref o1, .ref o0]) (M' := M4) rfl ?_
  refine ev_gf kc_73 rfl (mTw0 go1) rfl ?_
  obtain ⟨M5, hM5, h⟩ := o_wr h
  refine ev_pf kc_73 rfl (mTw0 go0) rfl rfl (fun hc => absurd hc (by decide)) hM5 ?_
  refine ev_go kc_73 2 (i' := 22) (L' := [some (.ref o0), some (.ref o1)]) (st' := [.ref o1, .ref o0]) (M' := M5) rfl ?_
  refine ev_gf kc_73 rfl (mTw0 go1) rfl ?_
  obtain ⟨M6, hM6, h⟩ := o_wr h
  refine ev_pf kc_73 rfl (mTw0 go0) rfl rfl (fun hc => absurd hc (by decide)) hM6 ?_
  refine ev_go kc_73 2 (i' := 26) (L' := [some (.ref o0), some (.ref o1)]) (st' := [.ref o1, .ref o0]) (M' := M6) rfl ?_
  refine ev_gf kc_73 rfl (mTw0 go1) rfl ?_
  obtain ⟨M7, hM7, h⟩ := o_wr h
  refine ev_pf kc_73 rfl (mTw0 go0) rfl rfl (fun hc => absurd hc (by decide)) hM7 ?_
  refine ev_go kc_73 2 (i' := 30) (L' := [some (.ref o0), some (.ref o1)]) (st' := [.ref o1, .ref o0]) (M' := M7) rfl ?_
  refine ev_gf kc_73 rfl (mTw0 go1) rfl ?_
  obtain ⟨M8, hM8, h⟩ := o_wr h
  refine ev_pf kc_73 rfl (mTw0 go0) rfl rfl (fun hc => absurd hc (by decide)) hM8 ?_
  refine ev_go kc_73 2 (i' := 34) (L' := [some (.ref o0), some (.ref o1)]) (st' := [.ref o1, .ref o0]) (M' := M8) rfl ?_
  refine ev_gf kc_73 rfl (mTw0 go1) rfl ?_
  obtain ⟨M9, hM9, h⟩ := o_wr h
  refine ev_pf kc_73 rfl (mTw0 go0) rfl rfl (fun hc => absurd hc (by decide)) hM9 ?_
  refine ev_go kc_73 1 (i' := 37) (L' := [some (.ref o0), some (.ref o1)]) (st' := [.ref o1]) (M' := M9) rfl ?_
  refine ev_gr kc_73 rfl (mTw0 go1) (j := 0) rfl ?_
  refine ev_go kc_73 2 (i' := 40) (L' := [some (.ref o0), some (.ref o1)]) (st' := [.ref o0, .int (0 : Int32), .ref (o1 + 1)]) (M' := M9) rfl ?_
  refine ev_gr kc_73 rfl (mTw0 go0) (j := 0) rfl ?_
  refine ev_go kc_73 2 (i' := 43) (L' := [some (.ref o0), some (.ref o1)]) (st' := [.int (8 : Int32), .int (0 : Int32), .ref (o0 + 1), .int (0 : Int32), .ref (o1 + 1)]) (M' := M9) rfl ?_
  obtain ⟨hg11, h⟩ := o_gd h
  obtain ⟨M10, hM10, h⟩ := o_wr h
  refine ev_ac kc_73 rfl rfl rfl rfl hg11 hM10 ?_
  refine ev_go kc_73 1 (i' := 45) (L' := [some (.ref o0), some (.ref o1)]) (st' := [.ref o1]) (M' := M10) rfl ?_
  refine ev_gr kc_73 rfl (mTw0 go1) (j := 1) rfl ?_
  refine ev_go kc_73 2 (i' := 48) (L' := [some (.ref o0), some (.ref o1)]) (st' := [.ref o0, .int (0 : Int32), .ref (o1 + 2)]) (M' := M10) rfl ?_
  refine ev_gr kc_73 rfl (mTw0 go0) (j := 1) rfl ?_
  refine ev_go kc_73 2 (i' := 51) (L' := [some (.ref o0), some (.ref o1)]) (st' := [.int (8 : Int32), .int (0 : Int32), .ref (o0 + 2), .int (0 : Int32), .ref (o1 + 2)]) (M' := M10) rfl ?_
  obtain ⟨hg13, h⟩ := o_gd h
  obtain ⟨M12, hM12, h⟩ := o_wr h
  refine ev_ac kc_73 rfl rfl rfl rfl hg13 hM12 ?_
  refine ev_go kc_73 1 (i' := 53) (L' := [some (.ref o0), some (.ref o1)]) (st' := [.ref o1]) (M' := M12) rfl ?_
  refine ev_gr kc_73 rfl (mTw0 go1) (j := 2) rfl ?_
  refine ev_go kc_73 2 (i' := 56) (L' := [some (.ref o0), some (.ref o1)]) (st' := [.ref o0, .int (0 : Int32), .ref (o1 + 3)]) (M' := M12) rfl ?_
  refine ev_gr kc_73 rfl (mTw0 go0) (j := 2) rfl ?_
  refine ev_go kc_73 2 (i' := 59) (L' := [some (.ref o0), some (.ref o1)]) (st' := [.int (8 : Int32), .int (0 : Int32), .ref (o0 + 3), .int (0 : Int32), .ref (o1 + 3)]) (M' := M12) rfl ?_
  obtain ⟨hg15, h⟩ := o_gd h
  obtain ⟨M14, hM14, h⟩ := o_wr h
  refine ev_ac kc_73 rfl rfl rfl rfl hg15 hM14 ?_
  refine ev_go kc_73 1 (i' := 61) (L' := [some (.ref o0), some (.ref o1)]) (st' := [.ref o1]) (M' := M14) rfl ?_
  refine ev_gr kc_73 rfl (mTw0 go1) (j := 3) rfl ?_
  refine ev_go kc_73 2 (i' := 64) (L' := [some (.ref o0), some (.ref o1)]) (st' := [.ref o0, .int (0 : Int32), .ref (o1 + 4)]) (M' := M14) rfl ?_
  refine ev_gr kc_73 rfl (mTw0 go0) (j := 3) rfl ?_
  refine ev_go kc_73 2 (i' := 67) (L' := [some (.ref o0), some (.ref o1)]) (st' := [.int (8 : Int32), .int (0 : Int32), .ref (o0 + 4), .int (0 : Int32), .ref (o1 + 4)]) (M' := M14) rfl ?_
  obtain ⟨hg17, h⟩ := o_gd h
  obtain ⟨M16, hM16, h⟩ := o_wr h
  refine ev_ac kc_73 rfl rfl rfl rfl hg17 hM16 ?_
  refine ev_go kc_73 1 (i' := 69) (L' := [some (.ref o0), some (.ref o1)]) (st' := [.ref o1]) (M' := M16) rfl ?_
  refine ev_gr kc_73 rfl (mTw0 go1) (j := 4) rfl ?_
  refine ev_go kc_73 2 (i' := 72) (L' := [some (.ref o0), some (.ref o1)]) (st' := [.ref o0, .int (0 : Int32), .ref (o1 + 5)]) (M' := M16) rfl ?_
  refine ev_gr kc_73 rfl (mTw0 go0) (j := 4) rfl ?_
  refine ev_go kc_73 2 (i' := 75) (L' := [some (.ref o0), some (.ref o1)]) (st' := [.int (8 : Int32), .int (0 : Int32), .ref (o0 + 5), .int (0 : Int32), .ref (o1 + 5)]) (M' := M16) rfl ?_
  obtain ⟨hg19, h⟩ := o_gd h
  obtain ⟨M18, hM18, h⟩ := o_wr h
  refine ev_ac kc_73 rfl rfl rfl rfl hg19 hM18 ?_
  refine ev_go kc_73 1 (i' := 77) (L' := [some (.ref o0), some (.ref o1)]) (st' := [.ref o1]) (M' := M18) rfl ?_
  refine ev_gr kc_73 rfl (mTw0 go1) (j := 5) rfl ?_
  refine ev_go kc_73 2 (i' := 80) (L' := [some (.ref o0), some (.ref o1)]) (st' := [.ref o0, .int (0 : Int32), .ref (o1 + 6)]) (M' := M18) rfl ?_
  refine ev_gr kc_73 rfl (mTw0 go0) (j := 5) rfl ?_
  refine ev_go kc_73 2 (i' := 83) (L' := [some (.ref o0), some (.ref o1)]) (st' := [.int (8 : Int32), .int (0 : Int32), .ref (o0 + 6), .int (0 : Int32), .ref (o1 + 6)]) (M' := M18) rfl ?_
  obtain ⟨hg21, h⟩ := o_gd h
  obtain ⟨M20, hM20, h⟩ := o_wr h
  refine ev_ac kc_73 rfl rfl rfl rfl hg21 hM20 ?_
  refine ev_go kc_73 1 (i' := 85) (L' := [some (.ref o0), some (.ref o1)]) (st' := [.ref o1]) (M' := M20) rfl ?_
  refine ev_gr kc_73 rfl (mTw0 go1) (j := 6) rfl ?_
  refine ev_go kc_73 2 (i' := 88) (L' := [some (.ref o0), some (.ref o1)]) (st' := [.ref o0, .int (0 : Int32), .ref (o1 + 7)]) (M' := M20) rfl ?_
  refine ev_gr kc_73 rfl (mTw0 go0) (j := 6) rfl ?_
  refine ev_go kc_73 2 (i' := 91) (L' := [some (.ref o0), some (.ref o1)]) (st' := [.int (8 : Int32), .int (0 : Int32), .ref (o0 + 7), .int (0 : Int32), .ref (o1 + 7)]) (M' := M20) rfl ?_
  obtain ⟨hg23, h⟩ := o_gd h
  obtain ⟨M22, hM22, h⟩ := o_wr h
  refine ev_ac kc_73 rfl rfl rfl rfl hg23 hM22 ?_
  refine ev_go kc_73 1 (i' := 93) (L' := [some (.ref o0), some (.ref o1)]) (st' := [.ref o0]) (M' := M22) rfl ?_
  refine ev_gr kc_73 rfl (mTw0 go0) (j := 8) rfl ?_
  refine ev_go kc_73 1 (i' := 95) (L' := [some (.ref o0), some (.ref o1)]) (st' := [.ref o1, .ref (o0 + 9)]) (M' := M22) rfl ?_
  refine ev_gr kc_73 rfl (mTw0 go1) (j := 8) rfl ?_
  obtain ⟨v24, M24, hc24, h⟩ := o_b2 h
  refine ev_cl0 (ins := .invokevirtual 83) kc_73 rfl rfl (a := 28) (as := [.ref (o0 + 9), .ref (o1 + 9)]) (rest := []) rfl (m_rec (mTw9 go0)) (Cs.deep (c_X2_copyFrom hc24) (by decide)) ?_
  obtain rfl := Option.some.inj h
  rw [hk]
  exact ev_vret kc_73 rfl rfl rfl
/-- WakeTower$Past.remember(LWakeTower$Tower;)V: 34, W -/
theorem kc_34 : mKc 34 = k_X3_remember := rfl
def f_X3_remember_13 (o1 : Nat) (M0 : mM) : Option (Unit × mM) :=
  some ((), M0)
set_option maxRecDepth 8000 in
theorem e_X3_remember_13 {o1 : Nat} {M0 : mM} {R : mZ} {out : (Unit × mM)} (go1 : mTwB o1 = true) (h : f_X3_remember_13 o1 M0 = some out) (hk : R = emW eU out) : Ev (10) 34 13 [some (.ref 3), some (.ref o1), none] [] M0 R := by
  unfold f_X3_remember_13 at h
  refine ev_go kc_34 4 (i' := 36) (L' := [some (.ref 3), some (.ref o1), some (.null)]) (st' := []) (M' := M0) rfl ?_
  obtain rfl := Option.some.inj h
  rw [hk]
  exact ev_vret kc_34 rfl rfl rfl
def f_X3_remember (o1 : Nat) (M0 : mM) : Option (Unit × mM) :=
  gd (mTwB o1) (bif decide ((M0 3 1) < 0) then (f_X3_remember_13 o1 M0) else (bif decide ((12 : Int32) ≤ (M0 3 1)) then (f_X3_remember_13 o1 M0) else (gd (mIn (M0 3 1) 12) (gd (mTwB (71 + 12 * ix (M0 3 1))) (b2 (f_X9_copyFrom (71 + 12 * ix (M0 3 1)) o1 M0) (fun v5 M5 => wr (mst M5 3 1 (rmd ((M5 3 1) + (1 : Int32)) (12 : Int32))) (fun M6 => wr (mst M6 3 2 (mMin (12 : Int32) ((M6 3 2) + (1 : Int32)))) (fun M7 => some ((), M7)))))))))
set_option maxRecDepth 8000 in
theorem c_X3_remember {o1 : Nat} {M0 : mM} {out : (Unit × mM)} (h : f_X3_remember o1 M0 = some out) : Cs (10) 34 [.ref 3, .ref o1] M0 (emW eU out) := by
  generalize hk : emW eU out = R
  replace hk := hk.symm
  unfold f_X3_remember at h
  obtain ⟨go1, h⟩ := o_gd h
  show Ev (10) 34 0 [some (.ref 3), some (.ref o1), none] [] M0 R
  rcases o_bif h with ⟨hb1, h⟩ | ⟨hb1, h⟩
  · refine ev_goT kc_34 3 (t := 13) (e := 3) (L' := [some (.ref 3), some (.ref o1), none]) (st' := []) rfl hb1 ?_
    exact Ev.forget (mLe.kp (mLe.kp (mLe.sk mLe.nl))) (e_X3_remember_13 go1 h hk)
  · refine ev_goF kc_34 3 (t := 13) (e := 3) (L' := [some (.ref 3), some (.ref o1), none]) (st' := []) rfl hb1 ?_
    rcases o_bif h with ⟨hb2, h⟩ | ⟨hb2, h⟩
    · refine ev_goT kc_34 4 (t := 13) (e := 7) (L' := [some (.ref 3), some (.ref o1), none]) (st' := []) rfl hb2 ?_
      exact Ev.forget (mLe.kp (mLe.kp (mLe.sk mLe.nl))) (e_X3_remember_13 go1 h hk)
    · refine ev_goF kc_34 4 (t := 13) (e := 7) (L' := [some (.ref 3), some (.ref o1), none]) (st' := []) rfl hb2 ?_
      refine ev_go kc_34 4 (i' := 11) (L' := [some (.ref 3), some (.ref o1), none]) (st' := [.int (M0 3 1), .ref 4]) (M' := M0) rfl ?_
      obtain ⟨hg3, h⟩ := o_gd h
      obtain ⟨hg4, h⟩ := o_gd h
      refine ev_aa kc_34 rfl rfl hg3 ?_
      refine ev_go kc_34 6 (i' := 19) (L' := [some (.ref 3), some (.ref o1), some (.ref (71 + 12 * ix (M0 3 1)))]) (st' := [.ref o1, .ref (71 + 12 * ix (M0 3 1))]) (M' := M0) rfl ?_
      obtain ⟨v5, M5, hc5, h⟩ := o_b2 h
      refine ev_cl0 (ins := .invokevirtual 23) kc_34 rfl rfl (a := 73) (as := [.ref (71 + 12 * ix (M0 3 1)), .ref o1]) (rest := []) rfl (m_rec (mTw0 hg4)) (Cs.deep (c_X9_copyFrom hc5) (by decide)) ?_
      refine ev_go kc_34 7 (i' := 27) (L' := [some (.ref 3), some (.ref o1), some (.ref (71 + 12 * ix (M0 3 1)))]) (st' := [.int (rmd ((M5 3 1) + (1 : Int32)) (12 : Int32)), .ref 3]) (M' := M5) rfl ?_
      obtain ⟨M6, hM6, h⟩ := o_wr h
      refine ev_pf kc_34 rfl rfl rfl rfl (fun hc => absurd hc (by decide)) hM6 ?_
      refine ev_go kc_34 6 (i' := 34) (L' := [some (.ref 3), some (.ref o1), some (.ref (71 + 12 * ix (M0 3 1)))]) (st' := [.int ((M6 3 2) + (1 : Int32)), .int (12 : Int32), .ref 3]) (M' := M6) rfl ?_
      refine ev_pm kc_34 rfl rfl rfl rfl (as := [.int (12 : Int32), .int ((M6 3 2) + (1 : Int32))]) (rest := [.ref 3]) rfl rfl rfl (v := some (mMin (12 : Int32) ((M6 3 2) + (1 : Int32)))) rfl ?_
      obtain ⟨M7, hM7, h⟩ := o_wr h
      refine ev_pf kc_34 rfl rfl rfl rfl (fun hc => absurd hc (by decide)) hM7 ?_
      obtain rfl := Option.some.inj h
      rw [hk]
      exact ev_vret kc_34 rfl rfl rfl
/-- WakeTower$Past.recall(LWakeTower$Tower;)Z: 35, W -/
theorem kc_35 : mKc 35 = k_X3_recall := rfl
def f_X3_recall_22 (o1 : Nat) (l2 : Int32) (M0 : mM) : Option (Bool × mM) :=
  some (false, M0)
set_option maxRecDepth 8000 in
theorem e_X3_recall_22 {o1 : Nat} {l2 : Int32} {M0 : mM} {R : mZ} {out : (Bool × mM)} (go1 : mTwB o1 = true) (h : f_X3_recall_22 o1 l2 M0 = some out) (hk : R = emW eB out) : Ev (10) 35 22 [some (.ref 3), some (.ref o1), some (.int l2), none] [] M0 R := by
  unfold f_X3_recall_22 at h
  refine ev_go kc_35 5 (i' := 27) (L' := [some (.ref 3), some (.ref o1), some (.int l2), some (.null)]) (st' := [.int (0 : Int32)]) (M' := M0) rfl ?_
  obtain rfl := Option.some.inj h
  rw [hk]
  exact ev_ret kc_35 rfl rfl rfl
def f_X3_recall (o1 : Nat) (M0 : mM) : Option (Bool × mM) :=
  gd (mTwB o1) (bif decide ((M0 3 2) ≤ 0) then (f_X3_recall_22 o1 (rmd (((M0 3 1) + (12 : Int32)) - (1 : Int32)) (12 : Int32)) M0) else (bif decide ((rmd (((M0 3 1) + (12 : Int32)) - (1 : Int32)) (12 : Int32)) < 0) then (f_X3_recall_22 o1 (rmd (((M0 3 1) + (12 : Int32)) - (1 : Int32)) (12 : Int32)) M0) else (bif decide ((12 : Int32) ≤ (rmd (((M0 3 1) + (12 : Int32)) - (1 : Int32)) (12 : Int32))) then (f_X3_recall_22 o1 (rmd (((M0 3 1) + (12 : Int32)) - (1 : Int32)) (12 : Int32)) M0) else (gd (mIn (rmd (((M0 3 1) + (12 : Int32)) - (1 : Int32)) (12 : Int32)) 12) (gd (mTwB (71 + 12 * ix (rmd (((M0 3 1) + (12 : Int32)) - (1 : Int32)) (12 : Int32)))) (b2 (f_X9_copyFrom o1 (71 + 12 * ix (rmd (((M0 3 1) + (12 : Int32)) - (1 : Int32)) (12 : Int32))) M0) (fun v6 M6 => wr (mst M6 3 1 (rmd (((M0 3 1) + (12 : Int32)) - (1 : Int32)) (12 : Int32))) (fun M7 => wr (mst M7 3 2 ((M7 3 2) - (1 : Int32))) (fun M8 => some (true, M8))))))))))
set_option maxRecDepth 8000 in
theorem c_X3_recall {o1 : Nat} {M0 : mM} {out : (Bool × mM)} (h : f_X3_recall o1 M0 = some out) : Cs (10) 35 [.ref 3, .ref o1] M0 (emW eB out) := by
  generalize hk : emW eB out = R
  replace hk := hk.symm
  unfold f_X3_recall at h
  obtain ⟨go1, h⟩ := o_gd h
  show Ev (10) 35 0 [some (.ref 3), some (.ref o1), none, none] [] M0 R
  rcases o_bif h with ⟨hb1, h⟩ | ⟨hb1, h⟩
  · refine ev_goT kc_35 12 (t := 22) (e := 12) (L' := [some (.ref 3), some (.ref o1), some (.int (rmd (((M0 3 1) + (12 : Int32)) - (1 : Int32)) (12 : Int32))), none]) (st' := []) rfl hb1 ?_
    exact Ev.forget (mLe.kp (mLe.kp (mLe.kp (mLe.sk mLe.nl)))) (e_X3_recall_22 go1 h hk)
  · refine ev_goF kc_35 12 (t := 22) (e := 12) (L' := [some (.ref 3), some (.ref o1), some (.int (rmd (((M0 3 1) + (12 : Int32)) - (1 : Int32)) (12 : Int32))), none]) (st' := []) rfl hb1 ?_
    rcases o_bif h with ⟨hb2, h⟩ | ⟨hb2, h⟩
    · refine ev_goT kc_35 2 (t := 22) (e := 14) (L' := [some (.ref 3), some (.ref o1), some (.int (rmd (((M0 3 1) + (12 : Int32)) - (1 : Int32)) (12 : Int32))), none]) (st' := []) rfl hb2 ?_
      exact Ev.forget (mLe.kp (mLe.kp (mLe.kp (mLe.sk mLe.nl)))) (e_X3_recall_22 go1 h hk)
    · refine ev_goF kc_35 2 (t := 22) (e := 14) (L' := [some (.ref 3), some (.ref o1), some (.int (rmd (((M0 3 1) + (12 : Int32)) - (1 : Int32)) (12 : Int32))), none]) (st' := []) rfl hb2 ?_
      rcases o_bif h with ⟨hb3, h⟩ | ⟨hb3, h⟩
      · refine ev_goT kc_35 3 (t := 22) (e := 17) (L' := [some (.ref 3), some (.ref o1), some (.int (rmd (((M0 3 1) + (12 : Int32)) - (1 : Int32)) (12 : Int32))), none]) (st' := []) rfl hb3 ?_
        exact Ev.forget (mLe.kp (mLe.kp (mLe.kp (mLe.sk mLe.nl)))) (e_X3_recall_22 go1 h hk)
      · refine ev_goF kc_35 3 (t := 22) (e := 17) (L' := [some (.ref 3), some (.ref o1), some (.int (rmd (((M0 3 1) + (12 : Int32)) - (1 : Int32)) (12 : Int32))), none]) (st' := []) rfl hb3 ?_
        refine ev_go kc_35 3 (i' := 20) (L' := [some (.ref 3), some (.ref o1), some (.int (rmd (((M0 3 1) + (12 : Int32)) - (1 : Int32)) (12 : Int32))), none]) (st' := [.int (rmd (((M0 3 1) + (12 : Int32)) - (1 : Int32)) (12 : Int32)), .ref 4]) (M' := M0) rfl ?_
        obtain ⟨hg4, h⟩ := o_gd h
        obtain ⟨hg5, h⟩ := o_gd h
        refine ev_aa kc_35 rfl rfl hg4 ?_
        refine ev_go kc_35 6 (i' := 30) (L' := [some (.ref 3), some (.ref o1), some (.int (rmd (((M0 3 1) + (12 : Int32)) - (1 : Int32)) (12 : Int32))), some (.ref (71 + 12 * ix (rmd (((M0 3 1) + (12 : Int32)) - (1 : Int32)) (12 : Int32))))]) (st' := [.ref (71 + 12 * ix (rmd (((M0 3 1) + (12 : Int32)) - (1 : Int32)) (12 : Int32))), .ref o1]) (M' := M0) rfl ?_
        obtain ⟨v6, M6, hc6, h⟩ := o_b2 h
        refine ev_cl0 (ins := .invokevirtual 23) kc_35 rfl rfl (a := 73) (as := [.ref o1, .ref (71 + 12 * ix (rmd (((M0 3 1) + (12 : Int32)) - (1 : Int32)) (12 : Int32)))]) (rest := []) rfl (m_rec (mTw0 go1)) (Cs.deep (c_X9_copyFrom hc6) (by decide)) ?_
        refine ev_go kc_35 2 (i' := 33) (L' := [some (.ref 3), some (.ref o1), some (.int (rmd (((M0 3 1) + (12 : Int32)) - (1 : Int32)) (12 : Int32))), some (.ref (71 + 12 * ix (rmd (((M0 3 1) + (12 : Int32)) - (1 : Int32)) (12 : Int32))))]) (st' := [.int (rmd (((M0 3 1) + (12 : Int32)) - (1 : Int32)) (12 : Int32)), .ref 3]) (M' := M6) rfl ?_
        obtain ⟨M7, hM7, h⟩ := o_wr h
        refine ev_pf kc_35 rfl rfl rfl rfl (fun hc => absurd hc (by decide)) hM7 ?_
        refine ev_go kc_35 5 (i' := 39) (L' := [some (.ref 3), some (.ref o1), some (.int (rmd (((M0 3 1) + (12 : Int32)) - (1 : Int32)) (12 : Int32))), some (.ref (71 + 12 * ix (rmd (((M0 3 1) + (12 : Int32)) - (1 : Int32)) (12 : Int32))))]) (st' := [.int ((M7 3 2) - (1 : Int32)), .ref 3]) (M' := M7) rfl ?_
        obtain ⟨M8, hM8, h⟩ := o_wr h
        refine ev_pf kc_35 rfl rfl rfl rfl (fun hc => absurd hc (by decide)) hM8 ?_
        refine ev_go kc_35 1 (i' := 41) (L' := [some (.ref 3), some (.ref o1), some (.int (rmd (((M0 3 1) + (12 : Int32)) - (1 : Int32)) (12 : Int32))), some (.ref (71 + 12 * ix (rmd (((M0 3 1) + (12 : Int32)) - (1 : Int32)) (12 : Int32))))]) (st' := [.int (1 : Int32)]) (M' := M8) rfl ?_
        obtain rfl := Option.some.inj h
        rw [hk]
        exact ev_ret kc_35 rfl rfl rfl
/-- WakeTower.bit(I)I: 177, P -/
theorem kc_177 : mKc 177 = k_X11_bit := rfl
def f_X11_bit (p0 : Int32) : Int32 :=
  ((1 : Int32) <<< (p0 &&& (31 : Int32)))
set_option maxRecDepth 8000 in
theorem c_X11_bit {p0 : Int32} {M0 : mM} : Cs (0) 177 [.int p0] M0 (emR eI M0 (f_X11_bit p0)) := by
  generalize h : f_X11_bit p0 = out
  generalize hk : emR eI M0 out = R
  replace hk := hk.symm
  unfold f_X11_bit at h
  show Ev (0) 177 0 [some (.int p0)] [] M0 R
  refine ev_go kc_177 3 (i' := 3) (L' := [some (.int p0)]) (st' := [.int ((1 : Int32) <<< (p0 &&& (31 : Int32)))]) (M' := M0) rfl ?_
  subst h
  rw [hk]
  exact ev_ret kc_177 rfl rfl rfl
/-- WakeTower$Reliefs.tellOne(II)V: 37, W -/
theorem kc_37 : mKc 37 = k_X4_tellOne := rfl
def f_X4_tellOne (p1 : Int32) (p2 : Int32) (M0 : mM) : Option (Unit × mM) :=
  bif decide ((p1 / (2 : Int32)) < 0) then (some ((), M0)) else (bif decide ((p1 / (2 : Int32)) < (4 : Int32)) then (bif decide (¬ (rmd p1 (2 : Int32)) = 0) then (gd (mIn (p1 / (2 : Int32)) 4) (wr (mst M0 15 (ix (p1 / (2 : Int32))) p2) (fun M4 => some ((), M4)))) else (gd (mIn (p1 / (2 : Int32)) 4) (wr (mst M0 14 (ix (p1 / (2 : Int32))) p2) (fun M6 => some ((), M6))))) else (some ((), M0)))
set_option maxRecDepth 8000 in
theorem c_X4_tellOne {p1 : Int32} {p2 : Int32} {M0 : mM} {out : (Unit × mM)} (h : f_X4_tellOne p1 p2 M0 = some out) : Cs (0) 37 [.ref 13, .int p1, .int p2] M0 (emW eU out) := by
  generalize hk : emW eU out = R
  replace hk := hk.symm
  unfold f_X4_tellOne at h
  show Ev (0) 37 0 [some (.ref 13), some (.int p1), some (.int p2), none] [] M0 R
  rcases o_bif h with ⟨hb1, h⟩ | ⟨hb1, h⟩
  · refine ev_goT kc_37 6 (t := 9) (e := 6) (L' := [some (.ref 13), some (.int p1), some (.int p2), some (.int (p1 / (2 : Int32)))]) (st' := []) rfl hb1 ?_
    obtain rfl := Option.some.inj h
    rw [hk]
    exact ev_vret kc_37 rfl rfl rfl
  · refine ev_goF kc_37 6 (t := 9) (e := 6) (L' := [some (.ref 13), some (.int p1), some (.int p2), some (.int (p1 / (2 : Int32)))]) (st' := []) rfl hb1 ?_
    rcases o_bif h with ⟨hb2, h⟩ | ⟨hb2, h⟩
    · refine ev_goT kc_37 3 (t := 10) (e := 9) (L' := [some (.ref 13), some (.int p1), some (.int p2), some (.int (p1 / (2 : Int32)))]) (st' := []) rfl hb2 ?_
      rcases o_bif h with ⟨hb3, h⟩ | ⟨hb3, h⟩
      · refine ev_goT kc_37 4 (t := 20) (e := 14) (L' := [some (.ref 13), some (.int p1), some (.int p2), some (.int (p1 / (2 : Int32)))]) (st' := []) rfl hb3 ?_
        refine ev_go kc_37 4 (i' := 24) (L' := [some (.ref 13), some (.int p1), some (.int p2), some (.int (p1 / (2 : Int32)))]) (st' := [.int p2, .int (p1 / (2 : Int32)), .ref 15]) (M' := M0) rfl ?_
        obtain ⟨hg5, h⟩ := o_gd h
        obtain ⟨M4, hM4, h⟩ := o_wr h
        refine ev_is kc_37 rfl rfl hg5 hM4 ?_
        obtain rfl := Option.some.inj h
        rw [hk]
        exact ev_vret kc_37 rfl rfl rfl
      · refine ev_goF kc_37 4 (t := 20) (e := 14) (L' := [some (.ref 13), some (.int p1), some (.int p2), some (.int (p1 / (2 : Int32)))]) (st' := []) rfl hb3 ?_
        refine ev_go kc_37 4 (i' := 18) (L' := [some (.ref 13), some (.int p1), some (.int p2), some (.int (p1 / (2 : Int32)))]) (st' := [.int p2, .int (p1 / (2 : Int32)), .ref 14]) (M' := M0) rfl ?_
        obtain ⟨hg7, h⟩ := o_gd h
        obtain ⟨M6, hM6, h⟩ := o_wr h
        refine ev_is kc_37 rfl rfl hg7 hM6 ?_
        refine ev_go kc_37 1 (i' := 25) (L' := [some (.ref 13), some (.int p1), some (.int p2), some (.int (p1 / (2 : Int32)))]) (st' := []) (M' := M6) rfl ?_
        obtain rfl := Option.some.inj h
        rw [hk]
        exact ev_vret kc_37 rfl rfl rfl
    · refine ev_goF kc_37 3 (t := 10) (e := 9) (L' := [some (.ref 13), some (.int p1), some (.int p2), some (.int (p1 / (2 : Int32)))]) (st' := []) rfl hb2 ?_
      obtain rfl := Option.some.inj h
      rw [hk]
      exact ev_vret kc_37 rfl rfl rfl
/-- WakeTower$Reliefs.read(LWakeTower$Tape;I)Z: 36, W -/
theorem kc_36 : mKc 36 = k_X4_read := rfl
def f_X4_read_18 (l2 : Int32) (l3 : Int32) (l4 : Int32) (M0 : mM) : Option ((Bool × mM) ⊕ (Int32 × Int32 × mM)) :=
  bif decide ((8 : Int32) ≤ l4) then (wr (mst M0 13 3 ((M0 1 1) / (2 : Int32))) (fun M2 => some (.inl (true, M2)))) else (bif decide ((M0 1 1) ≤ l4) then (some (.inr (l3, (l4 + (1 : Int32)), M0))) else (b1 (f_X7_byteAt l4 M0) (fun v4 => bif decide (v4 < 0) then (some (.inl (false, M0))) else (bif decide (l2 ≤ v4) then (some (.inl (false, M0))) else (bif (f_X11_has l3 v4) then (some (.inl (false, M0))) else (b2 (f_X4_tellOne l4 v4 M0) (fun v10 M10 => some (.inr ((l3 ||| (f_X11_bit v4)), (l4 + (1 : Int32)), M10)))))))))
set_option maxRecDepth 8000 in
theorem e_X4_read_18 {l2 : Int32} {l3 : Int32} {l4 : Int32} {M0 : mM} {R : mZ} {out : ((Bool × mM) ⊕ (Int32 × Int32 × mM))}  (h : f_X4_read_18 l2 l3 l4 M0 = some out) (hk : (∀ s' : Int32 × Int32 × mM, out = .inr s' → Ev (1) 36 18 [some (.ref 13), some (.ref 1), some (.int l2), some (.int s'.1), some (.int s'.2.1), none] [] (s'.2.2) R) ∧ (∀ e1 : (Bool × mM), out = .inl e1 → R = emW eB e1)) : Ev (1) 36 18 [some (.ref 13), some (.ref 1), some (.int l2), some (.int l3), some (.int l4), none] [] M0 R := by
  unfold f_X4_read_18 at h
  rcases o_bif h with ⟨hb1, h⟩ | ⟨hb1, h⟩
  · refine ev_goT kc_36 3 (t := 51) (e := 21) (L' := [some (.ref 13), some (.ref 1), some (.int l2), some (.int l3), some (.int l4), none]) (st' := []) rfl hb1 ?_
    refine ev_go kc_36 5 (i' := 56) (L' := [some (.ref 13), some (.ref 1), some (.int l2), some (.int l3), some (.int l4), none]) (st' := [.int ((M0 1 1) / (2 : Int32)), .ref 13]) (M' := M0) rfl ?_
    obtain ⟨M2, hM2, h⟩ := o_wr h
    refine ev_pf kc_36 rfl rfl rfl rfl (fun hc => absurd hc (by decide)) hM2 ?_
    refine ev_go kc_36 1 (i' := 58) (L' := [some (.ref 13), some (.ref 1), some (.int l2), some (.int l3), some (.int l4), none]) (st' := [.int (1 : Int32)]) (M' := M2) rfl ?_
    obtain rfl := Option.some.inj h
    rw [show _ from (hk.2 _ rfl)]
    exact ev_ret kc_36 rfl rfl rfl
  · refine ev_goF kc_36 3 (t := 51) (e := 21) (L' := [some (.ref 13), some (.ref 1), some (.int l2), some (.int l3), some (.int l4), none]) (st' := []) rfl hb1 ?_
    rcases o_bif h with ⟨hb3, h⟩ | ⟨hb3, h⟩
    · refine ev_goT kc_36 4 (t := 49) (e := 25) (L' := [some (.ref 13), some (.ref 1), some (.int l2), some (.int l3), some (.int l4), none]) (st' := []) rfl hb3 ?_
      refine ev_go kc_36 2 (i' := 18) (L' := [some (.ref 13), some (.ref 1), some (.int l2), some (.int l3), some (.int (l4 + (1 : Int32))), none]) (st' := []) (M' := M0) rfl ?_
      obtain rfl := Option.some.inj h
      exact Ev.forget (mLe.kp (mLe.kp (mLe.kp (mLe.kp (mLe.kp (mLe.sk mLe.nl)))))) (hk.1 (l3, (l4 + (1 : Int32)), M0) rfl)
    · refine ev_goF kc_36 4 (t := 49) (e := 25) (L' := [some (.ref 13), some (.ref 1), some (.int l2), some (.int l3), some (.int l4), none]) (st' := []) rfl hb3 ?_
      refine ev_go kc_36 2 (i' := 27) (L' := [some (.ref 13), some (.ref 1), some (.int l2), some (.int l3), some (.int l4), none]) (st' := [.int l4, .ref 1]) (M' := M0) rfl ?_
      obtain ⟨v4, hc4, h⟩ := o_b1 h
      refine ev_cl0 (ins := .invokevirtual 31) kc_36 rfl rfl (a := 58) (as := [.ref 1, .int l4]) (rest := []) rfl rfl (Cs.deep (c_X7_byteAt (M0 := M0) hc4) (by decide)) ?_
      rcases o_bif h with ⟨hb5, h⟩ | ⟨hb5, h⟩
      · refine ev_goT kc_36 3 (t := 38) (e := 31) (L' := [some (.ref 13), some (.ref 1), some (.int l2), some (.int l3), some (.int l4), some (.int v4)]) (st' := []) rfl hb5 ?_
        refine ev_go kc_36 1 (i' := 39) (L' := [some (.ref 13), some (.ref 1), some (.int l2), some (.int l3), some (.int l4), some (.int v4)]) (st' := [.int (0 : Int32)]) (M' := M0) rfl ?_
        obtain rfl := Option.some.inj h
        rw [show _ from (hk.2 _ rfl)]
        exact ev_ret kc_36 rfl rfl rfl
      · refine ev_goF kc_36 3 (t := 38) (e := 31) (L' := [some (.ref 13), some (.ref 1), some (.int l2), some (.int l3), some (.int l4), some (.int v4)]) (st' := []) rfl hb5 ?_
        rcases o_bif h with ⟨hb6, h⟩ | ⟨hb6, h⟩
        · refine ev_goT kc_36 3 (t := 38) (e := 34) (L' := [some (.ref 13), some (.ref 1), some (.int l2), some (.int l3), some (.int l4), some (.int v4)]) (st' := []) rfl hb6 ?_
          refine ev_go kc_36 1 (i' := 39) (L' := [some (.ref 13), some (.ref 1), some (.int l2), some (.int l3), some (.int l4), some (.int v4)]) (st' := [.int (0 : Int32)]) (M' := M0) rfl ?_
          obtain rfl := Option.some.inj h
          rw [show _ from (hk.2 _ rfl)]
          exact ev_ret kc_36 rfl rfl rfl
        · refine ev_goF kc_36 3 (t := 38) (e := 34) (L' := [some (.ref 13), some (.ref 1), some (.int l2), some (.int l3), some (.int l4), some (.int v4)]) (st' := []) rfl hb6 ?_
          refine ev_go kc_36 2 (i' := 36) (L' := [some (.ref 13), some (.ref 1), some (.int l2), some (.int l3), some (.int l4), some (.int v4)]) (st' := [.int v4, .int l3]) (M' := M0) rfl ?_
          refine ev_cl0 (ins := .invokestatic 35) kc_36 rfl rfl (a := 178) (as := [.int l3, .int v4]) (rest := []) rfl rfl (Cs.deep (c_X11_has (M0 := M0)) (by decide)) ?_
          rcases o_bif h with ⟨hb8, h⟩ | ⟨hb8, h⟩
          · refine ev_goF kc_36 1 (t := 40) (e := 38) (L' := [some (.ref 13), some (.ref 1), some (.int l2), some (.int l3), some (.int l4), some (.int v4)]) (st' := []) rfl (mB_e0f hb8) ?_
            refine ev_go kc_36 1 (i' := 39) (L' := [some (.ref 13), some (.ref 1), some (.int l2), some (.int l3), some (.int l4), some (.int v4)]) (st' := [.int (0 : Int32)]) (M' := M0) rfl ?_
            obtain rfl := Option.some.inj h
            rw [show _ from (hk.2 _ rfl)]
            exact ev_ret kc_36 rfl rfl rfl
          · refine ev_goT kc_36 1 (t := 40) (e := 38) (L' := [some (.ref 13), some (.ref 1), some (.int l2), some (.int l3), some (.int l4), some (.int v4)]) (st' := []) rfl (mB_e0t hb8) ?_
            refine ev_go kc_36 2 (i' := 42) (L' := [some (.ref 13), some (.ref 1), some (.int l2), some (.int l3), some (.int l4), some (.int v4)]) (st' := [.int v4, .int l3]) (M' := M0) rfl ?_
            refine ev_cl0 (ins := .invokestatic 39) kc_36 rfl rfl (a := 177) (as := [.int v4]) (rest := [.int l3]) rfl rfl (Cs.deep (c_X11_bit (M0 := M0)) (by decide)) ?_
            refine ev_go kc_36 5 (i' := 48) (L' := [some (.ref 13), some (.ref 1), some (.int l2), some (.int (l3 ||| (f_X11_bit v4))), some (.int l4), some (.int v4)]) (st' := [.int v4, .int l4, .ref 13]) (M' := M0) rfl ?_
            obtain ⟨v10, M10, hc10, h⟩ := o_b2 h
            refine ev_cl0 (ins := .invokevirtual 42) kc_36 rfl rfl (a := 37) (as := [.ref 13, .int l4, .int v4]) (rest := []) rfl rfl (Cs.deep (c_X4_tellOne hc10) (by decide)) ?_
            refine ev_go kc_36 2 (i' := 18) (L' := [some (.ref 13), some (.ref 1), some (.int l2), some (.int (l3 ||| (f_X11_bit v4))), some (.int (l4 + (1 : Int32))), some (.int v4)]) (st' := []) (M' := M10) rfl ?_
            obtain rfl := Option.some.inj h
            exact Ev.forget (mLe.kp (mLe.kp (mLe.kp (mLe.kp (mLe.kp (mLe.sk mLe.nl)))))) (hk.1 ((l3 ||| (f_X11_bit v4)), (l4 + (1 : Int32)), M10) rfl)
def f_X4_read_l18 (l2 : Int32) (l3 : Int32) (l4 : Int32) (M0 : mM) : Option (Bool × mM) :=
  wh 100000 (fun s : Int32 × Int32 × mM => f_X4_read_18 l2 s.1 s.2.1 s.2.2) (l3, l4, M0)
theorem e_X4_read_l18 {l2 : Int32} {l3 : Int32} {l4 : Int32} {M0 : mM} {R : mZ} {out : (Bool × mM)}  (h : f_X4_read_l18 l2 l3 l4 M0 = some out) (hk : R = emW eB out) : Ev (1) 36 18 [some (.ref 13), some (.ref 1), some (.int l2), some (.int l3), some (.int l4), none] [] M0 R := by
  unfold f_X4_read_l18 at h
  exact wh_ev (P := fun s : Int32 × Int32 × mM => Ev (1) 36 18 [some (.ref 13), some (.ref 1), some (.int l2), some (.int s.1), some (.int s.2.1), none] [] s.2.2 R) (Q := fun e : (Bool × mM) => R = emW eB e) (fun s o hb h1 h2 => e_X4_read_18  hb ⟨h1, h2⟩) 100000 _ _ h hk
def f_X4_read (p2 : Int32) (M0 : mM) : Option (Bool × mM) :=
  wr (mst M0 13 3 (0 : Int32)) (fun M11 => bif decide ((8 : Int32) < (M11 1 1)) then (some (false, M11)) else (bif decide ((rmd (M11 1 1) (2 : Int32)) = 0) then (f_X4_read_l18 p2 (0 : Int32) (0 : Int32) M11) else (some (false, M11))))
set_option maxRecDepth 8000 in
theorem c_X4_read {p2 : Int32} {M0 : mM} {out : (Bool × mM)} (h : f_X4_read p2 M0 = some out) : Cs (1) 36 [.ref 13, .ref 1, .int p2] M0 (emW eB out) := by
  generalize hk : emW eB out = R
  replace hk := hk.symm
  unfold f_X4_read at h
  show Ev (1) 36 0 [some (.ref 13), some (.ref 1), some (.int p2), none, none, none] [] M0 R
  refine ev_go kc_36 2 (i' := 2) (L' := [some (.ref 13), some (.ref 1), some (.int p2), none, none, none]) (st' := [.int (0 : Int32), .ref 13]) (M' := M0) rfl ?_
  obtain ⟨M11, hM11, h⟩ := o_wr h
  refine ev_pf kc_36 rfl rfl rfl rfl (fun hc => absurd hc (by decide)) hM11 ?_
  rcases o_bif h with ⟨hb12, h⟩ | ⟨hb12, h⟩
  · refine ev_goT kc_36 4 (t := 12) (e := 7) (L' := [some (.ref 13), some (.ref 1), some (.int p2), none, none, none]) (st' := []) rfl hb12 ?_
    refine ev_go kc_36 1 (i' := 13) (L' := [some (.ref 13), some (.ref 1), some (.int p2), none, none, none]) (st' := [.int (0 : Int32)]) (M' := M11) rfl ?_
    obtain rfl := Option.some.inj h
    rw [hk]
    exact ev_ret kc_36 rfl rfl rfl
  · refine ev_goF kc_36 4 (t := 12) (e := 7) (L' := [some (.ref 13), some (.ref 1), some (.int p2), none, none, none]) (st' := []) rfl hb12 ?_
    rcases o_bif h with ⟨hb13, h⟩ | ⟨hb13, h⟩
    · refine ev_goT kc_36 5 (t := 14) (e := 12) (L' := [some (.ref 13), some (.ref 1), some (.int p2), none, none, none]) (st' := []) rfl hb13 ?_
      refine ev_go kc_36 4 (i' := 18) (L' := [some (.ref 13), some (.ref 1), some (.int p2), some (.int (0 : Int32)), some (.int (0 : Int32)), none]) (st' := []) (M' := M11) rfl ?_
      exact Ev.forget (mLe.kp (mLe.kp (mLe.kp (mLe.kp (mLe.kp (mLe.sk mLe.nl)))))) (e_X4_read_l18  h hk)
    · refine ev_goF kc_36 5 (t := 14) (e := 12) (L' := [some (.ref 13), some (.ref 1), some (.int p2), none, none, none]) (st' := []) rfl hb13 ?_
      refine ev_go kc_36 1 (i' := 13) (L' := [some (.ref 13), some (.ref 1), some (.int p2), none, none, none]) (st' := [.int (0 : Int32)]) (M' := M11) rfl ?_
      obtain rfl := Option.some.inj h
      rw [hk]
      exact ev_ret kc_36 rfl rfl rfl
/-- WakeTower$Tower.canSwap(II)Z: 86, R -/
theorem kc_86 : mKc 86 = k_X9_canSwap := rfl
def f_X9_canSwap (o0 : Nat) (p1 : Int32) (p2 : Int32) (M0 : mM) : Option Bool :=
  gd (mTwB o0) (bif (f_X11_has (M0 o0 1) p1) then (bif (f_X11_has (M0 o0 1) p2) then (some false) else (some true)) else (some false))
set_option maxRecDepth 8000 in
theorem c_X9_canSwap {o0 : Nat} {p1 : Int32} {p2 : Int32} {M0 : mM} {out : Bool} (h : f_X9_canSwap o0 p1 p2 M0 = some out) : Cs (1) 86 [.ref o0, .int p1, .int p2] M0 (emR eB M0 out) := by
  generalize hk : emR eB M0 out = R
  replace hk := hk.symm
  unfold f_X9_canSwap at h
  obtain ⟨go0, h⟩ := o_gd h
  show Ev (1) 86 0 [some (.ref o0), some (.int p1), some (.int p2)] [] M0 R
  refine ev_go kc_86 1 (i' := 1) (L' := [some (.ref o0), some (.int p1), some (.int p2)]) (st' := [.ref o0]) (M' := M0) rfl ?_
  refine ev_gf kc_86 rfl (mTw0 go0) rfl ?_
  refine ev_go kc_86 1 (i' := 3) (L' := [some (.ref o0), some (.int p1), some (.int p2)]) (st' := [.int p1, .int (M0 o0 1)]) (M' := M0) rfl ?_
  refine ev_cl0 (ins := .invokestatic 91) kc_86 rfl rfl (a := 178) (as := [.int (M0 o0 1), .int p1]) (rest := []) rfl rfl (Cs.deep (c_X11_has (M0 := M0)) (by decide)) ?_
  rcases o_bif h with ⟨hb2, h⟩ | ⟨hb2, h⟩
  · refine ev_goF kc_86 1 (t := 12) (e := 5) (L' := [some (.ref o0), some (.int p1), some (.int p2)]) (st' := []) rfl (mB_e0f hb2) ?_
    refine ev_go kc_86 1 (i' := 6) (L' := [some (.ref o0), some (.int p1), some (.int p2)]) (st' := [.ref o0]) (M' := M0) rfl ?_
    refine ev_gf kc_86 rfl (mTw0 go0) rfl ?_
    refine ev_go kc_86 1 (i' := 8) (L' := [some (.ref o0), some (.int p1), some (.int p2)]) (st' := [.int p2, .int (M0 o0 1)]) (M' := M0) rfl ?_
    refine ev_cl0 (ins := .invokestatic 91) kc_86 rfl rfl (a := 178) (as := [.int (M0 o0 1), .int p2]) (rest := []) rfl rfl (Cs.deep (c_X11_has (M0 := M0)) (by decide)) ?_
    rcases o_bif h with ⟨hb4, h⟩ | ⟨hb4, h⟩
    · refine ev_goT kc_86 1 (t := 12) (e := 10) (L' := [some (.ref o0), some (.int p1), some (.int p2)]) (st' := []) rfl (mB_n0t hb4) ?_
      refine ev_go kc_86 1 (i' := 13) (L' := [some (.ref o0), some (.int p1), some (.int p2)]) (st' := [.int (0 : Int32)]) (M' := M0) rfl ?_
      obtain rfl := Option.some.inj h
      rw [hk]
      exact ev_ret kc_86 rfl rfl rfl
    · refine ev_goF kc_86 1 (t := 12) (e := 10) (L' := [some (.ref o0), some (.int p1), some (.int p2)]) (st' := []) rfl (mB_n0f hb4) ?_
      refine ev_go kc_86 2 (i' := 13) (L' := [some (.ref o0), some (.int p1), some (.int p2)]) (st' := [.int (1 : Int32)]) (M' := M0) rfl ?_
      obtain rfl := Option.some.inj h
      rw [hk]
      exact ev_ret kc_86 rfl rfl rfl
  · refine ev_goT kc_86 1 (t := 12) (e := 5) (L' := [some (.ref o0), some (.int p1), some (.int p2)]) (st' := []) rfl (mB_e0t hb2) ?_
    refine ev_go kc_86 1 (i' := 13) (L' := [some (.ref o0), some (.int p1), some (.int p2)]) (st' := [.int (0 : Int32)]) (M' := M0) rfl ?_
    obtain rfl := Option.some.inj h
    rw [hk]
    exact ev_ret kc_86 rfl rfl rfl
/-- WakeTower$Tower.bringUp(III)V: 84, W -/
theorem kc_84 : mKc 84 = k_X9_bringUp := rfl
def f_X9_bringUp (o0 : Nat) (p1 : Int32) (p2 : Int32) (p3 : Int32) (M0 : mM) : Option (Unit × mM) :=
  gd (mTwB o0) (wr (mst M0 o0 1 ((M0 o0 1) ||| (f_X11_bit p1))) (fun M2 => gd (mIn p1 8) (wr (mst M2 (o0 + 5) (ix p1) p2) (fun M3 => gd (mIn p1 8) (wr (mst M3 (o0 + 6) (ix p1) p3) (fun M5 => some ((), M5)))))))
set_option maxRecDepth 8000 in
theorem c_X9_bringUp {o0 : Nat} {p1 : Int32} {p2 : Int32} {p3 : Int32} {M0 : mM} {out : (Unit × mM)} (h : f_X9_bringUp o0 p1 p2 p3 M0 = some out) : Cs (1) 84 [.ref o0, .int p1, .int p2, .int p3] M0 (emW eU out) := by
  generalize hk : emW eU out = R
  replace hk := hk.symm
  unfold f_X9_bringUp at h
  obtain ⟨go0, h⟩ := o_gd h
  show Ev (1) 84 0 [some (.ref o0), some (.int p1), some (.int p2), some (.int p3)] [] M0 R
  refine ev_go kc_84 2 (i' := 2) (L' := [some (.ref o0), some (.int p1), some (.int p2), some (.int p3)]) (st' := [.ref o0, .ref o0]) (M' := M0) rfl ?_
  refine ev_gf kc_84 rfl (mTw0 go0) rfl ?_
  refine ev_go kc_84 1 (i' := 4) (L' := [some (.ref o0), some (.int p1), some (.int p2), some (.int p3)]) (st' := [.int p1, .int (M0 o0 1), .ref o0]) (M' := M0) rfl ?_
  refine ev_cl0 (ins := .invokestatic 87) kc_84 rfl rfl (a := 177) (as := [.int p1]) (rest := [.int (M0 o0 1), .ref o0]) rfl rfl (Cs.deep (c_X11_bit (M0 := M0)) (by decide)) ?_
  refine ev_go kc_84 1 (i' := 6) (L' := [some (.ref o0), some (.int p1), some (.int p2), some (.int p3)]) (st' := [.int ((M0 o0 1) ||| (f_X11_bit p1)), .ref o0]) (M' := M0) rfl ?_
  obtain ⟨M2, hM2, h⟩ := o_wr h
  refine ev_pf kc_84 rfl (mTw0 go0) rfl rfl (fun hc => absurd hc (by decide)) hM2 ?_
  refine ev_go kc_84 1 (i' := 8) (L' := [some (.ref o0), some (.int p1), some (.int p2), some (.int p3)]) (st' := [.ref o0]) (M' := M2) rfl ?_
  refine ev_gr kc_84 rfl (mTw0 go0) (j := 4) rfl ?_
  refine ev_go kc_84 2 (i' := 11) (L' := [some (.ref o0), some (.int p1), some (.int p2), some (.int p3)]) (st' := [.int p2, .int p1, .ref (o0 + 5)]) (M' := M2) rfl ?_
  obtain ⟨hg4, h⟩ := o_gd h
  obtain ⟨M3, hM3, h⟩ := o_wr h
  refine ev_is kc_84 rfl (mTw5 go0) hg4 hM3 ?_
  refine ev_go kc_84 1 (i' := 13) (L' := [some (.ref o0), some (.int p1), some (.int p2), some (.int p3)]) (st' := [.ref o0]) (M' := M3) rfl ?_
  refine ev_gr kc_84 rfl (mTw0 go0) (j := 5) rfl ?_
  refine ev_go kc_84 2 (i' := 16) (L' := [some (.ref o0), some (.int p1), some (.int p2), some (.int p3)]) (st' := [.int p3, .int p1, .ref (o0 + 6)]) (M' := M3) rfl ?_
  obtain ⟨hg6, h⟩ := o_gd h
  obtain ⟨M5, hM5, h⟩ := o_wr h
  refine ev_is kc_84 rfl (mTw6 go0) hg6 hM5 ?_
  obtain rfl := Option.some.inj h
  rw [hk]
  exact ev_vret kc_84 rfl rfl rfl
/-- WakeTower$Tower.takeDown(I)V: 85, W -/
theorem kc_85 : mKc 85 = k_X9_takeDown := rfl
def f_X9_takeDown_30 (o0 : Nat) (l1 : Int32) (l2 : Int32) (s1 : Int32) (s2 : Int32) (M0 : mM) : Option ((Unit × mM) ⊕ (Int32 × mM)) :=
  gd (mIn s1 8) (wr (mst M0 (o0 + 6) (ix s1) s2) (fun M1 => some (.inr ((l2 + (1 : Int32)), M1))))
set_option maxRecDepth 8000 in
theorem e_X9_takeDown_30 {o0 : Nat} {l1 : Int32} {l2 : Int32} {s1 : Int32} {s2 : Int32} {M0 : mM} {R : mZ} {out : ((Unit × mM) ⊕ (Int32 × mM))} (go0 : mTwB o0 = true) (h : f_X9_takeDown_30 o0 l1 l2 s1 s2 M0 = some out) (hk : (∀ s' : Int32 × mM, out = .inr s' → Ev (1) 85 10 [some (.ref o0), some (.int l1), some (.int s'.1)] [] (s'.2) R) ∧ (∀ e1 : (Unit × mM), out = .inl e1 → R = emW eU e1)) : Ev (1) 85 30 [some (.ref o0), some (.int l1), some (.int l2)] [.int s2, .int s1, .ref (o0 + 6)] M0 R := by
  unfold f_X9_takeDown_30 at h
  obtain ⟨hg2, h⟩ := o_gd h
  obtain ⟨M1, hM1, h⟩ := o_wr h
  refine ev_is kc_85 rfl (mTw6 go0) hg2 hM1 ?_
  refine ev_go kc_85 2 (i' := 10) (L' := [some (.ref o0), some (.int l1), some (.int (l2 + (1 : Int32)))]) (st' := []) (M' := M1) rfl ?_
  obtain rfl := Option.some.inj h
  exact Ev.forget (mLe.kp (mLe.kp (mLe.kp mLe.nl))) (hk.1 ((l2 + (1 : Int32)), M1) rfl)
def f_X9_takeDown_10 (o0 : Nat) (l1 : Int32) (l2 : Int32) (M0 : mM) : Option ((Unit × mM) ⊕ (Int32 × mM)) :=
  bif decide ((8 : Int32) ≤ l2) then (some (.inl ((), M0))) else (bif (f_X11_has l1 l2) then (f_X9_takeDown_30 o0 l1 l2 l2 (0 : Int32) M0) else (gd (mIn l2 8) (f_X9_takeDown_30 o0 l1 l2 l2 ((M0 (o0 + 6) (ix l2)) &&& (l1 ^^^ (-1 : Int32))) M0)))
set_option maxRecDepth 8000 in
theorem e_X9_takeDown_10 {o0 : Nat} {l1 : Int32} {l2 : Int32} {M0 : mM} {R : mZ} {out : ((Unit × mM) ⊕ (Int32 × mM))} (go0 : mTwB o0 = true) (h : f_X9_takeDown_10 o0 l1 l2 M0 = some out) (hk : (∀ s' : Int32 × mM, out = .inr s' → Ev (1) 85 10 [some (.ref o0), some (.int l1), some (.int s'.1)] [] (s'.2) R) ∧ (∀ e1 : (Unit × mM), out = .inl e1 → R = emW eU e1)) : Ev (1) 85 10 [some (.ref o0), some (.int l1), some (.int l2)] [] M0 R := by
  unfold f_X9_takeDown_10 at h
  rcases o_bif h with ⟨hb3, h⟩ | ⟨hb3, h⟩
  · refine ev_goT kc_85 3 (t := 33) (e := 13) (L' := [some (.ref o0), some (.int l1), some (.int l2)]) (st' := []) rfl hb3 ?_
    obtain rfl := Option.some.inj h
    rw [show _ from (hk.2 _ rfl)]
    exact ev_vret kc_85 rfl rfl rfl
  · refine ev_goF kc_85 3 (t := 33) (e := 13) (L' := [some (.ref o0), some (.int l1), some (.int l2)]) (st' := []) rfl hb3 ?_
    refine ev_go kc_85 1 (i' := 14) (L' := [some (.ref o0), some (.int l1), some (.int l2)]) (st' := [.ref o0]) (M' := M0) rfl ?_
    refine ev_gr kc_85 rfl (mTw0 go0) (j := 5) rfl ?_
    refine ev_go kc_85 3 (i' := 18) (L' := [some (.ref o0), some (.int l1), some (.int l2)]) (st' := [.int l2, .int l1, .int l2, .ref (o0 + 6)]) (M' := M0) rfl ?_
    refine ev_cl0 (ins := .invokestatic 91) kc_85 rfl rfl (a := 178) (as := [.int l1, .int l2]) (rest := [.int l2, .ref (o0 + 6)]) rfl rfl (Cs.deep (c_X11_has (M0 := M0)) (by decide)) ?_
    rcases o_bif h with ⟨hb5, h⟩ | ⟨hb5, h⟩
    · refine ev_goF kc_85 1 (t := 22) (e := 20) (L' := [some (.ref o0), some (.int l1), some (.int l2)]) (st' := [.int l2, .ref (o0 + 6)]) rfl (mB_e0f hb5) ?_
      refine ev_go kc_85 2 (i' := 30) (L' := [some (.ref o0), some (.int l1), some (.int l2)]) (st' := [.int (0 : Int32), .int l2, .ref (o0 + 6)]) (M' := M0) rfl ?_
      exact Ev.forget (mLe.kp (mLe.kp (mLe.kp mLe.nl))) (e_X9_takeDown_30 go0 h hk)
    · refine ev_goT kc_85 1 (t := 22) (e := 20) (L' := [some (.ref o0), some (.int l1), some (.int l2)]) (st' := [.int l2, .ref (o0 + 6)]) rfl (mB_e0t hb5) ?_
      refine ev_go kc_85 1 (i' := 23) (L' := [some (.ref o0), some (.int l1), some (.int l2)]) (st' := [.ref o0, .int l2, .ref (o0 + 6)]) (M' := M0) rfl ?_
      refine ev_gr kc_85 rfl (mTw0 go0) (j := 5) rfl ?_
      refine ev_go kc_85 1 (i' := 25) (L' := [some (.ref o0), some (.int l1), some (.int l2)]) (st' := [.int l2, .ref (o0 + 6), .int l2, .ref (o0 + 6)]) (M' := M0) rfl ?_
      obtain ⟨hg6, h⟩ := o_gd h
      refine ev_ia kc_85 rfl (mTw6 go0) hg6 ?_
      refine ev_go kc_85 4 (i' := 30) (L' := [some (.ref o0), some (.int l1), some (.int l2)]) (st' := [.int ((M0 (o0 + 6) (ix l2)) &&& (l1 ^^^ (-1 : Int32))), .int l2, .ref (o0 + 6)]) (M' := M0) rfl ?_
      exact Ev.forget (mLe.kp (mLe.kp (mLe.kp mLe.nl))) (e_X9_takeDown_30 go0 h hk)
def f_X9_takeDown_l10 (o0 : Nat) (l1 : Int32) (l2 : Int32) (M0 : mM) : Option (Unit × mM) :=
  wh 100000 (fun s : Int32 × mM => f_X9_takeDown_10 o0 l1 s.1 s.2) (l2, M0)
theorem e_X9_takeDown_l10 {o0 : Nat} {l1 : Int32} {l2 : Int32} {M0 : mM} {R : mZ} {out : (Unit × mM)} (go0 : mTwB o0 = true) (h : f_X9_takeDown_l10 o0 l1 l2 M0 = some out) (hk : R = emW eU out) : Ev (1) 85 10 [some (.ref o0), some (.int l1), some (.int l2)] [] M0 R := by
  unfold f_X9_takeDown_l10 at h
  exact wh_ev (P := fun s : Int32 × mM => Ev (1) 85 10 [some (.ref o0), some (.int l1), some (.int s.1)] [] s.2 R) (Q := fun e : (Unit × mM) => R = emW eU e) (fun s o hb h1 h2 => e_X9_takeDown_10 go0 hb ⟨h1, h2⟩) 100000 _ _ h hk
def f_X9_takeDown (o0 : Nat) (p1 : Int32) (M0 : mM) : Option (Unit × mM) :=
  gd (mTwB o0) (wr (mst M0 o0 1 ((M0 o0 1) &&& (p1 ^^^ (-1 : Int32)))) (fun M7 => f_X9_takeDown_l10 o0 p1 (0 : Int32) M7))
set_option maxRecDepth 8000 in
theorem c_X9_takeDown {o0 : Nat} {p1 : Int32} {M0 : mM} {out : (Unit × mM)} (h : f_X9_takeDown o0 p1 M0 = some out) : Cs (1) 85 [.ref o0, .int p1] M0 (emW eU out) := by
  generalize hk : emW eU out = R
  replace hk := hk.symm
  unfold f_X9_takeDown at h
  obtain ⟨go0, h⟩ := o_gd h
  show Ev (1) 85 0 [some (.ref o0), some (.int p1), none] [] M0 R
  refine ev_go kc_85 2 (i' := 2) (L' := [some (.ref o0), some (.int p1), none]) (st' := [.ref o0, .ref o0]) (M' := M0) rfl ?_
  refine ev_gf kc_85 rfl (mTw0 go0) rfl ?_
  refine ev_go kc_85 4 (i' := 7) (L' := [some (.ref o0), some (.int p1), none]) (st' := [.int ((M0 o0 1) &&& (p1 ^^^ (-1 : Int32))), .ref o0]) (M' := M0) rfl ?_
  obtain ⟨M7, hM7, h⟩ := o_wr h
  refine ev_pf kc_85 rfl (mTw0 go0) rfl rfl (fun hc => absurd hc (by decide)) hM7 ?_
  refine ev_go kc_85 2 (i' := 10) (L' := [some (.ref o0), some (.int p1), some (.int (0 : Int32))]) (st' := []) (M' := M7) rfl ?_
  exact Ev.forget (mLe.kp (mLe.kp (mLe.kp mLe.nl))) (e_X9_takeDown_l10 go0 h hk)
/-- WakeTower$Tower.swap(II)V: 87, W -/
theorem kc_87 : mKc 87 = k_X9_swap := rfl
def f_X9_swap_2 (o0 : Nat) (l1 : Int32) (l2 : Int32) (l3 : Int32) (M0 : mM) : Option ((Unit × mM) ⊕ (Int32 × mM)) :=
  bif decide ((8 : Int32) ≤ l3) then (gd (mIn l1 8) (gd (mIn l1 8) (b2 (f_X9_bringUp o0 l2 (M0 (o0 + 5) (ix l1)) (M0 (o0 + 6) (ix l1)) M0) (fun v4 M4 => b2 (f_X9_takeDown o0 (f_X11_bit l1) M4) (fun v6 M6 => some (.inl ((), M6))))))) else (gd (mIn l3 8) (bif (f_X11_has (M0 (o0 + 6) (ix l3)) l1) then (gd (mIn l3 8) (gd (mIn l3 8) (wr (mst M0 (o0 + 6) (ix l3) ((M0 (o0 + 6) (ix l3)) ||| (f_X11_bit l2))) (fun M12 => some (.inr ((l3 + (1 : Int32)), M12)))))) else (some (.inr ((l3 + (1 : Int32)), M0)))))
set_option maxRecDepth 8000 in
theorem e_X9_swap_2 {o0 : Nat} {l1 : Int32} {l2 : Int32} {l3 : Int32} {M0 : mM} {R : mZ} {out : ((Unit × mM) ⊕ (Int32 × mM))} (go0 : mTwB o0 = true) (h : f_X9_swap_2 o0 l1 l2 l3 M0 = some out) (hk : (∀ s' : Int32 × mM, out = .inr s' → Ev (2) 87 2 [some (.ref o0), some (.int l1), some (.int l2), some (.int s'.1)] [] (s'.2) R) ∧ (∀ e1 : (Unit × mM), out = .inl e1 → R = emW eU e1)) : Ev (2) 87 2 [some (.ref o0), some (.int l1), some (.int l2), some (.int l3)] [] M0 R := by
  unfold f_X9_swap_2 at h
  rcases o_bif h with ⟨hb1, h⟩ | ⟨hb1, h⟩
  · refine ev_goT kc_87 3 (t := 23) (e := 5) (L' := [some (.ref o0), some (.int l1), some (.int l2), some (.int l3)]) (st' := []) rfl hb1 ?_
    refine ev_go kc_87 3 (i' := 26) (L' := [some (.ref o0), some (.int l1), some (.int l2), some (.int l3)]) (st' := [.ref o0, .int l2, .ref o0]) (M' := M0) rfl ?_
    refine ev_gr kc_87 rfl (mTw0 go0) (j := 4) rfl ?_
    refine ev_go kc_87 1 (i' := 28) (L' := [some (.ref o0), some (.int l1), some (.int l2), some (.int l3)]) (st' := [.int l1, .ref (o0 + 5), .int l2, .ref o0]) (M' := M0) rfl ?_
    obtain ⟨hg2, h⟩ := o_gd h
    refine ev_ia kc_87 rfl (mTw5 go0) hg2 ?_
    refine ev_go kc_87 1 (i' := 30) (L' := [some (.ref o0), some (.int l1), some (.int l2), some (.int l3)]) (st' := [.ref o0, .int (M0 (o0 + 5) (ix l1)), .int l2, .ref o0]) (M' := M0) rfl ?_
    refine ev_gr kc_87 rfl (mTw0 go0) (j := 5) rfl ?_
    refine ev_go kc_87 1 (i' := 32) (L' := [some (.ref o0), some (.int l1), some (.int l2), some (.int l3)]) (st' := [.int l1, .ref (o0 + 6), .int (M0 (o0 + 5) (ix l1)), .int l2, .ref o0]) (M' := M0) rfl ?_
    obtain ⟨hg3, h⟩ := o_gd h
    refine ev_ia kc_87 rfl (mTw6 go0) hg3 ?_
    obtain ⟨v4, M4, hc4, h⟩ := o_b2 h
    refine ev_cl0 (ins := .invokevirtual 101) kc_87 rfl rfl (a := 84) (as := [.ref o0, .int l2, .int (M0 (o0 + 5) (ix l1)), .int (M0 (o0 + 6) (ix l1))]) (rest := []) rfl (m_rec (mTw0 go0)) (Cs.deep (c_X9_bringUp hc4) (by decide)) ?_
    refine ev_go kc_87 2 (i' := 36) (L' := [some (.ref o0), some (.int l1), some (.int l2), some (.int l3)]) (st' := [.int l1, .ref o0]) (M' := M4) rfl ?_
    refine ev_cl0 (ins := .invokestatic 87) kc_87 rfl rfl (a := 177) (as := [.int l1]) (rest := [.ref o0]) rfl rfl (Cs.deep (c_X11_bit (M0 := M4)) (by decide)) ?_
    obtain ⟨v6, M6, hc6, h⟩ := o_b2 h
    refine ev_cl0 (ins := .invokevirtual 105) kc_87 rfl rfl (a := 85) (as := [.ref o0, .int (f_X11_bit l1)]) (rest := []) rfl (m_rec (mTw0 go0)) (Cs.deep (c_X9_takeDown hc6) (by decide)) ?_
    obtain rfl := Option.some.inj h
    rw [show _ from (hk.2 _ rfl)]
    exact ev_vret kc_87 rfl rfl rfl
  · refine ev_goF kc_87 3 (t := 23) (e := 5) (L' := [some (.ref o0), some (.int l1), some (.int l2), some (.int l3)]) (st' := []) rfl hb1 ?_
    refine ev_go kc_87 1 (i' := 6) (L' := [some (.ref o0), some (.int l1), some (.int l2), some (.int l3)]) (st' := [.ref o0]) (M' := M0) rfl ?_
    refine ev_gr kc_87 rfl (mTw0 go0) (j := 5) rfl ?_
    refine ev_go kc_87 1 (i' := 8) (L' := [some (.ref o0), some (.int l1), some (.int l2), some (.int l3)]) (st' := [.int l3, .ref (o0 + 6)]) (M' := M0) rfl ?_
    obtain ⟨hg7, h⟩ := o_gd h
    refine ev_ia kc_87 rfl (mTw6 go0) hg7 ?_
    refine ev_go kc_87 1 (i' := 10) (L' := [some (.ref o0), some (.int l1), some (.int l2), some (.int l3)]) (st' := [.int l1, .int (M0 (o0 + 6) (ix l3))]) (M' := M0) rfl ?_
    refine ev_cl0 (ins := .invokestatic 91) kc_87 rfl rfl (a := 178) (as := [.int (M0 (o0 + 6) (ix l3)), .int l1]) (rest := []) rfl rfl (Cs.deep (c_X11_has (M0 := M0)) (by decide)) ?_
    rcases o_bif h with ⟨hb9, h⟩ | ⟨hb9, h⟩
    · refine ev_goF kc_87 1 (t := 21) (e := 12) (L' := [some (.ref o0), some (.int l1), some (.int l2), some (.int l3)]) (st' := []) rfl (mB_e0f hb9) ?_
      refine ev_go kc_87 1 (i' := 13) (L' := [some (.ref o0), some (.int l1), some (.int l2), some (.int l3)]) (st' := [.ref o0]) (M' := M0) rfl ?_
      refine ev_gr kc_87 rfl (mTw0 go0) (j := 5) rfl ?_
      refine ev_go kc_87 2 (i' := 16) (L' := [some (.ref o0), some (.int l1), some (.int l2), some (.int l3)]) (st' := [.int l3, .ref (o0 + 6), .int l3, .ref (o0 + 6)]) (M' := M0) rfl ?_
      obtain ⟨hg10, h⟩ := o_gd h
      refine ev_ia kc_87 rfl (mTw6 go0) hg10 ?_
      refine ev_go kc_87 1 (i' := 18) (L' := [some (.ref o0), some (.int l1), some (.int l2), some (.int l3)]) (st' := [.int l2, .int (M0 (o0 + 6) (ix l3)), .int l3, .ref (o0 + 6)]) (M' := M0) rfl ?_
      refine ev_cl0 (ins := .invokestatic 87) kc_87 rfl rfl (a := 177) (as := [.int l2]) (rest := [.int (M0 (o0 + 6) (ix l3)), .int l3, .ref (o0 + 6)]) rfl rfl (Cs.deep (c_X11_bit (M0 := M0)) (by decide)) ?_
      refine ev_go kc_87 1 (i' := 20) (L' := [some (.ref o0), some (.int l1), some (.int l2), some (.int l3)]) (st' := [.int ((M0 (o0 + 6) (ix l3)) ||| (f_X11_bit l2)), .int l3, .ref (o0 + 6)]) (M' := M0) rfl ?_
      obtain ⟨hg13, h⟩ := o_gd h
      obtain ⟨M12, hM12, h⟩ := o_wr h
      refine ev_is kc_87 rfl (mTw6 go0) hg13 hM12 ?_
      refine ev_go kc_87 2 (i' := 2) (L' := [some (.ref o0), some (.int l1), some (.int l2), some (.int (l3 + (1 : Int32)))]) (st' := []) (M' := M12) rfl ?_
      obtain rfl := Option.some.inj h
      exact Ev.forget (mLe.kp (mLe.kp (mLe.kp (mLe.kp mLe.nl)))) (hk.1 ((l3 + (1 : Int32)), M12) rfl)
    · refine ev_goT kc_87 1 (t := 21) (e := 12) (L' := [some (.ref o0), some (.int l1), some (.int l2), some (.int l3)]) (st' := []) rfl (mB_e0t hb9) ?_
      refine ev_go kc_87 2 (i' := 2) (L' := [some (.ref o0), some (.int l1), some (.int l2), some (.int (l3 + (1 : Int32)))]) (st' := []) (M' := M0) rfl ?_
      obtain rfl := Option.some.inj h
      exact Ev.forget (mLe.kp (mLe.kp (mLe.kp (mLe.kp mLe.nl)))) (hk.1 ((l3 + (1 : Int32)), M0) rfl)
def f_X9_swap_l2 (o0 : Nat) (l1 : Int32) (l2 : Int32) (l3 : Int32) (M0 : mM) : Option (Unit × mM) :=
  wh 100000 (fun s : Int32 × mM => f_X9_swap_2 o0 l1 l2 s.1 s.2) (l3, M0)
theorem e_X9_swap_l2 {o0 : Nat} {l1 : Int32} {l2 : Int32} {l3 : Int32} {M0 : mM} {R : mZ} {out : (Unit × mM)} (go0 : mTwB o0 = true) (h : f_X9_swap_l2 o0 l1 l2 l3 M0 = some out) (hk : R = emW eU out) : Ev (2) 87 2 [some (.ref o0), some (.int l1), some (.int l2), some (.int l3)] [] M0 R := by
  unfold f_X9_swap_l2 at h
  exact wh_ev (P := fun s : Int32 × mM => Ev (2) 87 2 [some (.ref o0), some (.int l1), some (.int l2), some (.int s.1)] [] s.2 R) (Q := fun e : (Unit × mM) => R = emW eU e) (fun s o hb h1 h2 => e_X9_swap_2 go0 hb ⟨h1, h2⟩) 100000 _ _ h hk
def f_X9_swap (o0 : Nat) (p1 : Int32) (p2 : Int32) (M0 : mM) : Option (Unit × mM) :=
  gd (mTwB o0) (f_X9_swap_l2 o0 p1 p2 (0 : Int32) M0)
set_option maxRecDepth 8000 in
theorem c_X9_swap {o0 : Nat} {p1 : Int32} {p2 : Int32} {M0 : mM} {out : (Unit × mM)} (h : f_X9_swap o0 p1 p2 M0 = some out) : Cs (2) 87 [.ref o0, .int p1, .int p2] M0 (emW eU out) := by
  generalize hk : emW eU out = R
  replace hk := hk.symm
  unfold f_X9_swap at h
  obtain ⟨go0, h⟩ := o_gd h
  show Ev (2) 87 0 [some (.ref o0), some (.int p1), some (.int p2), none] [] M0 R
  refine ev_go kc_87 2 (i' := 2) (L' := [some (.ref o0), some (.int p1), some (.int p2), some (.int (0 : Int32))]) (st' := []) (M' := M0) rfl ?_
  exact Ev.forget (mLe.kp (mLe.kp (mLe.kp (mLe.kp mLe.nl)))) (e_X9_swap_l2 go0 h hk)
/-- WakeTower$Tower.hanging(II)I: 91, R -/
theorem kc_91 : mKc 91 = k_X9_hanging := rfl
def f_X9_hanging_10 (o0 : Nat) (l1 : Int32) (l3 : Int32) (l4 : Int32) (l5 : Int32) (M0 : mM) : Option (Int32 ⊕ (Int32 × Int32)) :=
  bif decide ((8 : Int32) ≤ l5) then (some (.inl l4)) else (bif (f_X11_has l1 l5) then (gd (mIn l5 8) (bif decide ((M0 (o0 + 5) (ix l5)) ≤ 0) then (some (.inr (l4, (l5 + (1 : Int32))))) else (gd (mIn l5 8) (bif decide (¬ ((M0 (o0 + 6) (ix l5)) &&& l3) = 0) then (some (.inr (l4, (l5 + (1 : Int32))))) else (some (.inr ((l4 ||| (f_X11_bit l5)), (l5 + (1 : Int32))))))))) else (some (.inr (l4, (l5 + (1 : Int32))))))
set_option maxRecDepth 8000 in
theorem e_X9_hanging_10 {o0 : Nat} {l1 : Int32} {l3 : Int32} {l4 : Int32} {l5 : Int32} {M0 : mM} {R : mZ} {out : (Int32 ⊕ (Int32 × Int32))} (go0 : mTwB o0 = true) (h : f_X9_hanging_10 o0 l1 l3 l4 l5 M0 = some out) (hk : (∀ s' : Int32 × Int32, out = .inr s' → Ev (1) 91 10 [some (.ref o0), some (.int l1), none, some (.int l3), some (.int s'.1), some (.int s'.2)] [] M0 R) ∧ (∀ e1 : Int32, out = .inl e1 → R = emR eI M0 e1)) : Ev (1) 91 10 [some (.ref o0), some (.int l1), none, some (.int l3), some (.int l4), some (.int l5)] [] M0 R := by
  unfold f_X9_hanging_10 at h
  rcases o_bif h with ⟨hb1, h⟩ | ⟨hb1, h⟩
  · refine ev_goT kc_91 3 (t := 36) (e := 13) (L' := [some (.ref o0), some (.int l1), none, some (.int l3), some (.int l4), some (.int l5)]) (st' := []) rfl hb1 ?_
    refine ev_go kc_91 1 (i' := 37) (L' := [some (.ref o0), some (.int l1), none, some (.int l3), some (.int l4), some (.int l5)]) (st' := [.int l4]) (M' := M0) rfl ?_
    obtain rfl := Option.some.inj h
    rw [show _ from (hk.2 _ rfl)]
    exact ev_ret kc_91 rfl rfl rfl
  · refine ev_goF kc_91 3 (t := 36) (e := 13) (L' := [some (.ref o0), some (.int l1), none, some (.int l3), some (.int l4), some (.int l5)]) (st' := []) rfl hb1 ?_
    refine ev_go kc_91 2 (i' := 15) (L' := [some (.ref o0), some (.int l1), none, some (.int l3), some (.int l4), some (.int l5)]) (st' := [.int l5, .int l1]) (M' := M0) rfl ?_
    refine ev_cl0 (ins := .invokestatic 91) kc_91 rfl rfl (a := 178) (as := [.int l1, .int l5]) (rest := []) rfl rfl (Cs.deep (c_X11_has (M0 := M0)) (by decide)) ?_
    rcases o_bif h with ⟨hb3, h⟩ | ⟨hb3, h⟩
    · refine ev_goF kc_91 1 (t := 34) (e := 17) (L' := [some (.ref o0), some (.int l1), none, some (.int l3), some (.int l4), some (.int l5)]) (st' := []) rfl (mB_e0f hb3) ?_
      refine ev_go kc_91 1 (i' := 18) (L' := [some (.ref o0), some (.int l1), none, some (.int l3), some (.int l4), some (.int l5)]) (st' := [.ref o0]) (M' := M0) rfl ?_
      refine ev_gr kc_91 rfl (mTw0 go0) (j := 4) rfl ?_
      refine ev_go kc_91 1 (i' := 20) (L' := [some (.ref o0), some (.int l1), none, some (.int l3), some (.int l4), some (.int l5)]) (st' := [.int l5, .ref (o0 + 5)]) (M' := M0) rfl ?_
      obtain ⟨hg4, h⟩ := o_gd h
      refine ev_ia kc_91 rfl (mTw5 go0) hg4 ?_
      rcases o_bif h with ⟨hb5, h⟩ | ⟨hb5, h⟩
      · refine ev_goT kc_91 1 (t := 34) (e := 22) (L' := [some (.ref o0), some (.int l1), none, some (.int l3), some (.int l4), some (.int l5)]) (st' := []) rfl hb5 ?_
        refine ev_go kc_91 2 (i' := 10) (L' := [some (.ref o0), some (.int l1), none, some (.int l3), some (.int l4), some (.int (l5 + (1 : Int32)))]) (st' := []) (M' := M0) rfl ?_
        obtain rfl := Option.some.inj h
        exact Ev.forget (mLe.kp (mLe.kp (mLe.sk (mLe.kp (mLe.kp (mLe.kp mLe.nl)))))) (hk.1 (l4, (l5 + (1 : Int32))) rfl)
      · refine ev_goF kc_91 1 (t := 34) (e := 22) (L' := [some (.ref o0), some (.int l1), none, some (.int l3), some (.int l4), some (.int l5)]) (st' := []) rfl hb5 ?_
        refine ev_go kc_91 1 (i' := 23) (L' := [some (.ref o0), some (.int l1), none, some (.int l3), some (.int l4), some (.int l5)]) (st' := [.ref o0]) (M' := M0) rfl ?_
        refine ev_gr kc_91 rfl (mTw0 go0) (j := 5) rfl ?_
        refine ev_go kc_91 1 (i' := 25) (L' := [some (.ref o0), some (.int l1), none, some (.int l3), some (.int l4), some (.int l5)]) (st' := [.int l5, .ref (o0 + 6)]) (M' := M0) rfl ?_
        obtain ⟨hg6, h⟩ := o_gd h
        refine ev_ia kc_91 rfl (mTw6 go0) hg6 ?_
        rcases o_bif h with ⟨hb7, h⟩ | ⟨hb7, h⟩
        · refine ev_goT kc_91 3 (t := 34) (e := 29) (L' := [some (.ref o0), some (.int l1), none, some (.int l3), some (.int l4), some (.int l5)]) (st' := []) rfl hb7 ?_
          refine ev_go kc_91 2 (i' := 10) (L' := [some (.ref o0), some (.int l1), none, some (.int l3), some (.int l4), some (.int (l5 + (1 : Int32)))]) (st' := []) (M' := M0) rfl ?_
          obtain rfl := Option.some.inj h
          exact Ev.forget (mLe.kp (mLe.kp (mLe.sk (mLe.kp (mLe.kp (mLe.kp mLe.nl)))))) (hk.1 (l4, (l5 + (1 : Int32))) rfl)
        · refine ev_goF kc_91 3 (t := 34) (e := 29) (L' := [some (.ref o0), some (.int l1), none, some (.int l3), some (.int l4), some (.int l5)]) (st' := []) rfl hb7 ?_
          refine ev_go kc_91 2 (i' := 31) (L' := [some (.ref o0), some (.int l1), none, some (.int l3), some (.int l4), some (.int l5)]) (st' := [.int l5, .int l4]) (M' := M0) rfl ?_
          refine ev_cl0 (ins := .invokestatic 87) kc_91 rfl rfl (a := 177) (as := [.int l5]) (rest := [.int l4]) rfl rfl (Cs.deep (c_X11_bit (M0 := M0)) (by decide)) ?_
          refine ev_go kc_91 4 (i' := 10) (L' := [some (.ref o0), some (.int l1), none, some (.int l3), some (.int (l4 ||| (f_X11_bit l5))), some (.int (l5 + (1 : Int32)))]) (st' := []) (M' := M0) rfl ?_
          obtain rfl := Option.some.inj h
          exact Ev.forget (mLe.kp (mLe.kp (mLe.sk (mLe.kp (mLe.kp (mLe.kp mLe.nl)))))) (hk.1 ((l4 ||| (f_X11_bit l5)), (l5 + (1 : Int32))) rfl)
    · refine ev_goT kc_91 1 (t := 34) (e := 17) (L' := [some (.ref o0), some (.int l1), none, some (.int l3), some (.int l4), some (.int l5)]) (st' := []) rfl (mB_e0t hb3) ?_
      refine ev_go kc_91 2 (i' := 10) (L' := [some (.ref o0), some (.int l1), none, some (.int l3), some (.int l4), some (.int (l5 + (1 : Int32)))]) (st' := []) (M' := M0) rfl ?_
      obtain rfl := Option.some.inj h
      exact Ev.forget (mLe.kp (mLe.kp (mLe.sk (mLe.kp (mLe.kp (mLe.kp mLe.nl)))))) (hk.1 (l4, (l5 + (1 : Int32))) rfl)
def f_X9_hanging_l10 (o0 : Nat) (l1 : Int32) (l3 : Int32) (l4 : Int32) (l5 : Int32) (M0 : mM) : Option Int32 :=
  wh 100000 (fun s : Int32 × Int32 => f_X9_hanging_10 o0 l1 l3 s.1 s.2 M0) (l4, l5)
theorem e_X9_hanging_l10 {o0 : Nat} {l1 : Int32} {l3 : Int32} {l4 : Int32} {l5 : Int32} {M0 : mM} {R : mZ} {out : Int32} (go0 : mTwB o0 = true) (h : f_X9_hanging_l10 o0 l1 l3 l4 l5 M0 = some out) (hk : R = emR eI M0 out) : Ev (1) 91 10 [some (.ref o0), some (.int l1), none, some (.int l3), some (.int l4), some (.int l5)] [] M0 R := by
  unfold f_X9_hanging_l10 at h
  exact wh_ev (P := fun s : Int32 × Int32 => Ev (1) 91 10 [some (.ref o0), some (.int l1), none, some (.int l3), some (.int s.1), some (.int s.2)] [] M0 R) (Q := fun e : Int32 => R = emR eI M0 e) (fun s o hb h1 h2 => e_X9_hanging_10 go0 hb ⟨h1, h2⟩) 100000 _ _ h hk
def f_X9_hanging (o0 : Nat) (p1 : Int32) (p2 : Int32) (M0 : mM) : Option Int32 :=
  gd (mTwB o0) (f_X9_hanging_l10 o0 p1 (p1 &&& (p2 ^^^ (-1 : Int32))) (0 : Int32) (0 : Int32) M0)
set_option maxRecDepth 8000 in
theorem c_X9_hanging {o0 : Nat} {p1 : Int32} {p2 : Int32} {M0 : mM} {out : Int32} (h : f_X9_hanging o0 p1 p2 M0 = some out) : Cs (1) 91 [.ref o0, .int p1, .int p2] M0 (emR eI M0 out) := by
  generalize hk : emR eI M0 out = R
  replace hk := hk.symm
  unfold f_X9_hanging at h
  obtain ⟨go0, h⟩ := o_gd h
  show Ev (1) 91 0 [some (.ref o0), some (.int p1), some (.int p2), none, none, none] [] M0 R
  refine ev_go kc_91 10 (i' := 10) (L' := [some (.ref o0), some (.int p1), some (.int p2), some (.int (p1 &&& (p2 ^^^ (-1 : Int32)))), some (.int (0 : Int32)), some (.int (0 : Int32))]) (st' := []) (M' := M0) rfl ?_
  exact Ev.forget (mLe.kp (mLe.kp (mLe.sk (mLe.kp (mLe.kp (mLe.kp mLe.nl)))))) (e_X9_hanging_l10 go0 h hk)
/-- WakeTower$Tower.shareOut(II[I)V: 90, W -/
theorem kc_90 : mKc 90 = k_X9_shareOut := rfl
def f_X9_shareOut_34 (o2 : Nat) (l1 : Int32) (l4 : Int32) (l5 : Int32) (l6 : Int32) (s1 : Int32) (s2 : Int32) (s3 : Int32) (M0 : mM) : Option ((Unit × mM) ⊕ (Int32 × Int32 × mM)) :=
  gd (mIn s1 8) (wr (mst M0 o2 (ix s1) (s2 + s3)) (fun M1 => some (.inr ((l5 + (-1 : Int32)), (l6 + (1 : Int32)), M1))))
set_option maxRecDepth 8000 in
theorem e_X9_shareOut_34 {o2 : Nat} {l1 : Int32} {l4 : Int32} {l5 : Int32} {l6 : Int32} {s1 : Int32} {s2 : Int32} {s3 : Int32} {M0 : mM} {R : mZ} {out : ((Unit × mM) ⊕ (Int32 × Int32 × mM))} (go2 : mA8B o2 = true) (h : f_X9_shareOut_34 o2 l1 l4 l5 l6 s1 s2 s3 M0 = some out) (hk : (∀ s' : Int32 × Int32 × mM, out = .inr s' → Ev (1) 90 16 [none, some (.int l1), some (.ref o2), none, some (.int l4), some (.int s'.1), some (.int s'.2.1)] [] (s'.2.2) R) ∧ (∀ e1 : (Unit × mM), out = .inl e1 → R = emW eU e1)) : Ev (1) 90 34 [none, some (.int l1), some (.ref o2), none, some (.int l4), some (.int l5), some (.int l6)] [.int s3, .int s2, .int s1, .ref o2] M0 R := by
  unfold f_X9_shareOut_34 at h
  refine ev_go kc_90 1 (i' := 35) (L' := [none, some (.int l1), some (.ref o2), none, some (.int l4), some (.int l5), some (.int l6)]) (st' := [.int (s2 + s3), .int s1, .ref o2]) (M' := M0) rfl ?_
  obtain ⟨hg2, h⟩ := o_gd h
  obtain ⟨M1, hM1, h⟩ := o_wr h
  refine ev_is kc_90 rfl (mA80 go2) hg2 hM1 ?_
  refine ev_go kc_90 3 (i' := 16) (L' := [none, some (.int l1), some (.ref o2), none, some (.int l4), some (.int (l5 + (-1 : Int32))), some (.int (l6 + (1 : Int32)))]) (st' := []) (M' := M1) rfl ?_
  obtain rfl := Option.some.inj h
  exact Ev.forget (mLe.sk (mLe.kp (mLe.kp (mLe.sk (mLe.kp (mLe.kp (mLe.kp mLe.nl))))))) (hk.1 ((l5 + (-1 : Int32)), (l6 + (1 : Int32)), M1) rfl)
def f_X9_shareOut_16 (o2 : Nat) (l1 : Int32) (l4 : Int32) (l5 : Int32) (l6 : Int32) (M0 : mM) : Option ((Unit × mM) ⊕ (Int32 × Int32 × mM)) :=
  bif decide ((8 : Int32) ≤ l6) then (some (.inl ((), M0))) else (bif (f_X11_has l1 l6) then (gd (mIn l6 8) (bif decide (l5 ≤ 0) then (f_X9_shareOut_34 o2 l1 l4 l5 l6 l6 (M0 o2 (ix l6)) l4 M0) else (f_X9_shareOut_34 o2 l1 l4 l5 l6 l6 (M0 o2 (ix l6)) (l4 + (1 : Int32)) M0))) else (some (.inr (l5, (l6 + (1 : Int32)), M0))))
set_option maxRecDepth 8000 in
theorem e_X9_shareOut_16 {o2 : Nat} {l1 : Int32} {l4 : Int32} {l5 : Int32} {l6 : Int32} {M0 : mM} {R : mZ} {out : ((Unit × mM) ⊕ (Int32 × Int32 × mM))} (go2 : mA8B o2 = true) (h : f_X9_shareOut_16 o2 l1 l4 l5 l6 M0 = some out) (hk : (∀ s' : Int32 × Int32 × mM, out = .inr s' → Ev (1) 90 16 [none, some (.int l1), some (.ref o2), none, some (.int l4), some (.int s'.1), some (.int s'.2.1)] [] (s'.2.2) R) ∧ (∀ e1 : (Unit × mM), out = .inl e1 → R = emW eU e1)) : Ev (1) 90 16 [none, some (.int l1), some (.ref o2), none, some (.int l4), some (.int l5), some (.int l6)] [] M0 R := by
  unfold f_X9_shareOut_16 at h
  rcases o_bif h with ⟨hb3, h⟩ | ⟨hb3, h⟩
  · refine ev_goT kc_90 3 (t := 39) (e := 19) (L' := [none, some (.int l1), some (.ref o2), none, some (.int l4), some (.int l5), some (.int l6)]) (st' := []) rfl hb3 ?_
    obtain rfl := Option.some.inj h
    rw [show _ from (hk.2 _ rfl)]
    exact ev_vret kc_90 rfl rfl rfl
  · refine ev_goF kc_90 3 (t := 39) (e := 19) (L' := [none, some (.int l1), some (.ref o2), none, some (.int l4), some (.int l5), some (.int l6)]) (st' := []) rfl hb3 ?_
    refine ev_go kc_90 2 (i' := 21) (L' := [none, some (.int l1), some (.ref o2), none, some (.int l4), some (.int l5), some (.int l6)]) (st' := [.int l6, .int l1]) (M' := M0) rfl ?_
    refine ev_cl0 (ins := .invokestatic 91) kc_90 rfl rfl (a := 178) (as := [.int l1, .int l6]) (rest := []) rfl rfl (Cs.deep (c_X11_has (M0 := M0)) (by decide)) ?_
    rcases o_bif h with ⟨hb5, h⟩ | ⟨hb5, h⟩
    · refine ev_goF kc_90 1 (t := 37) (e := 23) (L' := [none, some (.int l1), some (.ref o2), none, some (.int l4), some (.int l5), some (.int l6)]) (st' := []) rfl (mB_e0f hb5) ?_
      refine ev_go kc_90 3 (i' := 26) (L' := [none, some (.int l1), some (.ref o2), none, some (.int l4), some (.int l5), some (.int l6)]) (st' := [.int l6, .ref o2, .int l6, .ref o2]) (M' := M0) rfl ?_
      obtain ⟨hg6, h⟩ := o_gd h
      refine ev_ia kc_90 rfl (mA80 go2) hg6 ?_
      rcases o_bif h with ⟨hb7, h⟩ | ⟨hb7, h⟩
      · refine ev_goT kc_90 2 (t := 33) (e := 29) (L' := [none, some (.int l1), some (.ref o2), none, some (.int l4), some (.int l5), some (.int l6)]) (st' := [.int (M0 o2 (ix l6)), .int l6, .ref o2]) rfl hb7 ?_
        refine ev_go kc_90 1 (i' := 34) (L' := [none, some (.int l1), some (.ref o2), none, some (.int l4), some (.int l5), some (.int l6)]) (st' := [.int l4, .int (M0 o2 (ix l6)), .int l6, .ref o2]) (M' := M0) rfl ?_
        exact Ev.forget (mLe.sk (mLe.kp (mLe.kp (mLe.sk (mLe.kp (mLe.kp (mLe.kp mLe.nl))))))) (e_X9_shareOut_34 go2 h hk)
      · refine ev_goF kc_90 2 (t := 33) (e := 29) (L' := [none, some (.int l1), some (.ref o2), none, some (.int l4), some (.int l5), some (.int l6)]) (st' := [.int (M0 o2 (ix l6)), .int l6, .ref o2]) rfl hb7 ?_
        refine ev_go kc_90 4 (i' := 34) (L' := [none, some (.int l1), some (.ref o2), none, some (.int l4), some (.int l5), some (.int l6)]) (st' := [.int (l4 + (1 : Int32)), .int (M0 o2 (ix l6)), .int l6, .ref o2]) (M' := M0) rfl ?_
        exact Ev.forget (mLe.sk (mLe.kp (mLe.kp (mLe.sk (mLe.kp (mLe.kp (mLe.kp mLe.nl))))))) (e_X9_shareOut_34 go2 h hk)
    · refine ev_goT kc_90 1 (t := 37) (e := 23) (L' := [none, some (.int l1), some (.ref o2), none, some (.int l4), some (.int l5), some (.int l6)]) (st' := []) rfl (mB_e0t hb5) ?_
      refine ev_go kc_90 2 (i' := 16) (L' := [none, some (.int l1), some (.ref o2), none, some (.int l4), some (.int l5), some (.int (l6 + (1 : Int32)))]) (st' := []) (M' := M0) rfl ?_
      obtain rfl := Option.some.inj h
      exact Ev.forget (mLe.sk (mLe.kp (mLe.kp (mLe.sk (mLe.kp (mLe.kp (mLe.kp mLe.nl))))))) (hk.1 (l5, (l6 + (1 : Int32)), M0) rfl)
def f_X9_shareOut_l16 (o2 : Nat) (l1 : Int32) (l4 : Int32) (l5 : Int32) (l6 : Int32) (M0 : mM) : Option (Unit × mM) :=
  wh 100000 (fun s : Int32 × Int32 × mM => f_X9_shareOut_16 o2 l1 l4 s.1 s.2.1 s.2.2) (l5, l6, M0)
theorem e_X9_shareOut_l16 {o2 : Nat} {l1 : Int32} {l4 : Int32} {l5 : Int32} {l6 : Int32} {M0 : mM} {R : mZ} {out : (Unit × mM)} (go2 : mA8B o2 = true) (h : f_X9_shareOut_l16 o2 l1 l4 l5 l6 M0 = some out) (hk : R = emW eU out) : Ev (1) 90 16 [none, some (.int l1), some (.ref o2), none, some (.int l4), some (.int l5), some (.int l6)] [] M0 R := by
  unfold f_X9_shareOut_l16 at h
  exact wh_ev (P := fun s : Int32 × Int32 × mM => Ev (1) 90 16 [none, some (.int l1), some (.ref o2), none, some (.int l4), some (.int s.1), some (.int s.2.1)] [] s.2.2 R) (Q := fun e : (Unit × mM) => R = emW eU e) (fun s o hb h1 h2 => e_X9_shareOut_16 go2 hb ⟨h1, h2⟩) 100000 _ _ h hk
def f_X9_shareOut (p0 : Int32) (p1 : Int32) (o2 : Nat) (M0 : mM) : Option (Unit × mM) :=
  gd (mA8B o2) (bif decide (¬ (f_J6_bitCount_0f7a4 p1) = 0) then (gd (decide (¬ (f_J6_bitCount_0f7a4 p1) = 0)) (gd (decide (¬ (f_J6_bitCount_0f7a4 p1) = 0)) (f_X9_shareOut_l16 o2 p1 (p0 / (f_J6_bitCount_0f7a4 p1)) (rmd p0 (f_J6_bitCount_0f7a4 p1)) (0 : Int32) M0))) else (some ((), M0)))
set_option maxRecDepth 8000 in
theorem c_X9_shareOut {p0 : Int32} {p1 : Int32} {o2 : Nat} {M0 : mM} {out : (Unit × mM)} (h : f_X9_shareOut p0 p1 o2 M0 = some out) : Cs (1) 90 [.int p0, .int p1, .ref o2] M0 (emW eU out) := by
  generalize hk : emW eU out = R
  replace hk := hk.symm
  unfold f_X9_shareOut at h
  obtain ⟨go2, h⟩ := o_gd h
  show Ev (1) 90 0 [some (.int p0), some (.int p1), some (.ref o2), none, none, none, none] [] M0 R
  refine ev_go kc_90 1 (i' := 1) (L' := [some (.int p0), some (.int p1), some (.ref o2), none, none, none, none]) (st' := [.int p1]) (M' := M0) rfl ?_
  refine ev_cl0 (ins := .invokestatic 116) kc_90 rfl rfl (a := 10) (as := [.int p1]) (rest := []) rfl rfl (Cs.deep (c_J6_bitCount_0f7a4 (M0 := M0)) (by decide)) ?_
  rcases o_bif h with ⟨hb9, h⟩ | ⟨hb9, h⟩
  · refine ev_goT kc_90 3 (t := 6) (e := 5) (L' := [some (.int p0), some (.int p1), some (.ref o2), some (.int (f_J6_bitCount_0f7a4 p1)), none, none, none]) (st' := []) rfl hb9 ?_
    refine ev_go kc_90 2 (i' := 8) (L' := [some (.int p0), some (.int p1), some (.ref o2), some (.int (f_J6_bitCount_0f7a4 p1)), none, none, none]) (st' := [.int (f_J6_bitCount_0f7a4 p1), .int p0]) (M' := M0) rfl ?_
    obtain ⟨hg10, h⟩ := o_gd h
    refine ev_dv kc_90 rfl hg10 ?_
    refine ev_go kc_90 3 (i' := 12) (L' := [some (.int p0), some (.int p1), some (.ref o2), some (.int (f_J6_bitCount_0f7a4 p1)), some (.int (p0 / (f_J6_bitCount_0f7a4 p1))), none, none]) (st' := [.int (f_J6_bitCount_0f7a4 p1), .int p0]) (M' := M0) rfl ?_
    obtain ⟨hg11, h⟩ := o_gd h
    refine ev_rm kc_90 rfl hg11 ?_
    refine ev_go kc_90 3 (i' := 16) (L' := [some (.int p0), some (.int p1), some (.ref o2), some (.int (f_J6_bitCount_0f7a4 p1)), some (.int (p0 / (f_J6_bitCount_0f7a4 p1))), some (.int (rmd p0 (f_J6_bitCount_0f7a4 p1))), some (.int (0 : Int32))]) (st' := []) (M' := M0) rfl ?_
    exact Ev.forget (mLe.sk (mLe.kp (mLe.kp (mLe.sk (mLe.kp (mLe.kp (mLe.kp mLe.nl))))))) (e_X9_shareOut_l16 go2 h hk)
  · refine ev_goF kc_90 3 (t := 6) (e := 5) (L' := [some (.int p0), some (.int p1), some (.ref o2), some (.int (f_J6_bitCount_0f7a4 p1)), none, none, none]) (st' := []) rfl hb9 ?_
    obtain rfl := Option.some.inj h
    rw [hk]
    exact ev_vret kc_90 rfl rfl rfl
/-- WakeTower$Tower.carry(II[I)V: 89, W -/
theorem kc_89 : mKc 89 = k_X9_carry := rfl
def f_X9_carry_23 (o0 : Nat) (o3 : Nat) (l1 : Int32) (l4 : Int32) (l5 : Int32) (l6 : Int32) (M0 : mM) : Option (((Unit × mM) ⊕ (Int32 × mM)) ⊕ (Int32 × mM)) :=
  bif decide ((8 : Int32) ≤ l6) then (some (.inl (.inr ((l5 + (-1 : Int32)), M0)))) else (bif (f_X11_has l1 l6) then (gd (mIn l6 8) (bif decide (¬ (M0 (o0 + 5) (ix l6)) = l5) then (some (.inr ((l6 + (1 : Int32)), M0))) else (gd (mIn l6 8) (gd (mIn l6 8) (gd (mIn l6 8) (b2 (f_X9_shareOut ((M0 (o0 + 1) (ix l6)) + (M0 o3 (ix l6))) ((M0 (o0 + 6) (ix l6)) &&& l4) o3 M0) (fun v9 M9 => some (.inr ((l6 + (1 : Int32)), M9))))))))) else (some (.inr ((l6 + (1 : Int32)), M0))))
set_option maxRecDepth 8000 in
theorem e_X9_carry_23 {o0 : Nat} {o3 : Nat} {l1 : Int32} {l4 : Int32} {l5 : Int32} {l6 : Int32} {M0 : mM} {R : mZ} {out : (((Unit × mM) ⊕ (Int32 × mM)) ⊕ (Int32 × mM))} (go0 : mTwB o0 = true) (go3 : mA8B o3 = true) (h : f_X9_carry_23 o0 o3 l1 l4 l5 l6 M0 = some out) (hk : (∀ s' : Int32 × mM, out = .inr s' → Ev (2) 89 23 [some (.ref o0), some (.int l1), none, some (.ref o3), some (.int l4), some (.int l5), some (.int s'.1)] [] (s'.2) R) ∧ (∀ e2 : ((Unit × mM) ⊕ (Int32 × mM)), out = .inl e2 → (∀ s' : Int32 × mM, e2 = .inr s' → Ev (2) 89 19 [some (.ref o0), some (.int l1), none, some (.ref o3), some (.int l4), some (.int s'.1), none] [] (s'.2) R) ∧ (∀ e1 : (Unit × mM), e2 = .inl e1 → R = emW eU e1))) : Ev (2) 89 23 [some (.ref o0), some (.int l1), none, some (.ref o3), some (.int l4), some (.int l5), some (.int l6)] [] M0 R := by
  unfold f_X9_carry_23 at h
  rcases o_bif h with ⟨hb1, h⟩ | ⟨hb1, h⟩
  · refine ev_goT kc_89 3 (t := 54) (e := 26) (L' := [some (.ref o0), some (.int l1), none, some (.ref o3), some (.int l4), some (.int l5), some (.int l6)]) (st' := []) rfl hb1 ?_
    refine ev_go kc_89 2 (i' := 19) (L' := [some (.ref o0), some (.int l1), none, some (.ref o3), some (.int l4), some (.int (l5 + (-1 : Int32))), some (.int l6)]) (st' := []) (M' := M0) rfl ?_
    obtain rfl := Option.some.inj h
    exact Ev.forget (mLe.kp (mLe.kp (mLe.sk (mLe.kp (mLe.kp (mLe.kp (mLe.sk mLe.nl))))))) ((hk.2 _ rfl).1 ((l5 + (-1 : Int32)), M0) rfl)
  · refine ev_goF kc_89 3 (t := 54) (e := 26) (L' := [some (.ref o0), some (.int l1), none, some (.ref o3), some (.int l4), some (.int l5), some (.int l6)]) (st' := []) rfl hb1 ?_
    refine ev_go kc_89 2 (i' := 28) (L' := [some (.ref o0), some (.int l1), none, some (.ref o3), some (.int l4), some (.int l5), some (.int l6)]) (st' := [.int l6, .int l1]) (M' := M0) rfl ?_
    refine ev_cl0 (ins := .invokestatic 91) kc_89 rfl rfl (a := 178) (as := [.int l1, .int l6]) (rest := []) rfl rfl (Cs.deep (c_X11_has (M0 := M0)) (by decide)) ?_
    rcases o_bif h with ⟨hb3, h⟩ | ⟨hb3, h⟩
    · refine ev_goF kc_89 1 (t := 52) (e := 30) (L' := [some (.ref o0), some (.int l1), none, some (.ref o3), some (.int l4), some (.int l5), some (.int l6)]) (st' := []) rfl (mB_e0f hb3) ?_
      refine ev_go kc_89 1 (i' := 31) (L' := [some (.ref o0), some (.int l1), none, some (.ref o3), some (.int l4), some (.int l5), some (.int l6)]) (st' := [.ref o0]) (M' := M0) rfl ?_
      refine ev_gr kc_89 rfl (mTw0 go0) (j := 4) rfl ?_
      refine ev_go kc_89 1 (i' := 33) (L' := [some (.ref o0), some (.int l1), none, some (.ref o3), some (.int l4), some (.int l5), some (.int l6)]) (st' := [.int l6, .ref (o0 + 5)]) (M' := M0) rfl ?_
      obtain ⟨hg4, h⟩ := o_gd h
      refine ev_ia kc_89 rfl (mTw5 go0) hg4 ?_
      rcases o_bif h with ⟨hb5, h⟩ | ⟨hb5, h⟩
      · refine ev_goT kc_89 2 (t := 52) (e := 36) (L' := [some (.ref o0), some (.int l1), none, some (.ref o3), some (.int l4), some (.int l5), some (.int l6)]) (st' := []) rfl hb5 ?_
        refine ev_go kc_89 2 (i' := 23) (L' := [some (.ref o0), some (.int l1), none, some (.ref o3), some (.int l4), some (.int l5), some (.int (l6 + (1 : Int32)))]) (st' := []) (M' := M0) rfl ?_
        obtain rfl := Option.some.inj h
        exact Ev.forget (mLe.kp (mLe.kp (mLe.sk (mLe.kp (mLe.kp (mLe.kp (mLe.kp mLe.nl))))))) (hk.1 ((l6 + (1 : Int32)), M0) rfl)
      · refine ev_goF kc_89 2 (t := 52) (e := 36) (L' := [some (.ref o0), some (.int l1), none, some (.ref o3), some (.int l4), some (.int l5), some (.int l6)]) (st' := []) rfl hb5 ?_
        refine ev_go kc_89 1 (i' := 37) (L' := [some (.ref o0), some (.int l1), none, some (.ref o3), some (.int l4), some (.int l5), some (.int l6)]) (st' := [.ref o0]) (M' := M0) rfl ?_
        refine ev_gr kc_89 rfl (mTw0 go0) (j := 0) rfl ?_
        refine ev_go kc_89 1 (i' := 39) (L' := [some (.ref o0), some (.int l1), none, some (.ref o3), some (.int l4), some (.int l5), some (.int l6)]) (st' := [.int l6, .ref (o0 + 1)]) (M' := M0) rfl ?_
        obtain ⟨hg6, h⟩ := o_gd h
        refine ev_ia kc_89 rfl (mTw1 go0) hg6 ?_
        refine ev_go kc_89 2 (i' := 42) (L' := [some (.ref o0), some (.int l1), none, some (.ref o3), some (.int l4), some (.int l5), some (.int l6)]) (st' := [.int l6, .ref o3, .int (M0 (o0 + 1) (ix l6))]) (M' := M0) rfl ?_
        obtain ⟨hg7, h⟩ := o_gd h
        refine ev_ia kc_89 rfl (mA80 go3) hg7 ?_
        refine ev_go kc_89 2 (i' := 45) (L' := [some (.ref o0), some (.int l1), none, some (.ref o3), some (.int l4), some (.int l5), some (.int l6)]) (st' := [.ref o0, .int ((M0 (o0 + 1) (ix l6)) + (M0 o3 (ix l6)))]) (M' := M0) rfl ?_
        refine ev_gr kc_89 rfl (mTw0 go0) (j := 5) rfl ?_
        refine ev_go kc_89 1 (i' := 47) (L' := [some (.ref o0), some (.int l1), none, some (.ref o3), some (.int l4), some (.int l5), some (.int l6)]) (st' := [.int l6, .ref (o0 + 6), .int ((M0 (o0 + 1) (ix l6)) + (M0 o3 (ix l6)))]) (M' := M0) rfl ?_
        obtain ⟨hg8, h⟩ := o_gd h
        refine ev_ia kc_89 rfl (mTw6 go0) hg8 ?_
        refine ev_go kc_89 3 (i' := 51) (L' := [some (.ref o0), some (.int l1), none, some (.ref o3), some (.int l4), some (.int l5), some (.int l6)]) (st' := [.ref o3, .int ((M0 (o0 + 6) (ix l6)) &&& l4), .int ((M0 (o0 + 1) (ix l6)) + (M0 o3 (ix l6)))]) (M' := M0) rfl ?_
        obtain ⟨v9, M9, hc9, h⟩ := o_b2 h
        refine ev_cl0 (ins := .invokestatic 113) kc_89 rfl rfl (a := 90) (as := [.int ((M0 (o0 + 1) (ix l6)) + (M0 o3 (ix l6))), .int ((M0 (o0 + 6) (ix l6)) &&& l4), .ref o3]) (rest := []) rfl rfl (Cs.deep (c_X9_shareOut hc9) (by decide)) ?_
        refine ev_go kc_89 2 (i' := 23) (L' := [some (.ref o0), some (.int l1), none, some (.ref o3), some (.int l4), some (.int l5), some (.int (l6 + (1 : Int32)))]) (st' := []) (M' := M9) rfl ?_
        obtain rfl := Option.some.inj h
        exact Ev.forget (mLe.kp (mLe.kp (mLe.sk (mLe.kp (mLe.kp (mLe.kp (mLe.kp mLe.nl))))))) (hk.1 ((l6 + (1 : Int32)), M9) rfl)
    · refine ev_goT kc_89 1 (t := 52) (e := 30) (L' := [some (.ref o0), some (.int l1), none, some (.ref o3), some (.int l4), some (.int l5), some (.int l6)]) (st' := []) rfl (mB_e0t hb3) ?_
      refine ev_go kc_89 2 (i' := 23) (L' := [some (.ref o0), some (.int l1), none, some (.ref o3), some (.int l4), some (.int l5), some (.int (l6 + (1 : Int32)))]) (st' := []) (M' := M0) rfl ?_
      obtain rfl := Option.some.inj h
      exact Ev.forget (mLe.kp (mLe.kp (mLe.sk (mLe.kp (mLe.kp (mLe.kp (mLe.kp mLe.nl))))))) (hk.1 ((l6 + (1 : Int32)), M0) rfl)
def f_X9_carry_l23 (o0 : Nat) (o3 : Nat) (l1 : Int32) (l4 : Int32) (l5 : Int32) (l6 : Int32) (M0 : mM) : Option ((Unit × mM) ⊕ (Int32 × mM)) :=
  wh 100000 (fun s : Int32 × mM => f_X9_carry_23 o0 o3 l1 l4 l5 s.1 s.2) (l6, M0)
theorem e_X9_carry_l23 {o0 : Nat} {o3 : Nat} {l1 : Int32} {l4 : Int32} {l5 : Int32} {l6 : Int32} {M0 : mM} {R : mZ} {out : ((Unit × mM) ⊕ (Int32 × mM))} (go0 : mTwB o0 = true) (go3 : mA8B o3 = true) (h : f_X9_carry_l23 o0 o3 l1 l4 l5 l6 M0 = some out) (hk : (∀ s' : Int32 × mM, out = .inr s' → Ev (2) 89 19 [some (.ref o0), some (.int l1), none, some (.ref o3), some (.int l4), some (.int s'.1), none] [] (s'.2) R) ∧ (∀ e1 : (Unit × mM), out = .inl e1 → R = emW eU e1)) : Ev (2) 89 23 [some (.ref o0), some (.int l1), none, some (.ref o3), some (.int l4), some (.int l5), some (.int l6)] [] M0 R := by
  unfold f_X9_carry_l23 at h
  exact wh_ev (P := fun s : Int32 × mM => Ev (2) 89 23 [some (.ref o0), some (.int l1), none, some (.ref o3), some (.int l4), some (.int l5), some (.int s.1)] [] s.2 R) (Q := fun e : ((Unit × mM) ⊕ (Int32 × mM)) => (∀ s' : Int32 × mM, e = .inr s' → Ev (2) 89 19 [some (.ref o0), some (.int l1), none, some (.ref o3), some (.int l4), some (.int s'.1), none] [] (s'.2) R) ∧ (∀ e1 : (Unit × mM), e = .inl e1 → R = emW eU e1)) (fun s o hb h1 h2 => e_X9_carry_23 go0 go3 hb ⟨h1, h2⟩) 100000 _ _ h hk
def f_X9_carry_19 (o0 : Nat) (o3 : Nat) (l1 : Int32) (l4 : Int32) (l5 : Int32) (M0 : mM) : Option ((Unit × mM) ⊕ (Int32 × mM)) :=
  bif decide (l5 ≤ 0) then (some (.inl ((), M0))) else (f_X9_carry_l23 o0 o3 l1 l4 l5 (0 : Int32) M0)
set_option maxRecDepth 8000 in
theorem e_X9_carry_19 {o0 : Nat} {o3 : Nat} {l1 : Int32} {l4 : Int32} {l5 : Int32} {M0 : mM} {R : mZ} {out : ((Unit × mM) ⊕ (Int32 × mM))} (go0 : mTwB o0 = true) (go3 : mA8B o3 = true) (h : f_X9_carry_19 o0 o3 l1 l4 l5 M0 = some out) (hk : (∀ s' : Int32 × mM, out = .inr s' → Ev (2) 89 19 [some (.ref o0), some (.int l1), none, some (.ref o3), some (.int l4), some (.int s'.1), none] [] (s'.2) R) ∧ (∀ e1 : (Unit × mM), out = .inl e1 → R = emW eU e1)) : Ev (2) 89 19 [some (.ref o0), some (.int l1), none, some (.ref o3), some (.int l4), some (.int l5), none] [] M0 R := by
  unfold f_X9_carry_19 at h
  rcases o_bif h with ⟨hb10, h⟩ | ⟨hb10, h⟩
  · refine ev_goT kc_89 2 (t := 56) (e := 21) (L' := [some (.ref o0), some (.int l1), none, some (.ref o3), some (.int l4), some (.int l5), none]) (st' := []) rfl hb10 ?_
    obtain rfl := Option.some.inj h
    rw [show _ from (hk.2 _ rfl)]
    exact ev_vret kc_89 rfl rfl rfl
  · refine ev_goF kc_89 2 (t := 56) (e := 21) (L' := [some (.ref o0), some (.int l1), none, some (.ref o3), some (.int l4), some (.int l5), none]) (st' := []) rfl hb10 ?_
    refine ev_go kc_89 2 (i' := 23) (L' := [some (.ref o0), some (.int l1), none, some (.ref o3), some (.int l4), some (.int l5), some (.int (0 : Int32))]) (st' := []) (M' := M0) rfl ?_
    exact Ev.forget (mLe.kp (mLe.kp (mLe.sk (mLe.kp (mLe.kp (mLe.kp (mLe.kp mLe.nl))))))) (e_X9_carry_l23 go0 go3 h hk)
def f_X9_carry_l19 (o0 : Nat) (o3 : Nat) (l1 : Int32) (l4 : Int32) (l5 : Int32) (M0 : mM) : Option (Unit × mM) :=
  wh 100000 (fun s : Int32 × mM => f_X9_carry_19 o0 o3 l1 l4 s.1 s.2) (l5, M0)
theorem e_X9_carry_l19 {o0 : Nat} {o3 : Nat} {l1 : Int32} {l4 : Int32} {l5 : Int32} {M0 : mM} {R : mZ} {out : (Unit × mM)} (go0 : mTwB o0 = true) (go3 : mA8B o3 = true) (h : f_X9_carry_l19 o0 o3 l1 l4 l5 M0 = some out) (hk : R = emW eU out) : Ev (2) 89 19 [some (.ref o0), some (.int l1), none, some (.ref o3), some (.int l4), some (.int l5), none] [] M0 R := by
  unfold f_X9_carry_l19 at h
  exact wh_ev (P := fun s : Int32 × mM => Ev (2) 89 19 [some (.ref o0), some (.int l1), none, some (.ref o3), some (.int l4), some (.int s.1), none] [] s.2 R) (Q := fun e : (Unit × mM) => R = emW eU e) (fun s o hb h1 h2 => e_X9_carry_19 go0 go3 hb ⟨h1, h2⟩) 100000 _ _ h hk
def f_X9_carry_8 (o0 : Nat) (o3 : Nat) (l1 : Int32) (l4 : Int32) (l5 : Int32) (M0 : mM) : Option ((Unit × mM) ⊕ (Int32 × mM)) :=
  bif decide ((8 : Int32) ≤ l5) then (b1 (f_X9_carry_l19 o0 o3 l1 l4 (4 : Int32) M0) (fun r12 => some (.inl r12))) else (gd (mIn l5 8) (wr (mst M0 o3 (ix l5) (0 : Int32)) (fun M13 => some (.inr ((l5 + (1 : Int32)), M13)))))
set_option maxRecDepth 8000 in
theorem e_X9_carry_8 {o0 : Nat} {o3 : Nat} {l1 : Int32} {l4 : Int32} {l5 : Int32} {M0 : mM} {R : mZ} {out : ((Unit × mM) ⊕ (Int32 × mM))} (go0 : mTwB o0 = true) (go3 : mA8B o3 = true) (h : f_X9_carry_8 o0 o3 l1 l4 l5 M0 = some out) (hk : (∀ s' : Int32 × mM, out = .inr s' → Ev (2) 89 8 [some (.ref o0), some (.int l1), none, some (.ref o3), some (.int l4), some (.int s'.1), none] [] (s'.2) R) ∧ (∀ e1 : (Unit × mM), out = .inl e1 → R = emW eU e1)) : Ev (2) 89 8 [some (.ref o0), some (.int l1), none, some (.ref o3), some (.int l4), some (.int l5), none] [] M0 R := by
  unfold f_X9_carry_8 at h
  rcases o_bif h with ⟨hb11, h⟩ | ⟨hb11, h⟩
  · refine ev_goT kc_89 3 (t := 17) (e := 11) (L' := [some (.ref o0), some (.int l1), none, some (.ref o3), some (.int l4), some (.int l5), none]) (st' := []) rfl hb11 ?_
    refine ev_go kc_89 2 (i' := 19) (L' := [some (.ref o0), some (.int l1), none, some (.ref o3), some (.int l4), some (.int (4 : Int32)), none]) (st' := []) (M' := M0) rfl ?_
    obtain ⟨r12, hr12, h⟩ := o_b1 h
    obtain rfl := Option.some.inj h
    exact Ev.forget (mLe.kp (mLe.kp (mLe.sk (mLe.kp (mLe.kp (mLe.kp (mLe.sk mLe.nl))))))) (e_X9_carry_l19 go0 go3 hr12 (hk.2 _ rfl))
  · refine ev_goF kc_89 3 (t := 17) (e := 11) (L' := [some (.ref o0), some (.int l1), none, some (.ref o3), some (.int l4), some (.int l5), none]) (st' := []) rfl hb11 ?_
    refine ev_go kc_89 3 (i' := 14) (L' := [some (.ref o0), some (.int l1), none, some (.ref o3), some (.int l4), some (.int l5), none]) (st' := [.int (0 : Int32), .int l5, .ref o3]) (M' := M0) rfl ?_
    obtain ⟨hg14, h⟩ := o_gd h
    obtain ⟨M13, hM13, h⟩ := o_wr h
    refine ev_is kc_89 rfl (mA80 go3) hg14 hM13 ?_
    refine ev_go kc_89 2 (i' := 8) (L' := [some (.ref o0), some (.int l1), none, some (.ref o3), some (.int l4), some (.int (l5 + (1 : Int32))), none]) (st' := []) (M' := M13) rfl ?_
    obtain rfl := Option.some.inj h
    exact Ev.forget (mLe.kp (mLe.kp (mLe.sk (mLe.kp (mLe.kp (mLe.kp (mLe.sk mLe.nl))))))) (hk.1 ((l5 + (1 : Int32)), M13) rfl)
def f_X9_carry_l8 (o0 : Nat) (o3 : Nat) (l1 : Int32) (l4 : Int32) (l5 : Int32) (M0 : mM) : Option (Unit × mM) :=
  wh 100000 (fun s : Int32 × mM => f_X9_carry_8 o0 o3 l1 l4 s.1 s.2) (l5, M0)
theorem e_X9_carry_l8 {o0 : Nat} {o3 : Nat} {l1 : Int32} {l4 : Int32} {l5 : Int32} {M0 : mM} {R : mZ} {out : (Unit × mM)} (go0 : mTwB o0 = true) (go3 : mA8B o3 = true) (h : f_X9_carry_l8 o0 o3 l1 l4 l5 M0 = some out) (hk : R = emW eU out) : Ev (2) 89 8 [some (.ref o0), some (.int l1), none, some (.ref o3), some (.int l4), some (.int l5), none] [] M0 R := by
  unfold f_X9_carry_l8 at h
  exact wh_ev (P := fun s : Int32 × mM => Ev (2) 89 8 [some (.ref o0), some (.int l1), none, some (.ref o3), some (.int l4), some (.int s.1), none] [] s.2 R) (Q := fun e : (Unit × mM) => R = emW eU e) (fun s o hb h1 h2 => e_X9_carry_8 go0 go3 hb ⟨h1, h2⟩) 100000 _ _ h hk
def f_X9_carry (o0 : Nat) (p1 : Int32) (p2 : Int32) (o3 : Nat) (M0 : mM) : Option (Unit × mM) :=
  gd (mTwB o0) (gd (mA8B o3) (f_X9_carry_l8 o0 o3 p1 (p1 &&& (p2 ^^^ (-1 : Int32))) (0 : Int32) M0))
set_option maxRecDepth 8000 in
theorem c_X9_carry {o0 : Nat} {p1 : Int32} {p2 : Int32} {o3 : Nat} {M0 : mM} {out : (Unit × mM)} (h : f_X9_carry o0 p1 p2 o3 M0 = some out) : Cs (2) 89 [.ref o0, .int p1, .int p2, .ref o3] M0 (emW eU out) := by
  generalize hk : emW eU out = R
  replace hk := hk.symm
  unfold f_X9_carry at h
  obtain ⟨go0, h⟩ := o_gd h
  obtain ⟨go3, h⟩ := o_gd h
  show Ev (2) 89 0 [some (.ref o0), some (.int p1), some (.int p2), some (.ref o3), none, none, none] [] M0 R
  refine ev_go kc_89 8 (i' := 8) (L' := [some (.ref o0), some (.int p1), some (.int p2), some (.ref o3), some (.int (p1 &&& (p2 ^^^ (-1 : Int32)))), some (.int (0 : Int32)), none]) (st' := []) (M' := M0) rfl ?_
  exact Ev.forget (mLe.kp (mLe.kp (mLe.sk (mLe.kp (mLe.kp (mLe.kp (mLe.sk mLe.nl))))))) (e_X9_carry_l8 go0 go3 h hk)
/-- WakeTower$Tower.yielding(I[I)I: 92, R -/
theorem kc_92 : mKc 92 = k_X9_yielding := rfl
def f_X9_yielding_4 (o0 : Nat) (o2 : Nat) (l1 : Int32) (l3 : Int32) (l4 : Int32) (M0 : mM) : Option (Int32 ⊕ (Int32 × Int32)) :=
  bif decide ((8 : Int32) ≤ l4) then (some (.inl l3)) else (bif (f_X11_has l1 l4) then (gd (mIn l4 8) (gd (mIn l4 8) (bif decide ((M0 o2 (ix l4)) ≤ (M0 (o0 + 3) (ix l4))) then (some (.inr (l3, (l4 + (1 : Int32))))) else (some (.inr ((l3 ||| (f_X11_bit l4)), (l4 + (1 : Int32)))))))) else (some (.inr (l3, (l4 + (1 : Int32))))))
set_option maxRecDepth 8000 in
theorem e_X9_yielding_4 {o0 : Nat} {o2 : Nat} {l1 : Int32} {l3 : Int32} {l4 : Int32} {M0 : mM} {R : mZ} {out : (Int32 ⊕ (Int32 × Int32))} (go0 : mTwB o0 = true) (go2 : mA8B o2 = true) (h : f_X9_yielding_4 o0 o2 l1 l3 l4 M0 = some out) (hk : (∀ s' : Int32 × Int32, out = .inr s' → Ev (1) 92 4 [some (.ref o0), some (.int l1), some (.ref o2), some (.int s'.1), some (.int s'.2)] [] M0 R) ∧ (∀ e1 : Int32, out = .inl e1 → R = emR eI M0 e1)) : Ev (1) 92 4 [some (.ref o0), some (.int l1), some (.ref o2), some (.int l3), some (.int l4)] [] M0 R := by
  unfold f_X9_yielding_4 at h
  rcases o_bif h with ⟨hb1, h⟩ | ⟨hb1, h⟩
  · refine ev_goT kc_92 3 (t := 26) (e := 7) (L' := [some (.ref o0), some (.int l1), some (.ref o2), some (.int l3), some (.int l4)]) (st' := []) rfl hb1 ?_
    refine ev_go kc_92 1 (i' := 27) (L' := [some (.ref o0), some (.int l1), some (.ref o2), some (.int l3), some (.int l4)]) (st' := [.int l3]) (M' := M0) rfl ?_
    obtain rfl := Option.some.inj h
    rw [show _ from (hk.2 _ rfl)]
    exact ev_ret kc_92 rfl rfl rfl
  · refine ev_goF kc_92 3 (t := 26) (e := 7) (L' := [some (.ref o0), some (.int l1), some (.ref o2), some (.int l3), some (.int l4)]) (st' := []) rfl hb1 ?_
    refine ev_go kc_92 2 (i' := 9) (L' := [some (.ref o0), some (.int l1), some (.ref o2), some (.int l3), some (.int l4)]) (st' := [.int l4, .int l1]) (M' := M0) rfl ?_
    refine ev_cl0 (ins := .invokestatic 91) kc_92 rfl rfl (a := 178) (as := [.int l1, .int l4]) (rest := []) rfl rfl (Cs.deep (c_X11_has (M0 := M0)) (by decide)) ?_
    rcases o_bif h with ⟨hb3, h⟩ | ⟨hb3, h⟩
    · refine ev_goF kc_92 1 (t := 24) (e := 11) (L' := [some (.ref o0), some (.int l1), some (.ref o2), some (.int l3), some (.int l4)]) (st' := []) rfl (mB_e0f hb3) ?_
      refine ev_go kc_92 2 (i' := 13) (L' := [some (.ref o0), some (.int l1), some (.ref o2), some (.int l3), some (.int l4)]) (st' := [.int l4, .ref o2]) (M' := M0) rfl ?_
      obtain ⟨hg4, h⟩ := o_gd h
      refine ev_ia kc_92 rfl (mA80 go2) hg4 ?_
      refine ev_go kc_92 1 (i' := 15) (L' := [some (.ref o0), some (.int l1), some (.ref o2), some (.int l3), some (.int l4)]) (st' := [.ref o0, .int (M0 o2 (ix l4))]) (M' := M0) rfl ?_
      refine ev_gr kc_92 rfl (mTw0 go0) (j := 2) rfl ?_
      refine ev_go kc_92 1 (i' := 17) (L' := [some (.ref o0), some (.int l1), some (.ref o2), some (.int l3), some (.int l4)]) (st' := [.int l4, .ref (o0 + 3), .int (M0 o2 (ix l4))]) (M' := M0) rfl ?_
      obtain ⟨hg5, h⟩ := o_gd h
      refine ev_ia kc_92 rfl (mTw3 go0) hg5 ?_
      rcases o_bif h with ⟨hb6, h⟩ | ⟨hb6, h⟩
      · refine ev_goT kc_92 1 (t := 24) (e := 19) (L' := [some (.ref o0), some (.int l1), some (.ref o2), some (.int l3), some (.int l4)]) (st' := []) rfl hb6 ?_
        refine ev_go kc_92 2 (i' := 4) (L' := [some (.ref o0), some (.int l1), some (.ref o2), some (.int l3), some (.int (l4 + (1 : Int32)))]) (st' := []) (M' := M0) rfl ?_
        obtain rfl := Option.some.inj h
        exact Ev.forget (mLe.kp (mLe.kp (mLe.kp (mLe.kp (mLe.kp mLe.nl))))) (hk.1 (l3, (l4 + (1 : Int32))) rfl)
      · refine ev_goF kc_92 1 (t := 24) (e := 19) (L' := [some (.ref o0), some (.int l1), some (.ref o2), some (.int l3), some (.int l4)]) (st' := []) rfl hb6 ?_
        refine ev_go kc_92 2 (i' := 21) (L' := [some (.ref o0), some (.int l1), some (.ref o2), some (.int l3), some (.int l4)]) (st' := [.int l4, .int l3]) (M' := M0) rfl ?_
        refine ev_cl0 (ins := .invokestatic 87) kc_92 rfl rfl (a := 177) (as := [.int l4]) (rest := [.int l3]) rfl rfl (Cs.deep (c_X11_bit (M0 := M0)) (by decide)) ?_
        refine ev_go kc_92 4 (i' := 4) (L' := [some (.ref o0), some (.int l1), some (.ref o2), some (.int (l3 ||| (f_X11_bit l4))), some (.int (l4 + (1 : Int32)))]) (st' := []) (M' := M0) rfl ?_
        obtain rfl := Option.some.inj h
        exact Ev.forget (mLe.kp (mLe.kp (mLe.kp (mLe.kp (mLe.kp mLe.nl))))) (hk.1 ((l3 ||| (f_X11_bit l4)), (l4 + (1 : Int32))) rfl)
    · refine ev_goT kc_92 1 (t := 24) (e := 11) (L' := [some (.ref o0), some (.int l1), some (.ref o2), some (.int l3), some (.int l4)]) (st' := []) rfl (mB_e0t hb3) ?_
      refine ev_go kc_92 2 (i' := 4) (L' := [some (.ref o0), some (.int l1), some (.ref o2), some (.int l3), some (.int (l4 + (1 : Int32)))]) (st' := []) (M' := M0) rfl ?_
      obtain rfl := Option.some.inj h
      exact Ev.forget (mLe.kp (mLe.kp (mLe.kp (mLe.kp (mLe.kp mLe.nl))))) (hk.1 (l3, (l4 + (1 : Int32))) rfl)
def f_X9_yielding_l4 (o0 : Nat) (o2 : Nat) (l1 : Int32) (l3 : Int32) (l4 : Int32) (M0 : mM) : Option Int32 :=
  wh 100000 (fun s : Int32 × Int32 => f_X9_yielding_4 o0 o2 l1 s.1 s.2 M0) (l3, l4)
theorem e_X9_yielding_l4 {o0 : Nat} {o2 : Nat} {l1 : Int32} {l3 : Int32} {l4 : Int32} {M0 : mM} {R : mZ} {out : Int32} (go0 : mTwB o0 = true) (go2 : mA8B o2 = true) (h : f_X9_yielding_l4 o0 o2 l1 l3 l4 M0 = some out) (hk : R = emR eI M0 out) : Ev (1) 92 4 [some (.ref o0), some (.int l1), some (.ref o2), some (.int l3), some (.int l4)] [] M0 R := by
  unfold f_X9_yielding_l4 at h
  exact wh_ev (P := fun s : Int32 × Int32 => Ev (1) 92 4 [some (.ref o0), some (.int l1), some (.ref o2), some (.int s.1), some (.int s.2)] [] M0 R) (Q := fun e : Int32 => R = emR eI M0 e) (fun s o hb h1 h2 => e_X9_yielding_4 go0 go2 hb ⟨h1, h2⟩) 100000 _ _ h hk
def f_X9_yielding (o0 : Nat) (p1 : Int32) (o2 : Nat) (M0 : mM) : Option Int32 :=
  gd (mTwB o0) (gd (mA8B o2) (f_X9_yielding_l4 o0 o2 p1 (0 : Int32) (0 : Int32) M0))
set_option maxRecDepth 8000 in
theorem c_X9_yielding {o0 : Nat} {p1 : Int32} {o2 : Nat} {M0 : mM} {out : Int32} (h : f_X9_yielding o0 p1 o2 M0 = some out) : Cs (1) 92 [.ref o0, .int p1, .ref o2] M0 (emR eI M0 out) := by
  generalize hk : emR eI M0 out = R
  replace hk := hk.symm
  unfold f_X9_yielding at h
  obtain ⟨go0, h⟩ := o_gd h
  obtain ⟨go2, h⟩ := o_gd h
  show Ev (1) 92 0 [some (.ref o0), some (.int p1), some (.ref o2), none, none] [] M0 R
  refine ev_go kc_92 4 (i' := 4) (L' := [some (.ref o0), some (.int p1), some (.ref o2), some (.int (0 : Int32)), some (.int (0 : Int32))]) (st' := []) (M' := M0) rfl ?_
  exact Ev.forget (mLe.kp (mLe.kp (mLe.kp (mLe.kp (mLe.kp mLe.nl))))) (e_X9_yielding_l4 go0 go2 h hk)
/-- WakeTower$Tower.stands(II)Z: 93, W -/
theorem kc_93 : mKc 93 = k_X9_stands := rfl
def f_X9_stands (o0 : Nat) (p1 : Int32) (p2 : Int32) (M0 : mM) : Option (Bool × mM) :=
  gd (mTwB o0) (b1 (f_X9_hanging o0 p1 p2 M0) (fun v1 => bif decide (v1 = 0) then (b2 (f_X9_carry o0 p1 p2 (o0 + 8) M0) (fun v3 M3 => b1 (f_X9_yielding o0 (p1 &&& (p2 ^^^ (-1 : Int32))) (o0 + 8) M3) (fun v4 => bif decide (¬ v4 = 0) then (some (false, M3)) else (some (true, M3))))) else (some (false, M0))))
set_option maxRecDepth 8000 in
theorem c_X9_stands {o0 : Nat} {p1 : Int32} {p2 : Int32} {M0 : mM} {out : (Bool × mM)} (h : f_X9_stands o0 p1 p2 M0 = some out) : Cs (3) 93 [.ref o0, .int p1, .int p2] M0 (emW eB out) := by
  generalize hk : emW eB out = R
  replace hk := hk.symm
  unfold f_X9_stands at h
  obtain ⟨go0, h⟩ := o_gd h
  show Ev (3) 93 0 [some (.ref o0), some (.int p1), some (.int p2)] [] M0 R
  refine ev_go kc_93 3 (i' := 3) (L' := [some (.ref o0), some (.int p1), some (.int p2)]) (st' := [.int p2, .int p1, .ref o0]) (M' := M0) rfl ?_
  obtain ⟨v1, hc1, h⟩ := o_b1 h
  refine ev_cl0 (ins := .invokevirtual 121) kc_93 rfl rfl (a := 91) (as := [.ref o0, .int p1, .int p2]) (rest := []) rfl (m_rec (mTw0 go0)) (Cs.deep (c_X9_hanging (M0 := M0) hc1) (by decide)) ?_
  rcases o_bif h with ⟨hb2, h⟩ | ⟨hb2, h⟩
  · refine ev_goT kc_93 1 (t := 7) (e := 5) (L' := [some (.ref o0), some (.int p1), some (.int p2)]) (st' := []) rfl hb2 ?_
    refine ev_go kc_93 4 (i' := 11) (L' := [some (.ref o0), some (.int p1), some (.int p2)]) (st' := [.ref o0, .int p2, .int p1, .ref o0]) (M' := M0) rfl ?_
    refine ev_gr kc_93 rfl (mTw0 go0) (j := 7) rfl ?_
    obtain ⟨v3, M3, hc3, h⟩ := o_b2 h
    refine ev_cl0 (ins := .invokevirtual 109) kc_93 rfl rfl (a := 89) (as := [.ref o0, .int p1, .int p2, .ref (o0 + 8)]) (rest := []) rfl (m_rec (mTw0 go0)) (Cs.deep (c_X9_carry hc3) (by decide)) ?_
    refine ev_go kc_93 7 (i' := 20) (L' := [some (.ref o0), some (.int p1), some (.int p2)]) (st' := [.ref o0, .int (p1 &&& (p2 ^^^ (-1 : Int32))), .ref o0]) (M' := M3) rfl ?_
    refine ev_gr kc_93 rfl (mTw0 go0) (j := 7) rfl ?_
    obtain ⟨v4, hc4, h⟩ := o_b1 h
    refine ev_cl0 (ins := .invokevirtual 125) kc_93 rfl rfl (a := 92) (as := [.ref o0, .int (p1 &&& (p2 ^^^ (-1 : Int32))), .ref (o0 + 8)]) (rest := []) rfl (m_rec (mTw0 go0)) (Cs.deep (c_X9_yielding (M0 := M3) hc4) (by decide)) ?_
    rcases o_bif h with ⟨hb5, h⟩ | ⟨hb5, h⟩
    · refine ev_goT kc_93 1 (t := 25) (e := 23) (L' := [some (.ref o0), some (.int p1), some (.int p2)]) (st' := []) rfl hb5 ?_
      refine ev_go kc_93 1 (i' := 26) (L' := [some (.ref o0), some (.int p1), some (.int p2)]) (st' := [.int (0 : Int32)]) (M' := M3) rfl ?_
      obtain rfl := Option.some.inj h
      rw [hk]
      exact ev_ret kc_93 rfl rfl rfl
    · refine ev_goF kc_93 1 (t := 25) (e := 23) (L' := [some (.ref o0), some (.int p1), some (.int p2)]) (st' := []) rfl hb5 ?_
      refine ev_go kc_93 2 (i' := 26) (L' := [some (.ref o0), some (.int p1), some (.int p2)]) (st' := [.int (1 : Int32)]) (M' := M3) rfl ?_
      obtain rfl := Option.some.inj h
      rw [hk]
      exact ev_ret kc_93 rfl rfl rfl
  · refine ev_goF kc_93 1 (t := 7) (e := 5) (L' := [some (.ref o0), some (.int p1), some (.int p2)]) (st' := []) rfl hb2 ?_
    refine ev_go kc_93 1 (i' := 6) (L' := [some (.ref o0), some (.int p1), some (.int p2)]) (st' := [.int (0 : Int32)]) (M' := M0) rfl ?_
    obtain rfl := Option.some.inj h
    rw [hk]
    exact ev_ret kc_93 rfl rfl rfl
/-- WakeTower$Reliefs.standsAfter(ILWakeTower$Tower;LWakeTower$Tower;)Z: 38, W -/
theorem kc_38 : mKc 38 = k_X4_standsAfter := rfl
def f_X4_standsAfter_5 (o2 : Nat) (o3 : Nat) (l1 : Int32) (l4 : Int32) (M0 : mM) : Option ((Bool × mM) ⊕ (Int32 × mM)) :=
  bif decide ((4 : Int32) ≤ l4) then (b2 (f_X9_stands o3 (M0 o3 1) (M0 o3 2) M0) (fun v2 M2 => some (.inl (v2, M2)))) else (bif (f_X11_has l1 l4) then (gd (mIn l4 4) (gd (mIn l4 4) (b1 (f_X9_canSwap o3 (M0 14 (ix l4)) (M0 15 (ix l4)) M0) (fun v7 => bif v7 then (gd (mIn l4 4) (gd (mIn l4 4) (b2 (f_X9_swap o3 (M0 14 (ix l4)) (M0 15 (ix l4)) M0) (fun v11 M11 => some (.inr ((l4 + (1 : Int32)), M11)))))) else (some (.inl (false, M0))))))) else (some (.inr ((l4 + (1 : Int32)), M0))))
set_option maxRecDepth 8000 in
theorem e_X4_standsAfter_5 {o2 : Nat} {o3 : Nat} {l1 : Int32} {l4 : Int32} {M0 : mM} {R : mZ} {out : ((Bool × mM) ⊕ (Int32 × mM))} (go2 : mTwB o2 = true) (go3 : mTwB o3 = true) (h : f_X4_standsAfter_5 o2 o3 l1 l4 M0 = some out) (hk : (∀ s' : Int32 × mM, out = .inr s' → Ev (10) 38 5 [some (.ref 13), some (.int l1), none, some (.ref o3), some (.int s'.1)] [] (s'.2) R) ∧ (∀ e1 : (Bool × mM), out = .inl e1 → R = emW eB e1)) : Ev (10) 38 5 [some (.ref 13), some (.int l1), none, some (.ref o3), some (.int l4)] [] M0 R := by
  unfold f_X4_standsAfter_5 at h
  rcases o_bif h with ⟨hb1, h⟩ | ⟨hb1, h⟩
  · refine ev_goT kc_38 3 (t := 37) (e := 8) (L' := [some (.ref 13), some (.int l1), none, some (.ref o3), some (.int l4)]) (st' := []) rfl hb1 ?_
    refine ev_go kc_38 2 (i' := 39) (L' := [some (.ref 13), some (.int l1), none, some (.ref o3), some (.int l4)]) (st' := [.ref o3, .ref o3]) (M' := M0) rfl ?_
    refine ev_gf kc_38 rfl (mTw0 go3) rfl ?_
    refine ev_go kc_38 1 (i' := 41) (L' := [some (.ref 13), some (.int l1), none, some (.ref o3), some (.int l4)]) (st' := [.ref o3, .int (M0 o3 1), .ref o3]) (M' := M0) rfl ?_
    refine ev_gf kc_38 rfl (mTw0 go3) rfl ?_
    obtain ⟨v2, M2, hc2, h⟩ := o_b2 h
    refine ev_cl0 (ins := .invokevirtual 64) kc_38 rfl rfl (a := 93) (as := [.ref o3, .int (M0 o3 1), .int (M0 o3 2)]) (rest := []) rfl (m_rec (mTw0 go3)) (Cs.deep (c_X9_stands hc2) (by decide)) ?_
    obtain rfl := Option.some.inj h
    rw [show _ from (hk.2 _ rfl)]
    exact ev_ret kc_38 rfl rfl mB_rok
  · refine ev_goF kc_38 3 (t := 37) (e := 8) (L' := [some (.ref 13), some (.int l1), none, some (.ref o3), some (.int l4)]) (st' := []) rfl hb1 ?_
    refine ev_go kc_38 2 (i' := 10) (L' := [some (.ref 13), some (.int l1), none, some (.ref o3), some (.int l4)]) (st' := [.int l4, .int l1]) (M' := M0) rfl ?_
    refine ev_cl0 (ins := .invokestatic 35) kc_38 rfl rfl (a := 178) (as := [.int l1, .int l4]) (rest := []) rfl rfl (Cs.deep (c_X11_has (M0 := M0)) (by decide)) ?_
    rcases o_bif h with ⟨hb4, h⟩ | ⟨hb4, h⟩
    · refine ev_goF kc_38 1 (t := 35) (e := 12) (L' := [some (.ref 13), some (.int l1), none, some (.ref o3), some (.int l4)]) (st' := []) rfl (mB_e0f hb4) ?_
      refine ev_go kc_38 4 (i' := 16) (L' := [some (.ref 13), some (.int l1), none, some (.ref o3), some (.int l4)]) (st' := [.int l4, .ref 14, .ref o3]) (M' := M0) rfl ?_
      obtain ⟨hg5, h⟩ := o_gd h
      refine ev_ia kc_38 rfl rfl hg5 ?_
      refine ev_go kc_38 3 (i' := 20) (L' := [some (.ref 13), some (.int l1), none, some (.ref o3), some (.int l4)]) (st' := [.int l4, .ref 15, .int (M0 14 (ix l4)), .ref o3]) (M' := M0) rfl ?_
      obtain ⟨hg6, h⟩ := o_gd h
      refine ev_ia kc_38 rfl rfl hg6 ?_
      obtain ⟨v7, hc7, h⟩ := o_b1 h
      refine ev_cl0 (ins := .invokevirtual 52) kc_38 rfl rfl (a := 86) (as := [.ref o3, .int (M0 14 (ix l4)), .int (M0 15 (ix l4))]) (rest := []) rfl (m_rec (mTw0 go3)) (Cs.deep (c_X9_canSwap (M0 := M0) hc7) (by decide)) ?_
      rcases o_bif h with ⟨hb8, h⟩ | ⟨hb8, h⟩
      · refine ev_goT kc_38 1 (t := 25) (e := 23) (L' := [some (.ref 13), some (.int l1), none, some (.ref o3), some (.int l4)]) (st' := []) rfl (mB_n0t hb8) ?_
        refine ev_go kc_38 4 (i' := 29) (L' := [some (.ref 13), some (.int l1), none, some (.ref o3), some (.int l4)]) (st' := [.int l4, .ref 14, .ref o3]) (M' := M0) rfl ?_
        obtain ⟨hg9, h⟩ := o_gd h
        refine ev_ia kc_38 rfl rfl hg9 ?_
        refine ev_go kc_38 3 (i' := 33) (L' := [some (.ref 13), some (.int l1), none, some (.ref o3), some (.int l4)]) (st' := [.int l4, .ref 15, .int (M0 14 (ix l4)), .ref o3]) (M' := M0) rfl ?_
        obtain ⟨hg10, h⟩ := o_gd h
        refine ev_ia kc_38 rfl rfl hg10 ?_
        obtain ⟨v11, M11, hc11, h⟩ := o_b2 h
        refine ev_cl0 (ins := .invokevirtual 55) kc_38 rfl rfl (a := 87) (as := [.ref o3, .int (M0 14 (ix l4)), .int (M0 15 (ix l4))]) (rest := []) rfl (m_rec (mTw0 go3)) (Cs.deep (c_X9_swap hc11) (by decide)) ?_
        refine ev_go kc_38 2 (i' := 5) (L' := [some (.ref 13), some (.int l1), none, some (.ref o3), some (.int (l4 + (1 : Int32)))]) (st' := []) (M' := M11) rfl ?_
        obtain rfl := Option.some.inj h
        exact Ev.forget (mLe.kp (mLe.kp (mLe.sk (mLe.kp (mLe.kp mLe.nl))))) (hk.1 ((l4 + (1 : Int32)), M11) rfl)
      · refine ev_goF kc_38 1 (t := 25) (e := 23) (L' := [some (.ref 13), some (.int l1), none, some (.ref o3), some (.int l4)]) (st' := []) rfl (mB_n0f hb8) ?_
        refine ev_go kc_38 1 (i' := 24) (L' := [some (.ref 13), some (.int l1), none, some (.ref o3), some (.int l4)]) (st' := [.int (0 : Int32)]) (M' := M0) rfl ?_
        obtain rfl := Option.some.inj h
        rw [show _ from (hk.2 _ rfl)]
        exact ev_ret kc_38 rfl rfl rfl
    · refine ev_goT kc_38 1 (t := 35) (e := 12) (L' := [some (.ref 13), some (.int l1), none, some (.ref o3), some (.int l4)]) (st' := []) rfl (mB_e0t hb4) ?_
      refine ev_go kc_38 2 (i' := 5) (L' := [some (.ref 13), some (.int l1), none, some (.ref o3), some (.int (l4 + (1 : Int32)))]) (st' := []) (M' := M0) rfl ?_
      obtain rfl := Option.some.inj h
      exact Ev.forget (mLe.kp (mLe.kp (mLe.sk (mLe.kp (mLe.kp mLe.nl))))) (hk.1 ((l4 + (1 : Int32)), M0) rfl)
def f_X4_standsAfter_l5 (o2 : Nat) (o3 : Nat) (l1 : Int32) (l4 : Int32) (M0 : mM) : Option (Bool × mM) :=
  wh 100000 (fun s : Int32 × mM => f_X4_standsAfter_5 o2 o3 l1 s.1 s.2) (l4, M0)
theorem e_X4_standsAfter_l5 {o2 : Nat} {o3 : Nat} {l1 : Int32} {l4 : Int32} {M0 : mM} {R : mZ} {out : (Bool × mM)} (go2 : mTwB o2 = true) (go3 : mTwB o3 = true) (h : f_X4_standsAfter_l5 o2 o3 l1 l4 M0 = some out) (hk : R = emW eB out) : Ev (10) 38 5 [some (.ref 13), some (.int l1), none, some (.ref o3), some (.int l4)] [] M0 R := by
  unfold f_X4_standsAfter_l5 at h
  exact wh_ev (P := fun s : Int32 × mM => Ev (10) 38 5 [some (.ref 13), some (.int l1), none, some (.ref o3), some (.int s.1)] [] s.2 R) (Q := fun e : (Bool × mM) => R = emW eB e) (fun s o hb h1 h2 => e_X4_standsAfter_5 go2 go3 hb ⟨h1, h2⟩) 100000 _ _ h hk
def f_X4_standsAfter (p1 : Int32) (o2 : Nat) (o3 : Nat) (M0 : mM) : Option (Bool × mM) :=
  gd (mTwB o2) (gd (mTwB o3) (b2 (f_X9_copyFrom o3 o2 M0) (fun v12 M12 => f_X4_standsAfter_l5 o2 o3 p1 (0 : Int32) M12)))
set_option maxRecDepth 8000 in
theorem c_X4_standsAfter {p1 : Int32} {o2 : Nat} {o3 : Nat} {M0 : mM} {out : (Bool × mM)} (h : f_X4_standsAfter p1 o2 o3 M0 = some out) : Cs (10) 38 [.ref 13, .int p1, .ref o2, .ref o3] M0 (emW eB out) := by
  generalize hk : emW eB out = R
  replace hk := hk.symm
  unfold f_X4_standsAfter at h
  obtain ⟨go2, h⟩ := o_gd h
  obtain ⟨go3, h⟩ := o_gd h
  show Ev (10) 38 0 [some (.ref 13), some (.int p1), some (.ref o2), some (.ref o3), none] [] M0 R
  refine ev_go kc_38 2 (i' := 2) (L' := [some (.ref 13), some (.int p1), some (.ref o2), some (.ref o3), none]) (st' := [.ref o2, .ref o3]) (M' := M0) rfl ?_
  obtain ⟨v12, M12, hc12, h⟩ := o_b2 h
  refine ev_cl0 (ins := .invokevirtual 46) kc_38 rfl rfl (a := 73) (as := [.ref o3, .ref o2]) (rest := []) rfl (m_rec (mTw0 go3)) (Cs.deep (c_X9_copyFrom hc12) (by decide)) ?_
  refine ev_go kc_38 2 (i' := 5) (L' := [some (.ref 13), some (.int p1), some (.ref o2), some (.ref o3), some (.int (0 : Int32))]) (st' := []) (M' := M12) rfl ?_
  exact Ev.forget (mLe.kp (mLe.kp (mLe.sk (mLe.kp (mLe.kp mLe.nl))))) (e_X4_standsAfter_l5 go2 go3 h hk)
/-- WakeTower$Reliefs.firstRows(LWakeTower$Tower;LWakeTower$Tower;)I: 39, W -/
theorem kc_39 : mKc 39 = k_X4_firstRows := rfl
def f_X4_firstRows_4 (o1 : Nat) (o2 : Nat) (l3 : Int32) (l4 : Int32) (M0 : mM) : Option ((Int32 × mM) ⊕ (Int32 × Int32 × mM)) :=
  bif decide ((4 : Int32) ≤ l4) then (some (.inl (l3, M0))) else (bif decide ((M0 13 3) ≤ l4) then (some (.inr (l3, (l4 + (1 : Int32)), M0))) else (b2 (f_X4_standsAfter (f_X11_bit l4) o1 o2 M0) (fun v4 M4 => bif v4 then (some (.inr ((l3 ||| (f_X11_bit l4)), (l4 + (1 : Int32)), M4))) else (some (.inr (l3, (l4 + (1 : Int32)), M4))))))
set_option maxRecDepth 8000 in
theorem e_X4_firstRows_4 {o1 : Nat} {o2 : Nat} {l3 : Int32} {l4 : Int32} {M0 : mM} {R : mZ} {out : ((Int32 × mM) ⊕ (Int32 × Int32 × mM))} (go1 : mTwB o1 = true) (go2 : mTwB o2 = true) (h : f_X4_firstRows_4 o1 o2 l3 l4 M0 = some out) (hk : (∀ s' : Int32 × Int32 × mM, out = .inr s' → Ev (11) 39 4 [some (.ref 13), some (.ref o1), some (.ref o2), some (.int s'.1), some (.int s'.2.1)] [] (s'.2.2) R) ∧ (∀ e1 : (Int32 × mM), out = .inl e1 → R = emW eI e1)) : Ev (11) 39 4 [some (.ref 13), some (.ref o1), some (.ref o2), some (.int l3), some (.int l4)] [] M0 R := by
  unfold f_X4_firstRows_4 at h
  rcases o_bif h with ⟨hb1, h⟩ | ⟨hb1, h⟩
  · refine ev_goT kc_39 3 (t := 25) (e := 7) (L' := [some (.ref 13), some (.ref o1), some (.ref o2), some (.int l3), some (.int l4)]) (st' := []) rfl hb1 ?_
    refine ev_go kc_39 1 (i' := 26) (L' := [some (.ref 13), some (.ref o1), some (.ref o2), some (.int l3), some (.int l4)]) (st' := [.int l3]) (M' := M0) rfl ?_
    obtain rfl := Option.some.inj h
    rw [show _ from (hk.2 _ rfl)]
    exact ev_ret kc_39 rfl rfl rfl
  · refine ev_goF kc_39 3 (t := 25) (e := 7) (L' := [some (.ref 13), some (.ref o1), some (.ref o2), some (.int l3), some (.int l4)]) (st' := []) rfl hb1 ?_
    rcases o_bif h with ⟨hb2, h⟩ | ⟨hb2, h⟩
    · refine ev_goT kc_39 4 (t := 23) (e := 11) (L' := [some (.ref 13), some (.ref o1), some (.ref o2), some (.int l3), some (.int l4)]) (st' := []) rfl hb2 ?_
      refine ev_go kc_39 2 (i' := 4) (L' := [some (.ref 13), some (.ref o1), some (.ref o2), some (.int l3), some (.int (l4 + (1 : Int32)))]) (st' := []) (M' := M0) rfl ?_
      obtain rfl := Option.some.inj h
      exact Ev.forget (mLe.kp (mLe.kp (mLe.kp (mLe.kp (mLe.kp mLe.nl))))) (hk.1 (l3, (l4 + (1 : Int32)), M0) rfl)
    · refine ev_goF kc_39 4 (t := 23) (e := 11) (L' := [some (.ref 13), some (.ref o1), some (.ref o2), some (.int l3), some (.int l4)]) (st' := []) rfl hb2 ?_
      refine ev_go kc_39 2 (i' := 13) (L' := [some (.ref 13), some (.ref o1), some (.ref o2), some (.int l3), some (.int l4)]) (st' := [.int l4, .ref 13]) (M' := M0) rfl ?_
      refine ev_cl0 (ins := .invokestatic 39) kc_39 rfl rfl (a := 177) (as := [.int l4]) (rest := [.ref 13]) rfl rfl (Cs.deep (c_X11_bit (M0 := M0)) (by decide)) ?_
      refine ev_go kc_39 2 (i' := 16) (L' := [some (.ref 13), some (.ref o1), some (.ref o2), some (.int l3), some (.int l4)]) (st' := [.ref o2, .ref o1, .int (f_X11_bit l4), .ref 13]) (M' := M0) rfl ?_
      obtain ⟨v4, M4, hc4, h⟩ := o_b2 h
      refine ev_cl0 (ins := .invokevirtual 67) kc_39 rfl rfl (a := 38) (as := [.ref 13, .int (f_X11_bit l4), .ref o1, .ref o2]) (rest := []) rfl rfl (Cs.deep (c_X4_standsAfter hc4) (by decide)) ?_
      rcases o_bif h with ⟨hb5, h⟩ | ⟨hb5, h⟩
      · refine ev_goF kc_39 1 (t := 23) (e := 18) (L' := [some (.ref 13), some (.ref o1), some (.ref o2), some (.int l3), some (.int l4)]) (st' := []) rfl (mB_e0f hb5) ?_
        refine ev_go kc_39 2 (i' := 20) (L' := [some (.ref 13), some (.ref o1), some (.ref o2), some (.int l3), some (.int l4)]) (st' := [.int l4, .int l3]) (M' := M4) rfl ?_
        refine ev_cl0 (ins := .invokestatic 39) kc_39 rfl rfl (a := 177) (as := [.int l4]) (rest := [.int l3]) rfl rfl (Cs.deep (c_X11_bit (M0 := M4)) (by decide)) ?_
        refine ev_go kc_39 4 (i' := 4) (L' := [some (.ref 13), some (.ref o1), some (.ref o2), some (.int (l3 ||| (f_X11_bit l4))), some (.int (l4 + (1 : Int32)))]) (st' := []) (M' := M4) rfl ?_
        obtain rfl := Option.some.inj h
        exact Ev.forget (mLe.kp (mLe.kp (mLe.kp (mLe.kp (mLe.kp mLe.nl))))) (hk.1 ((l3 ||| (f_X11_bit l4)), (l4 + (1 : Int32)), M4) rfl)
      · refine ev_goT kc_39 1 (t := 23) (e := 18) (L' := [some (.ref 13), some (.ref o1), some (.ref o2), some (.int l3), some (.int l4)]) (st' := []) rfl (mB_e0t hb5) ?_
        refine ev_go kc_39 2 (i' := 4) (L' := [some (.ref 13), some (.ref o1), some (.ref o2), some (.int l3), some (.int (l4 + (1 : Int32)))]) (st' := []) (M' := M4) rfl ?_
        obtain rfl := Option.some.inj h
        exact Ev.forget (mLe.kp (mLe.kp (mLe.kp (mLe.kp (mLe.kp mLe.nl))))) (hk.1 (l3, (l4 + (1 : Int32)), M4) rfl)
def f_X4_firstRows_l4 (o1 : Nat) (o2 : Nat) (l3 : Int32) (l4 : Int32) (M0 : mM) : Option (Int32 × mM) :=
  wh 100000 (fun s : Int32 × Int32 × mM => f_X4_firstRows_4 o1 o2 s.1 s.2.1 s.2.2) (l3, l4, M0)
theorem e_X4_firstRows_l4 {o1 : Nat} {o2 : Nat} {l3 : Int32} {l4 : Int32} {M0 : mM} {R : mZ} {out : (Int32 × mM)} (go1 : mTwB o1 = true) (go2 : mTwB o2 = true) (h : f_X4_firstRows_l4 o1 o2 l3 l4 M0 = some out) (hk : R = emW eI out) : Ev (11) 39 4 [some (.ref 13), some (.ref o1), some (.ref o2), some (.int l3), some (.int l4)] [] M0 R := by
  unfold f_X4_firstRows_l4 at h
  exact wh_ev (P := fun s : Int32 × Int32 × mM => Ev (11) 39 4 [some (.ref 13), some (.ref o1), some (.ref o2), some (.int s.1), some (.int s.2.1)] [] s.2.2 R) (Q := fun e : (Int32 × mM) => R = emW eI e) (fun s o hb h1 h2 => e_X4_firstRows_4 go1 go2 hb ⟨h1, h2⟩) 100000 _ _ h hk
def f_X4_firstRows (o1 : Nat) (o2 : Nat) (M0 : mM) : Option (Int32 × mM) :=
  gd (mTwB o1) (gd (mTwB o2) (f_X4_firstRows_l4 o1 o2 (0 : Int32) (0 : Int32) M0))
set_option maxRecDepth 8000 in
theorem c_X4_firstRows {o1 : Nat} {o2 : Nat} {M0 : mM} {out : (Int32 × mM)} (h : f_X4_firstRows o1 o2 M0 = some out) : Cs (11) 39 [.ref 13, .ref o1, .ref o2] M0 (emW eI out) := by
  generalize hk : emW eI out = R
  replace hk := hk.symm
  unfold f_X4_firstRows at h
  obtain ⟨go1, h⟩ := o_gd h
  obtain ⟨go2, h⟩ := o_gd h
  show Ev (11) 39 0 [some (.ref 13), some (.ref o1), some (.ref o2), none, none] [] M0 R
  refine ev_go kc_39 4 (i' := 4) (L' := [some (.ref 13), some (.ref o1), some (.ref o2), some (.int (0 : Int32)), some (.int (0 : Int32))]) (st' := []) (M' := M0) rfl ?_
  exact Ev.forget (mLe.kp (mLe.kp (mLe.kp (mLe.kp (mLe.kp mLe.nl))))) (e_X4_firstRows_l4 go1 go2 h hk)
/-- WakeTower.within(II)Z: 179, P -/
theorem kc_179 : mKc 179 = k_X11_within := rfl
def f_X11_within (p0 : Int32) (p1 : Int32) : Bool :=
  bif decide (¬ (p0 &&& (p1 ^^^ (-1 : Int32))) = 0) then false else true
set_option maxRecDepth 8000 in
theorem c_X11_within {p0 : Int32} {p1 : Int32} {M0 : mM} : Cs (0) 179 [.int p0, .int p1] M0 (emR eB M0 (f_X11_within p0 p1)) := by
  generalize h : f_X11_within p0 p1 = out
  generalize hk : emR eB M0 out = R
  replace hk := hk.symm
  unfold f_X11_within at h
  show Ev (0) 179 0 [some (.int p0), some (.int p1)] [] M0 R
  rcases o_bif h with ⟨hb1, h⟩ | ⟨hb1, h⟩
  · refine ev_goT kc_179 6 (t := 8) (e := 6) (L' := [some (.int p0), some (.int p1)]) (st' := []) rfl hb1 ?_
    refine ev_go kc_179 1 (i' := 9) (L' := [some (.int p0), some (.int p1)]) (st' := [.int (0 : Int32)]) (M' := M0) rfl ?_
    subst h
    rw [hk]
    exact ev_ret kc_179 rfl rfl rfl
  · refine ev_goF kc_179 6 (t := 8) (e := 6) (L' := [some (.int p0), some (.int p1)]) (st' := []) rfl hb1 ?_
    refine ev_go kc_179 2 (i' := 9) (L' := [some (.int p0), some (.int p1)]) (st' := [.int (1 : Int32)]) (M' := M0) rfl ?_
    subst h
    rw [hk]
    exact ev_ret kc_179 rfl rfl rfl
/-- WakeTower$Reliefs.nextRow(I)I: 42, R -/
theorem kc_42 : mKc 42 = k_X4_nextRow := rfl
def f_X4_nextRow_2 (l1 : Int32) (l2 : Int32) (M0 : mM) : Option (Int32 ⊕ (Int32)) :=
  bif decide ((4 : Int32) ≤ l2) then (some (.inl (-1 : Int32))) else (bif (f_X11_has l1 l2) then (some (.inr (l2 + (1 : Int32)))) else (bif decide ((M0 13 3) ≤ l2) then (some (.inr (l2 + (1 : Int32)))) else (bif decide ((nI 16) ≤ (l1 ||| (f_X11_bit l2))) then (some (.inr (l2 + (1 : Int32)))) else (gd (mIn (l1 ||| (f_X11_bit l2)) 16) (bif decide ((M0 16 (ix (l1 ||| (f_X11_bit l2)))) = 0) then (some (.inr (l2 + (1 : Int32)))) else (some (.inl l2)))))))
set_option maxRecDepth 8000 in
theorem e_X4_nextRow_2 {l1 : Int32} {l2 : Int32} {M0 : mM} {R : mZ} {out : (Int32 ⊕ (Int32))}  (h : f_X4_nextRow_2 l1 l2 M0 = some out) (hk : (∀ s' : Int32, out = .inr s' → Ev (1) 42 2 [some (.ref 13), some (.int l1), some (.int s'), none] [] M0 R) ∧ (∀ e1 : Int32, out = .inl e1 → R = emR eI M0 e1)) : Ev (1) 42 2 [some (.ref 13), some (.int l1), some (.int l2), none] [] M0 R := by
  unfold f_X4_nextRow_2 at h
  rcases o_bif h with ⟨hb1, h⟩ | ⟨hb1, h⟩
  · refine ev_goT kc_42 3 (t := 32) (e := 5) (L' := [some (.ref 13), some (.int l1), some (.int l2), none]) (st' := []) rfl hb1 ?_
    refine ev_go kc_42 1 (i' := 33) (L' := [some (.ref 13), some (.int l1), some (.int l2), none]) (st' := [.int (-1 : Int32)]) (M' := M0) rfl ?_
    obtain rfl := Option.some.inj h
    rw [show _ from (hk.2 _ rfl)]
    exact ev_ret kc_42 rfl rfl rfl
  · refine ev_goF kc_42 3 (t := 32) (e := 5) (L' := [some (.ref 13), some (.int l1), some (.int l2), none]) (st' := []) rfl hb1 ?_
    refine ev_go kc_42 2 (i' := 7) (L' := [some (.ref 13), some (.int l1), some (.int l2), none]) (st' := [.int l2, .int l1]) (M' := M0) rfl ?_
    refine ev_cl0 (ins := .invokestatic 39) kc_42 rfl rfl (a := 177) (as := [.int l2]) (rest := [.int l1]) rfl rfl (Cs.deep (c_X11_bit (M0 := M0)) (by decide)) ?_
    refine ev_go kc_42 4 (i' := 12) (L' := [some (.ref 13), some (.int l1), some (.int l2), some (.int (l1 ||| (f_X11_bit l2)))]) (st' := [.int l2, .int l1]) (M' := M0) rfl ?_
    refine ev_cl0 (ins := .invokestatic 35) kc_42 rfl rfl (a := 178) (as := [.int l1, .int l2]) (rest := []) rfl rfl (Cs.deep (c_X11_has (M0 := M0)) (by decide)) ?_
    rcases o_bif h with ⟨hb4, h⟩ | ⟨hb4, h⟩
    · refine ev_goT kc_42 1 (t := 30) (e := 14) (L' := [some (.ref 13), some (.int l1), some (.int l2), some (.int (l1 ||| (f_X11_bit l2)))]) (st' := []) rfl (mB_n0t hb4) ?_
      refine ev_go kc_42 2 (i' := 2) (L' := [some (.ref 13), some (.int l1), some (.int (l2 + (1 : Int32))), some (.int (l1 ||| (f_X11_bit l2)))]) (st' := []) (M' := M0) rfl ?_
      obtain rfl := Option.some.inj h
      exact Ev.forget (mLe.kp (mLe.kp (mLe.kp (mLe.sk mLe.nl)))) (hk.1 (l2 + (1 : Int32)) rfl)
    · refine ev_goF kc_42 1 (t := 30) (e := 14) (L' := [some (.ref 13), some (.int l1), some (.int l2), some (.int (l1 ||| (f_X11_bit l2)))]) (st' := []) rfl (mB_n0f hb4) ?_
      rcases o_bif h with ⟨hb5, h⟩ | ⟨hb5, h⟩
      · refine ev_goT kc_42 4 (t := 30) (e := 18) (L' := [some (.ref 13), some (.int l1), some (.int l2), some (.int (l1 ||| (f_X11_bit l2)))]) (st' := []) rfl hb5 ?_
        refine ev_go kc_42 2 (i' := 2) (L' := [some (.ref 13), some (.int l1), some (.int (l2 + (1 : Int32))), some (.int (l1 ||| (f_X11_bit l2)))]) (st' := []) (M' := M0) rfl ?_
        obtain rfl := Option.some.inj h
        exact Ev.forget (mLe.kp (mLe.kp (mLe.kp (mLe.sk mLe.nl)))) (hk.1 (l2 + (1 : Int32)) rfl)
      · refine ev_goF kc_42 4 (t := 30) (e := 18) (L' := [some (.ref 13), some (.int l1), some (.int l2), some (.int (l1 ||| (f_X11_bit l2)))]) (st' := []) rfl hb5 ?_
        refine ev_go kc_42 3 (i' := 21) (L' := [some (.ref 13), some (.int l1), some (.int l2), some (.int (l1 ||| (f_X11_bit l2)))]) (st' := [.ref 16, .int (l1 ||| (f_X11_bit l2))]) (M' := M0) rfl ?_
        refine ev_al kc_42 rfl rfl rfl ?_
        rcases o_bif h with ⟨hb6, h⟩ | ⟨hb6, h⟩
        · refine ev_goT kc_42 1 (t := 30) (e := 23) (L' := [some (.ref 13), some (.int l1), some (.int l2), some (.int (l1 ||| (f_X11_bit l2)))]) (st' := []) rfl hb6 ?_
          refine ev_go kc_42 2 (i' := 2) (L' := [some (.ref 13), some (.int l1), some (.int (l2 + (1 : Int32))), some (.int (l1 ||| (f_X11_bit l2)))]) (st' := []) (M' := M0) rfl ?_
          obtain rfl := Option.some.inj h
          exact Ev.forget (mLe.kp (mLe.kp (mLe.kp (mLe.sk mLe.nl)))) (hk.1 (l2 + (1 : Int32)) rfl)
        · refine ev_goF kc_42 1 (t := 30) (e := 23) (L' := [some (.ref 13), some (.int l1), some (.int l2), some (.int (l1 ||| (f_X11_bit l2)))]) (st' := []) rfl hb6 ?_
          refine ev_go kc_42 3 (i' := 26) (L' := [some (.ref 13), some (.int l1), some (.int l2), some (.int (l1 ||| (f_X11_bit l2)))]) (st' := [.int (l1 ||| (f_X11_bit l2)), .ref 16]) (M' := M0) rfl ?_
          obtain ⟨hg7, h⟩ := o_gd h
          refine ev_ba kc_42 rfl (n := 16) (Or.inr rfl) hg7 ?_
          rcases o_bif h with ⟨hb8, h⟩ | ⟨hb8, h⟩
          · refine ev_goT kc_42 1 (t := 30) (e := 28) (L' := [some (.ref 13), some (.int l1), some (.int l2), some (.int (l1 ||| (f_X11_bit l2)))]) (st' := []) rfl hb8 ?_
            refine ev_go kc_42 2 (i' := 2) (L' := [some (.ref 13), some (.int l1), some (.int (l2 + (1 : Int32))), some (.int (l1 ||| (f_X11_bit l2)))]) (st' := []) (M' := M0) rfl ?_
            obtain rfl := Option.some.inj h
            exact Ev.forget (mLe.kp (mLe.kp (mLe.kp (mLe.sk mLe.nl)))) (hk.1 (l2 + (1 : Int32)) rfl)
          · refine ev_goF kc_42 1 (t := 30) (e := 28) (L' := [some (.ref 13), some (.int l1), some (.int l2), some (.int (l1 ||| (f_X11_bit l2)))]) (st' := []) rfl hb8 ?_
            refine ev_go kc_42 1 (i' := 29) (L' := [some (.ref 13), some (.int l1), some (.int l2), some (.int (l1 ||| (f_X11_bit l2)))]) (st' := [.int l2]) (M' := M0) rfl ?_
            obtain rfl := Option.some.inj h
            rw [show _ from (hk.2 _ rfl)]
            exact ev_ret kc_42 rfl rfl rfl
def f_X4_nextRow_l2 (l1 : Int32) (l2 : Int32) (M0 : mM) : Option Int32 :=
  wh 100000 (fun s : Int32 => f_X4_nextRow_2 l1 s M0) l2
theorem e_X4_nextRow_l2 {l1 : Int32} {l2 : Int32} {M0 : mM} {R : mZ} {out : Int32}  (h : f_X4_nextRow_l2 l1 l2 M0 = some out) (hk : R = emR eI M0 out) : Ev (1) 42 2 [some (.ref 13), some (.int l1), some (.int l2), none] [] M0 R := by
  unfold f_X4_nextRow_l2 at h
  exact wh_ev (P := fun s : Int32 => Ev (1) 42 2 [some (.ref 13), some (.int l1), some (.int s), none] [] M0 R) (Q := fun e : Int32 => R = emR eI M0 e) (fun s o hb h1 h2 => e_X4_nextRow_2  hb ⟨h1, h2⟩) 100000 _ _ h hk
def f_X4_nextRow (p1 : Int32) (M0 : mM) : Option Int32 :=
  f_X4_nextRow_l2 p1 (0 : Int32) M0
set_option maxRecDepth 8000 in
theorem c_X4_nextRow {p1 : Int32} {M0 : mM} {out : Int32} (h : f_X4_nextRow p1 M0 = some out) : Cs (1) 42 [.ref 13, .int p1] M0 (emR eI M0 out) := by
  generalize hk : emR eI M0 out = R
  replace hk := hk.symm
  unfold f_X4_nextRow at h
  show Ev (1) 42 0 [some (.ref 13), some (.int p1), none, none] [] M0 R
  refine ev_go kc_42 2 (i' := 2) (L' := [some (.ref 13), some (.int p1), some (.int (0 : Int32)), none]) (st' := []) (M' := M0) rfl ?_
  exact Ev.forget (mLe.kp (mLe.kp (mLe.kp (mLe.sk mLe.nl)))) (e_X4_nextRow_l2  h hk)
/-- WakeTower$Reliefs.findGoesOn(LWakeTower$Tower;LWakeTower$Tower;)V: 41, W -/
theorem kc_41 : mKc 41 = k_X4_findGoesOn := rfl
def f_X4_findGoesOn_38 (o1 : Nat) (o2 : Nat) (l3 : Int32) (l4 : Int32) (s1 : Int32) (s2 : Bool) (M0 : mM) : Option ((Unit × mM) ⊕ (Int32 × mM)) :=
  gd (mIn s1 16) (wr (mst M0 16 (ix s1) (vp_nar .boolean (mB s2))) (fun M1 => some (.inr ((l4 + (-1 : Int32)), M1))))
set_option maxRecDepth 8000 in
theorem e_X4_findGoesOn_38 {o1 : Nat} {o2 : Nat} {l3 : Int32} {l4 : Int32} {s1 : Int32} {s2 : Bool} {M0 : mM} {R : mZ} {out : ((Unit × mM) ⊕ (Int32 × mM))} (go1 : mTwB o1 = true) (go2 : mTwB o2 = true) (h : f_X4_findGoesOn_38 o1 o2 l3 l4 s1 s2 M0 = some out) (hk : (∀ s' : Int32 × mM, out = .inr s' → Ev (11) 41 12 [some (.ref 13), some (.ref o1), some (.ref o2), some (.int l3), some (.int s'.1)] [] (s'.2) R) ∧ (∀ e1 : (Unit × mM), out = .inl e1 → R = emW eU e1)) : Ev (11) 41 38 [some (.ref 13), some (.ref o1), some (.ref o2), some (.int l3), some (.int l4)] [.int (mB s2), .int s1, .ref 16] M0 R := by
  unfold f_X4_findGoesOn_38 at h
  obtain ⟨hg2, h⟩ := o_gd h
  obtain ⟨M1, hM1, h⟩ := o_wr h
  refine ev_bsZ kc_41 rfl rfl hg2 hM1 ?_
  refine ev_go kc_41 2 (i' := 12) (L' := [some (.ref 13), some (.ref o1), some (.ref o2), some (.int l3), some (.int (l4 + (-1 : Int32)))]) (st' := []) (M' := M1) rfl ?_
  obtain rfl := Option.some.inj h
  exact Ev.forget (mLe.kp (mLe.kp (mLe.kp (mLe.kp (mLe.kp mLe.nl))))) (hk.1 ((l4 + (-1 : Int32)), M1) rfl)
def f_X4_findGoesOn_37 (o1 : Nat) (o2 : Nat) (l3 : Int32) (l4 : Int32) (s1 : Int32) (M0 : mM) : Option ((Unit × mM) ⊕ (Int32 × mM)) :=
  f_X4_findGoesOn_38 o1 o2 l3 l4 s1 false M0
set_option maxRecDepth 8000 in
theorem e_X4_findGoesOn_37 {o1 : Nat} {o2 : Nat} {l3 : Int32} {l4 : Int32} {s1 : Int32} {M0 : mM} {R : mZ} {out : ((Unit × mM) ⊕ (Int32 × mM))} (go1 : mTwB o1 = true) (go2 : mTwB o2 = true) (h : f_X4_findGoesOn_37 o1 o2 l3 l4 s1 M0 = some out) (hk : (∀ s' : Int32 × mM, out = .inr s' → Ev (11) 41 12 [some (.ref 13), some (.ref o1), some (.ref o2), some (.int l3), some (.int s'.1)] [] (s'.2) R) ∧ (∀ e1 : (Unit × mM), out = .inl e1 → R = emW eU e1)) : Ev (11) 41 37 [some (.ref 13), some (.ref o1), some (.ref o2), some (.int l3), some (.int l4)] [.int s1, .ref 16] M0 R := by
  unfold f_X4_findGoesOn_37 at h
  refine ev_go kc_41 1 (i' := 38) (L' := [some (.ref 13), some (.ref o1), some (.ref o2), some (.int l3), some (.int l4)]) (st' := [.int (0 : Int32), .int s1, .ref 16]) (M' := M0) rfl ?_
  exact Ev.forget (mLe.kp (mLe.kp (mLe.kp (mLe.kp (mLe.kp mLe.nl))))) (e_X4_findGoesOn_38 go1 go2 h hk)
def f_X4_findGoesOn_29 (o1 : Nat) (o2 : Nat) (l3 : Int32) (l4 : Int32) (s1 : Int32) (M0 : mM) : Option ((Unit × mM) ⊕ (Int32 × mM)) :=
  b2 (f_X4_standsAfter l4 o1 o2 M0) (fun v3 M3 => bif v3 then (f_X4_findGoesOn_38 o1 o2 l3 l4 s1 true M3) else (f_X4_findGoesOn_37 o1 o2 l3 l4 s1 M3))
set_option maxRecDepth 8000 in
theorem e_X4_findGoesOn_29 {o1 : Nat} {o2 : Nat} {l3 : Int32} {l4 : Int32} {s1 : Int32} {M0 : mM} {R : mZ} {out : ((Unit × mM) ⊕ (Int32 × mM))} (go1 : mTwB o1 = true) (go2 : mTwB o2 = true) (h : f_X4_findGoesOn_29 o1 o2 l3 l4 s1 M0 = some out) (hk : (∀ s' : Int32 × mM, out = .inr s' → Ev (11) 41 12 [some (.ref 13), some (.ref o1), some (.ref o2), some (.int l3), some (.int s'.1)] [] (s'.2) R) ∧ (∀ e1 : (Unit × mM), out = .inl e1 → R = emW eU e1)) : Ev (11) 41 29 [some (.ref 13), some (.ref o1), some (.ref o2), some (.int l3), some (.int l4)] [.int s1, .ref 16] M0 R := by
  unfold f_X4_findGoesOn_29 at h
  refine ev_go kc_41 4 (i' := 33) (L' := [some (.ref 13), some (.ref o1), some (.ref o2), some (.int l3), some (.int l4)]) (st' := [.ref o2, .ref o1, .int l4, .ref 13, .int s1, .ref 16]) (M' := M0) rfl ?_
  obtain ⟨v3, M3, hc3, h⟩ := o_b2 h
  refine ev_cl0 (ins := .invokevirtual 67) kc_41 rfl rfl (a := 38) (as := [.ref 13, .int l4, .ref o1, .ref o2]) (rest := [.int s1, .ref 16]) rfl rfl (Cs.deep (c_X4_standsAfter hc3) (by decide)) ?_
  rcases o_bif h with ⟨hb4, h⟩ | ⟨hb4, h⟩
  · refine ev_goF kc_41 1 (t := 37) (e := 35) (L' := [some (.ref 13), some (.ref o1), some (.ref o2), some (.int l3), some (.int l4)]) (st' := [.int s1, .ref 16]) rfl (mB_e0f hb4) ?_
    refine ev_go kc_41 2 (i' := 38) (L' := [some (.ref 13), some (.ref o1), some (.ref o2), some (.int l3), some (.int l4)]) (st' := [.int (1 : Int32), .int s1, .ref 16]) (M' := M3) rfl ?_
    exact Ev.forget (mLe.kp (mLe.kp (mLe.kp (mLe.kp (mLe.kp mLe.nl))))) (e_X4_findGoesOn_38 go1 go2 h hk)
  · refine ev_goT kc_41 1 (t := 37) (e := 35) (L' := [some (.ref 13), some (.ref o1), some (.ref o2), some (.int l3), some (.int l4)]) (st' := [.int s1, .ref 16]) rfl (mB_e0t hb4) ?_
    exact Ev.forget (mLe.kp (mLe.kp (mLe.kp (mLe.kp (mLe.kp mLe.nl))))) (e_X4_findGoesOn_37 go1 go2 h hk)
def f_X4_findGoesOn_12 (o1 : Nat) (o2 : Nat) (l3 : Int32) (l4 : Int32) (M0 : mM) : Option ((Unit × mM) ⊕ (Int32 × mM)) :=
  bif decide (l4 < 0) then (some (.inl ((), M0))) else (bif (f_X11_within l4 l3) then (bif decide (l4 = l3) then (f_X4_findGoesOn_29 o1 o2 l3 l4 l4 M0) else (b1 (f_X4_nextRow l4 M0) (fun v9 => bif decide (v9 = (-1 : Int32)) then (f_X4_findGoesOn_37 o1 o2 l3 l4 l4 M0) else (f_X4_findGoesOn_29 o1 o2 l3 l4 l4 M0)))) else (f_X4_findGoesOn_37 o1 o2 l3 l4 l4 M0))
set_option maxRecDepth 8000 in
theorem e_X4_findGoesOn_12 {o1 : Nat} {o2 : Nat} {l3 : Int32} {l4 : Int32} {M0 : mM} {R : mZ} {out : ((Unit × mM) ⊕ (Int32 × mM))} (go1 : mTwB o1 = true) (go2 : mTwB o2 = true) (h : f_X4_findGoesOn_12 o1 o2 l3 l4 M0 = some out) (hk : (∀ s' : Int32 × mM, out = .inr s' → Ev (11) 41 12 [some (.ref 13), some (.ref o1), some (.ref o2), some (.int l3), some (.int s'.1)] [] (s'.2) R) ∧ (∀ e1 : (Unit × mM), out = .inl e1 → R = emW eU e1)) : Ev (11) 41 12 [some (.ref 13), some (.ref o1), some (.ref o2), some (.int l3), some (.int l4)] [] M0 R := by
  unfold f_X4_findGoesOn_12 at h
  rcases o_bif h with ⟨hb5, h⟩ | ⟨hb5, h⟩
  · refine ev_goT kc_41 2 (t := 41) (e := 14) (L' := [some (.ref 13), some (.ref o1), some (.ref o2), some (.int l3), some (.int l4)]) (st' := []) rfl hb5 ?_
    obtain rfl := Option.some.inj h
    rw [show _ from (hk.2 _ rfl)]
    exact ev_vret kc_41 rfl rfl rfl
  · refine ev_goF kc_41 2 (t := 41) (e := 14) (L' := [some (.ref 13), some (.ref o1), some (.ref o2), some (.int l3), some (.int l4)]) (st' := []) rfl hb5 ?_
    refine ev_go kc_41 5 (i' := 19) (L' := [some (.ref 13), some (.ref o1), some (.ref o2), some (.int l3), some (.int l4)]) (st' := [.int l3, .int l4, .int l4, .ref 16]) (M' := M0) rfl ?_
    refine ev_cl0 (ins := .invokestatic 78) kc_41 rfl rfl (a := 179) (as := [.int l4, .int l3]) (rest := [.int l4, .ref 16]) rfl rfl (Cs.deep (c_X11_within (M0 := M0)) (by decide)) ?_
    rcases o_bif h with ⟨hb7, h⟩ | ⟨hb7, h⟩
    · refine ev_goF kc_41 1 (t := 37) (e := 21) (L' := [some (.ref 13), some (.ref o1), some (.ref o2), some (.int l3), some (.int l4)]) (st' := [.int l4, .ref 16]) rfl (mB_e0f hb7) ?_
      rcases o_bif h with ⟨hb8, h⟩ | ⟨hb8, h⟩
      · refine ev_goT kc_41 3 (t := 29) (e := 24) (L' := [some (.ref 13), some (.ref o1), some (.ref o2), some (.int l3), some (.int l4)]) (st' := [.int l4, .ref 16]) rfl hb8 ?_
        exact Ev.forget (mLe.kp (mLe.kp (mLe.kp (mLe.kp (mLe.kp mLe.nl))))) (e_X4_findGoesOn_29 go1 go2 h hk)
      · refine ev_goF kc_41 3 (t := 29) (e := 24) (L' := [some (.ref 13), some (.ref o1), some (.ref o2), some (.int l3), some (.int l4)]) (st' := [.int l4, .ref 16]) rfl hb8 ?_
        refine ev_go kc_41 2 (i' := 26) (L' := [some (.ref 13), some (.ref o1), some (.ref o2), some (.int l3), some (.int l4)]) (st' := [.int l4, .ref 13, .int l4, .ref 16]) (M' := M0) rfl ?_
        obtain ⟨v9, hc9, h⟩ := o_b1 h
        refine ev_cl0 (ins := .invokevirtual 75) kc_41 rfl rfl (a := 42) (as := [.ref 13, .int l4]) (rest := [.int l4, .ref 16]) rfl rfl (Cs.deep (c_X4_nextRow (M0 := M0) hc9) (by decide)) ?_
        rcases o_bif h with ⟨hb10, h⟩ | ⟨hb10, h⟩
        · refine ev_goT kc_41 2 (t := 37) (e := 29) (L' := [some (.ref 13), some (.ref o1), some (.ref o2), some (.int l3), some (.int l4)]) (st' := [.int l4, .ref 16]) rfl hb10 ?_
          exact Ev.forget (mLe.kp (mLe.kp (mLe.kp (mLe.kp (mLe.kp mLe.nl))))) (e_X4_findGoesOn_37 go1 go2 h hk)
        · refine ev_goF kc_41 2 (t := 37) (e := 29) (L' := [some (.ref 13), some (.ref o1), some (.ref o2), some (.int l3), some (.int l4)]) (st' := [.int l4, .ref 16]) rfl hb10 ?_
          exact Ev.forget (mLe.kp (mLe.kp (mLe.kp (mLe.kp (mLe.kp mLe.nl))))) (e_X4_findGoesOn_29 go1 go2 h hk)
    · refine ev_goT kc_41 1 (t := 37) (e := 21) (L' := [some (.ref 13), some (.ref o1), some (.ref o2), some (.int l3), some (.int l4)]) (st' := [.int l4, .ref 16]) rfl (mB_e0t hb7) ?_
      exact Ev.forget (mLe.kp (mLe.kp (mLe.kp (mLe.kp (mLe.kp mLe.nl))))) (e_X4_findGoesOn_37 go1 go2 h hk)
def f_X4_findGoesOn_l12 (o1 : Nat) (o2 : Nat) (l3 : Int32) (l4 : Int32) (M0 : mM) : Option (Unit × mM) :=
  wh 100000 (fun s : Int32 × mM => f_X4_findGoesOn_12 o1 o2 l3 s.1 s.2) (l4, M0)
theorem e_X4_findGoesOn_l12 {o1 : Nat} {o2 : Nat} {l3 : Int32} {l4 : Int32} {M0 : mM} {R : mZ} {out : (Unit × mM)} (go1 : mTwB o1 = true) (go2 : mTwB o2 = true) (h : f_X4_findGoesOn_l12 o1 o2 l3 l4 M0 = some out) (hk : R = emW eU out) : Ev (11) 41 12 [some (.ref 13), some (.ref o1), some (.ref o2), some (.int l3), some (.int l4)] [] M0 R := by
  unfold f_X4_findGoesOn_l12 at h
  exact wh_ev (P := fun s : Int32 × mM => Ev (11) 41 12 [some (.ref 13), some (.ref o1), some (.ref o2), some (.int l3), some (.int s.1)] [] s.2 R) (Q := fun e : (Unit × mM) => R = emW eU e) (fun s o hb h1 h2 => e_X4_findGoesOn_12 go1 go2 hb ⟨h1, h2⟩) 100000 _ _ h hk
def f_X4_findGoesOn (o1 : Nat) (o2 : Nat) (M0 : mM) : Option (Unit × mM) :=
  gd (mTwB o1) (gd (mTwB o2) (f_X4_findGoesOn_l12 o1 o2 ((f_X11_bit (M0 13 3)) - (1 : Int32)) ((nI 16) - (1 : Int32)) M0))
set_option maxRecDepth 8000 in
theorem c_X4_findGoesOn {o1 : Nat} {o2 : Nat} {M0 : mM} {out : (Unit × mM)} (h : f_X4_findGoesOn o1 o2 M0 = some out) : Cs (11) 41 [.ref 13, .ref o1, .ref o2] M0 (emW eU out) := by
  generalize hk : emW eU out = R
  replace hk := hk.symm
  unfold f_X4_findGoesOn at h
  obtain ⟨go1, h⟩ := o_gd h
  obtain ⟨go2, h⟩ := o_gd h
  show Ev (11) 41 0 [some (.ref 13), some (.ref o1), some (.ref o2), none, none] [] M0 R
  refine ev_go kc_41 2 (i' := 2) (L' := [some (.ref 13), some (.ref o1), some (.ref o2), none, none]) (st' := [.int (M0 13 3)]) (M' := M0) rfl ?_
  refine ev_cl0 (ins := .invokestatic 39) kc_41 rfl rfl (a := 177) (as := [.int (M0 13 3)]) (rest := []) rfl rfl (Cs.deep (c_X11_bit (M0 := M0)) (by decide)) ?_
  refine ev_go kc_41 5 (i' := 8) (L' := [some (.ref 13), some (.ref o1), some (.ref o2), some (.int ((f_X11_bit (M0 13 3)) - (1 : Int32))), none]) (st' := [.ref 16]) (M' := M0) rfl ?_
  refine ev_al kc_41 rfl rfl rfl ?_
  refine ev_go kc_41 3 (i' := 12) (L' := [some (.ref 13), some (.ref o1), some (.ref o2), some (.int ((f_X11_bit (M0 13 3)) - (1 : Int32))), some (.int ((nI 16) - (1 : Int32)))]) (st' := []) (M' := M0) rfl ?_
  exact Ev.forget (mLe.kp (mLe.kp (mLe.kp (mLe.kp (mLe.kp mLe.nl))))) (e_X4_findGoesOn_l12 go1 go2 h hk)
/-- WakeTower$Reliefs.rowOf(ILWakeTower$Tower;LWakeTower$Tower;)I: 40, W -/
theorem kc_40 : mKc 40 = k_X4_rowOf := rfl
def f_X4_rowOf_25 (o2 : Nat) (o3 : Nat) (l1 : Int32) (l4 : Int32) (l5 : Int32) (l6 : Int32) (M0 : mM) : Option ((Int32 × mM) ⊕ (Int32 × Int32 × Int32)) :=
  bif decide (l1 < l6) then (some (.inl (l5, M0))) else (b1 (f_X4_nextRow l4 M0) (fun v2 => some (.inr ((l4 ||| (f_X11_bit v2)), v2, (l6 + (1 : Int32))))))
set_option maxRecDepth 8000 in
theorem e_X4_rowOf_25 {o2 : Nat} {o3 : Nat} {l1 : Int32} {l4 : Int32} {l5 : Int32} {l6 : Int32} {M0 : mM} {R : mZ} {out : ((Int32 × mM) ⊕ (Int32 × Int32 × Int32))} (go2 : mTwB o2 = true) (go3 : mTwB o3 = true) (h : f_X4_rowOf_25 o2 o3 l1 l4 l5 l6 M0 = some out) (hk : (∀ s' : Int32 × Int32 × Int32, out = .inr s' → Ev (12) 40 25 [some (.ref 13), some (.int l1), none, none, some (.int s'.1), some (.int s'.2.1), some (.int s'.2.2)] [] M0 R) ∧ (∀ e1 : (Int32 × mM), out = .inl e1 → R = emW eI e1)) : Ev (12) 40 25 [some (.ref 13), some (.int l1), none, none, some (.int l4), some (.int l5), some (.int l6)] [] M0 R := by
  unfold f_X4_rowOf_25 at h
  rcases o_bif h with ⟨hb1, h⟩ | ⟨hb1, h⟩
  · refine ev_goT kc_40 3 (t := 39) (e := 28) (L' := [some (.ref 13), some (.int l1), none, none, some (.int l4), some (.int l5), some (.int l6)]) (st' := []) rfl hb1 ?_
    refine ev_go kc_40 1 (i' := 40) (L' := [some (.ref 13), some (.int l1), none, none, some (.int l4), some (.int l5), some (.int l6)]) (st' := [.int l5]) (M' := M0) rfl ?_
    obtain rfl := Option.some.inj h
    rw [show _ from (hk.2 _ rfl)]
    exact ev_ret kc_40 rfl rfl rfl
  · refine ev_goF kc_40 3 (t := 39) (e := 28) (L' := [some (.ref 13), some (.int l1), none, none, some (.int l4), some (.int l5), some (.int l6)]) (st' := []) rfl hb1 ?_
    refine ev_go kc_40 2 (i' := 30) (L' := [some (.ref 13), some (.int l1), none, none, some (.int l4), some (.int l5), some (.int l6)]) (st' := [.int l4, .ref 13]) (M' := M0) rfl ?_
    obtain ⟨v2, hc2, h⟩ := o_b1 h
    refine ev_cl0 (ins := .invokevirtual 75) kc_40 rfl rfl (a := 42) (as := [.ref 13, .int l4]) (rest := []) rfl rfl (Cs.deep (c_X4_nextRow (M0 := M0) hc2) (by decide)) ?_
    refine ev_go kc_40 3 (i' := 34) (L' := [some (.ref 13), some (.int l1), none, none, some (.int l4), some (.int v2), some (.int l6)]) (st' := [.int v2, .int l4]) (M' := M0) rfl ?_
    refine ev_cl0 (ins := .invokestatic 39) kc_40 rfl rfl (a := 177) (as := [.int v2]) (rest := [.int l4]) rfl rfl (Cs.deep (c_X11_bit (M0 := M0)) (by decide)) ?_
    refine ev_go kc_40 4 (i' := 25) (L' := [some (.ref 13), some (.int l1), none, none, some (.int (l4 ||| (f_X11_bit v2))), some (.int v2), some (.int (l6 + (1 : Int32)))]) (st' := []) (M' := M0) rfl ?_
    obtain rfl := Option.some.inj h
    exact Ev.forget (mLe.kp (mLe.kp (mLe.sk (mLe.sk (mLe.kp (mLe.kp (mLe.kp mLe.nl))))))) (hk.1 ((l4 ||| (f_X11_bit v2)), v2, (l6 + (1 : Int32))) rfl)
def f_X4_rowOf_l25 (o2 : Nat) (o3 : Nat) (l1 : Int32) (l4 : Int32) (l5 : Int32) (l6 : Int32) (M0 : mM) : Option (Int32 × mM) :=
  wh 100000 (fun s : Int32 × Int32 × Int32 => f_X4_rowOf_25 o2 o3 l1 s.1 s.2.1 s.2.2 M0) (l4, l5, l6)
theorem e_X4_rowOf_l25 {o2 : Nat} {o3 : Nat} {l1 : Int32} {l4 : Int32} {l5 : Int32} {l6 : Int32} {M0 : mM} {R : mZ} {out : (Int32 × mM)} (go2 : mTwB o2 = true) (go3 : mTwB o3 = true) (h : f_X4_rowOf_l25 o2 o3 l1 l4 l5 l6 M0 = some out) (hk : R = emW eI out) : Ev (12) 40 25 [some (.ref 13), some (.int l1), none, none, some (.int l4), some (.int l5), some (.int l6)] [] M0 R := by
  unfold f_X4_rowOf_l25 at h
  exact wh_ev (P := fun s : Int32 × Int32 × Int32 => Ev (12) 40 25 [some (.ref 13), some (.int l1), none, none, some (.int s.1), some (.int s.2.1), some (.int s.2.2)] [] M0 R) (Q := fun e : (Int32 × mM) => R = emW eI e) (fun s o hb h1 h2 => e_X4_rowOf_25 go2 go3 hb ⟨h1, h2⟩) 100000 _ _ h hk
def f_X4_rowOf (p1 : Int32) (o2 : Nat) (o3 : Nat) (M0 : mM) : Option (Int32 × mM) :=
  gd (mTwB o2) (gd (mTwB o3) (bif decide (p1 < 0) then (some ((-1 : Int32), M0)) else (bif decide (p1 < (M0 13 3)) then (b2 (f_X4_findGoesOn o2 o3 M0) (fun v6 M6 => bif decide (¬ (M6 16 (ix (0 : Int32))) = 0) then (f_X4_rowOf_l25 o2 o3 p1 (0 : Int32) (-1 : Int32) (0 : Int32) M6) else (some ((-1 : Int32), M6)))) else (some ((-1 : Int32), M0)))))
set_option maxRecDepth 8000 in
theorem c_X4_rowOf {p1 : Int32} {o2 : Nat} {o3 : Nat} {M0 : mM} {out : (Int32 × mM)} (h : f_X4_rowOf p1 o2 o3 M0 = some out) : Cs (12) 40 [.ref 13, .int p1, .ref o2, .ref o3] M0 (emW eI out) := by
  generalize hk : emW eI out = R
  replace hk := hk.symm
  unfold f_X4_rowOf at h
  obtain ⟨go2, h⟩ := o_gd h
  obtain ⟨go3, h⟩ := o_gd h
  show Ev (12) 40 0 [some (.ref 13), some (.int p1), some (.ref o2), some (.ref o3), none, none, none] [] M0 R
  rcases o_bif h with ⟨hb4, h⟩ | ⟨hb4, h⟩
  · refine ev_goT kc_40 2 (t := 6) (e := 2) (L' := [some (.ref 13), some (.int p1), some (.ref o2), some (.ref o3), none, none, none]) (st' := []) rfl hb4 ?_
    refine ev_go kc_40 1 (i' := 7) (L' := [some (.ref 13), some (.int p1), some (.ref o2), some (.ref o3), none, none, none]) (st' := [.int (-1 : Int32)]) (M' := M0) rfl ?_
    obtain rfl := Option.some.inj h
    rw [hk]
    exact ev_ret kc_40 rfl rfl rfl
  · refine ev_goF kc_40 2 (t := 6) (e := 2) (L' := [some (.ref 13), some (.int p1), some (.ref o2), some (.ref o3), none, none, none]) (st' := []) rfl hb4 ?_
    rcases o_bif h with ⟨hb5, h⟩ | ⟨hb5, h⟩
    · refine ev_goT kc_40 4 (t := 8) (e := 6) (L' := [some (.ref 13), some (.int p1), some (.ref o2), some (.ref o3), none, none, none]) (st' := []) rfl hb5 ?_
      refine ev_go kc_40 3 (i' := 11) (L' := [some (.ref 13), some (.int p1), some (.ref o2), some (.ref o3), none, none, none]) (st' := [.ref o3, .ref o2, .ref 13]) (M' := M0) rfl ?_
      obtain ⟨v6, M6, hc6, h⟩ := o_b2 h
      refine ev_cl0 (ins := .invokevirtual 71) kc_40 rfl rfl (a := 41) (as := [.ref 13, .ref o2, .ref o3]) (rest := []) rfl rfl (Cs.deep (c_X4_findGoesOn hc6) (by decide)) ?_
      refine ev_go kc_40 3 (i' := 15) (L' := [some (.ref 13), some (.int p1), some (.ref o2), some (.ref o3), none, none, none]) (st' := [.int (0 : Int32), .ref 16]) (M' := M6) rfl ?_
      refine ev_ba kc_40 rfl (n := 16) (Or.inr rfl) rfl ?_
      rcases o_bif h with ⟨hb7, h⟩ | ⟨hb7, h⟩
      · refine ev_goT kc_40 1 (t := 19) (e := 17) (L' := [some (.ref 13), some (.int p1), some (.ref o2), some (.ref o3), none, none, none]) (st' := []) rfl hb7 ?_
        refine ev_go kc_40 6 (i' := 25) (L' := [some (.ref 13), some (.int p1), some (.ref o2), some (.ref o3), some (.int (0 : Int32)), some (.int (-1 : Int32)), some (.int (0 : Int32))]) (st' := []) (M' := M6) rfl ?_
        exact Ev.forget (mLe.kp (mLe.kp (mLe.sk (mLe.sk (mLe.kp (mLe.kp (mLe.kp mLe.nl))))))) (e_X4_rowOf_l25 go2 go3 h hk)
      · refine ev_goF kc_40 1 (t := 19) (e := 17) (L' := [some (.ref 13), some (.int p1), some (.ref o2), some (.ref o3), none, none, none]) (st' := []) rfl hb7 ?_
        refine ev_go kc_40 1 (i' := 18) (L' := [some (.ref 13), some (.int p1), some (.ref o2), some (.ref o3), none, none, none]) (st' := [.int (-1 : Int32)]) (M' := M6) rfl ?_
        obtain rfl := Option.some.inj h
        rw [hk]
        exact ev_ret kc_40 rfl rfl rfl
    · refine ev_goF kc_40 4 (t := 8) (e := 6) (L' := [some (.ref 13), some (.int p1), some (.ref o2), some (.ref o3), none, none, none]) (st' := []) rfl hb5 ?_
      refine ev_go kc_40 1 (i' := 7) (L' := [some (.ref 13), some (.int p1), some (.ref o2), some (.ref o3), none, none, none]) (st' := [.int (-1 : Int32)]) (M' := M0) rfl ?_
      obtain rfl := Option.some.inj h
      rw [hk]
      exact ev_ret kc_40 rfl rfl rfl
/-- WakeTower$Roster.sumUp([I)V: 44, W -/
theorem kc_44 : mKc 44 = k_X5_sumUp := rfl
def f_X5_sumUp_29 (o1 : Nat) (l2 : Int32) (l3 : Int32) (s1 : Int32) (s2 : Int32) (s3 : Int32) (M0 : mM) : Option (((Unit × mM) ⊕ (Int32 × mM)) ⊕ (Int32 × mM)) :=
  gd (mIn s1 256) (wr (mst M0 11 (ix s1) (s2 + s3)) (fun M1 => some (.inr ((l3 + (1 : Int32)), M1))))
set_option maxRecDepth 8000 in
theorem e_X5_sumUp_29 {o1 : Nat} {l2 : Int32} {l3 : Int32} {s1 : Int32} {s2 : Int32} {s3 : Int32} {M0 : mM} {R : mZ} {out : (((Unit × mM) ⊕ (Int32 × mM)) ⊕ (Int32 × mM))} (go1 : mA8B o1 = true) (h : f_X5_sumUp_29 o1 l2 l3 s1 s2 s3 M0 = some out) (hk : (∀ s' : Int32 × mM, out = .inr s' → Ev (1) 44 12 [some (.ref 10), some (.ref o1), some (.int l2), some (.int s'.1)] [] (s'.2) R) ∧ (∀ e2 : ((Unit × mM) ⊕ (Int32 × mM)), out = .inl e2 → (∀ s' : Int32 × mM, e2 = .inr s' → Ev (1) 44 2 [some (.ref 10), some (.ref o1), some (.int s'.1), none] [] (s'.2) R) ∧ (∀ e1 : (Unit × mM), e2 = .inl e1 → R = emW eU e1))) : Ev (1) 44 29 [some (.ref 10), some (.ref o1), some (.int l2), some (.int l3)] [.int s3, .int s2, .int s1, .ref 11] M0 R := by
  unfold f_X5_sumUp_29 at h
  refine ev_go kc_44 1 (i' := 30) (L' := [some (.ref 10), some (.ref o1), some (.int l2), some (.int l3)]) (st' := [.int (s2 + s3), .int s1, .ref 11]) (M' := M0) rfl ?_
  obtain ⟨hg2, h⟩ := o_gd h
  obtain ⟨M1, hM1, h⟩ := o_wr h
  refine ev_is kc_44 rfl rfl hg2 hM1 ?_
  refine ev_go kc_44 2 (i' := 12) (L' := [some (.ref 10), some (.ref o1), some (.int l2), some (.int (l3 + (1 : Int32)))]) (st' := []) (M' := M1) rfl ?_
  obtain rfl := Option.some.inj h
  exact Ev.forget (mLe.kp (mLe.kp (mLe.kp (mLe.kp mLe.nl)))) (hk.1 ((l3 + (1 : Int32)), M1) rfl)
def f_X5_sumUp_12 (o1 : Nat) (l2 : Int32) (l3 : Int32) (M0 : mM) : Option (((Unit × mM) ⊕ (Int32 × mM)) ⊕ (Int32 × mM)) :=
  bif decide ((8 : Int32) ≤ l3) then (some (.inl (.inr ((l2 + (1 : Int32)), M0)))) else (gd (mIn l2 256) (bif (f_X11_has l2 l3) then (gd (mIn l3 8) (f_X5_sumUp_29 o1 l2 l3 l2 (M0 11 (ix l2)) (M0 o1 (ix l3)) M0)) else (f_X5_sumUp_29 o1 l2 l3 l2 (M0 11 (ix l2)) (0 : Int32) M0)))
set_option maxRecDepth 8000 in
theorem e_X5_sumUp_12 {o1 : Nat} {l2 : Int32} {l3 : Int32} {M0 : mM} {R : mZ} {out : (((Unit × mM) ⊕ (Int32 × mM)) ⊕ (Int32 × mM))} (go1 : mA8B o1 = true) (h : f_X5_sumUp_12 o1 l2 l3 M0 = some out) (hk : (∀ s' : Int32 × mM, out = .inr s' → Ev (1) 44 12 [some (.ref 10), some (.ref o1), some (.int l2), some (.int s'.1)] [] (s'.2) R) ∧ (∀ e2 : ((Unit × mM) ⊕ (Int32 × mM)), out = .inl e2 → (∀ s' : Int32 × mM, e2 = .inr s' → Ev (1) 44 2 [some (.ref 10), some (.ref o1), some (.int s'.1), none] [] (s'.2) R) ∧ (∀ e1 : (Unit × mM), e2 = .inl e1 → R = emW eU e1))) : Ev (1) 44 12 [some (.ref 10), some (.ref o1), some (.int l2), some (.int l3)] [] M0 R := by
  unfold f_X5_sumUp_12 at h
  rcases o_bif h with ⟨hb3, h⟩ | ⟨hb3, h⟩
  · refine ev_goT kc_44 3 (t := 33) (e := 15) (L' := [some (.ref 10), some (.ref o1), some (.int l2), some (.int l3)]) (st' := []) rfl hb3 ?_
    refine ev_go kc_44 2 (i' := 2) (L' := [some (.ref 10), some (.ref o1), some (.int (l2 + (1 : Int32))), some (.int l3)]) (st' := []) (M' := M0) rfl ?_
    obtain rfl := Option.some.inj h
    exact Ev.forget (mLe.kp (mLe.kp (mLe.kp (mLe.sk mLe.nl)))) ((hk.2 _ rfl).1 ((l2 + (1 : Int32)), M0) rfl)
  · refine ev_goF kc_44 3 (t := 33) (e := 15) (L' := [some (.ref 10), some (.ref o1), some (.int l2), some (.int l3)]) (st' := []) rfl hb3 ?_
    refine ev_go kc_44 4 (i' := 19) (L' := [some (.ref 10), some (.ref o1), some (.int l2), some (.int l3)]) (st' := [.int l2, .ref 11, .int l2, .ref 11]) (M' := M0) rfl ?_
    obtain ⟨hg4, h⟩ := o_gd h
    refine ev_ia kc_44 rfl rfl hg4 ?_
    refine ev_go kc_44 2 (i' := 22) (L' := [some (.ref 10), some (.ref o1), some (.int l2), some (.int l3)]) (st' := [.int l3, .int l2, .int (M0 11 (ix l2)), .int l2, .ref 11]) (M' := M0) rfl ?_
    refine ev_cl0 (ins := .invokestatic 34) kc_44 rfl rfl (a := 178) (as := [.int l2, .int l3]) (rest := [.int (M0 11 (ix l2)), .int l2, .ref 11]) rfl rfl (Cs.deep (c_X11_has (M0 := M0)) (by decide)) ?_
    rcases o_bif h with ⟨hb6, h⟩ | ⟨hb6, h⟩
    · refine ev_goF kc_44 1 (t := 28) (e := 24) (L' := [some (.ref 10), some (.ref o1), some (.int l2), some (.int l3)]) (st' := [.int (M0 11 (ix l2)), .int l2, .ref 11]) rfl (mB_e0f hb6) ?_
      refine ev_go kc_44 2 (i' := 26) (L' := [some (.ref 10), some (.ref o1), some (.int l2), some (.int l3)]) (st' := [.int l3, .ref o1, .int (M0 11 (ix l2)), .int l2, .ref 11]) (M' := M0) rfl ?_
      obtain ⟨hg7, h⟩ := o_gd h
      refine ev_ia kc_44 rfl (mA80 go1) hg7 ?_
      refine ev_go kc_44 1 (i' := 29) (L' := [some (.ref 10), some (.ref o1), some (.int l2), some (.int l3)]) (st' := [.int (M0 o1 (ix l3)), .int (M0 11 (ix l2)), .int l2, .ref 11]) (M' := M0) rfl ?_
      exact Ev.forget (mLe.kp (mLe.kp (mLe.kp (mLe.kp mLe.nl)))) (e_X5_sumUp_29 go1 h hk)
    · refine ev_goT kc_44 1 (t := 28) (e := 24) (L' := [some (.ref 10), some (.ref o1), some (.int l2), some (.int l3)]) (st' := [.int (M0 11 (ix l2)), .int l2, .ref 11]) rfl (mB_e0t hb6) ?_
      refine ev_go kc_44 1 (i' := 29) (L' := [some (.ref 10), some (.ref o1), some (.int l2), some (.int l3)]) (st' := [.int (0 : Int32), .int (M0 11 (ix l2)), .int l2, .ref 11]) (M' := M0) rfl ?_
      exact Ev.forget (mLe.kp (mLe.kp (mLe.kp (mLe.kp mLe.nl)))) (e_X5_sumUp_29 go1 h hk)
def f_X5_sumUp_l12 (o1 : Nat) (l2 : Int32) (l3 : Int32) (M0 : mM) : Option ((Unit × mM) ⊕ (Int32 × mM)) :=
  wh 100000 (fun s : Int32 × mM => f_X5_sumUp_12 o1 l2 s.1 s.2) (l3, M0)
theorem e_X5_sumUp_l12 {o1 : Nat} {l2 : Int32} {l3 : Int32} {M0 : mM} {R : mZ} {out : ((Unit × mM) ⊕ (Int32 × mM))} (go1 : mA8B o1 = true) (h : f_X5_sumUp_l12 o1 l2 l3 M0 = some out) (hk : (∀ s' : Int32 × mM, out = .inr s' → Ev (1) 44 2 [some (.ref 10), some (.ref o1), some (.int s'.1), none] [] (s'.2) R) ∧ (∀ e1 : (Unit × mM), out = .inl e1 → R = emW eU e1)) : Ev (1) 44 12 [some (.ref 10), some (.ref o1), some (.int l2), some (.int l3)] [] M0 R := by
  unfold f_X5_sumUp_l12 at h
  exact wh_ev (P := fun s : Int32 × mM => Ev (1) 44 12 [some (.ref 10), some (.ref o1), some (.int l2), some (.int s.1)] [] s.2 R) (Q := fun e : ((Unit × mM) ⊕ (Int32 × mM)) => (∀ s' : Int32 × mM, e = .inr s' → Ev (1) 44 2 [some (.ref 10), some (.ref o1), some (.int s'.1), none] [] (s'.2) R) ∧ (∀ e1 : (Unit × mM), e = .inl e1 → R = emW eU e1)) (fun s o hb h1 h2 => e_X5_sumUp_12 go1 hb ⟨h1, h2⟩) 100000 _ _ h hk
def f_X5_sumUp_2 (o1 : Nat) (l2 : Int32) (M0 : mM) : Option ((Unit × mM) ⊕ (Int32 × mM)) :=
  bif decide ((256 : Int32) ≤ l2) then (some (.inl ((), M0))) else (gd (mIn l2 256) (wr (mst M0 11 (ix l2) (0 : Int32)) (fun M9 => f_X5_sumUp_l12 o1 l2 (0 : Int32) M9)))
set_option maxRecDepth 8000 in
theorem e_X5_sumUp_2 {o1 : Nat} {l2 : Int32} {M0 : mM} {R : mZ} {out : ((Unit × mM) ⊕ (Int32 × mM))} (go1 : mA8B o1 = true) (h : f_X5_sumUp_2 o1 l2 M0 = some out) (hk : (∀ s' : Int32 × mM, out = .inr s' → Ev (1) 44 2 [some (.ref 10), some (.ref o1), some (.int s'.1), none] [] (s'.2) R) ∧ (∀ e1 : (Unit × mM), out = .inl e1 → R = emW eU e1)) : Ev (1) 44 2 [some (.ref 10), some (.ref o1), some (.int l2), none] [] M0 R := by
  unfold f_X5_sumUp_2 at h
  rcases o_bif h with ⟨hb8, h⟩ | ⟨hb8, h⟩
  · refine ev_goT kc_44 3 (t := 35) (e := 5) (L' := [some (.ref 10), some (.ref o1), some (.int l2), none]) (st' := []) rfl hb8 ?_
    obtain rfl := Option.some.inj h
    rw [show _ from (hk.2 _ rfl)]
    exact ev_vret kc_44 rfl rfl rfl
  · refine ev_goF kc_44 3 (t := 35) (e := 5) (L' := [some (.ref 10), some (.ref o1), some (.int l2), none]) (st' := []) rfl hb8 ?_
    refine ev_go kc_44 4 (i' := 9) (L' := [some (.ref 10), some (.ref o1), some (.int l2), none]) (st' := [.int (0 : Int32), .int l2, .ref 11]) (M' := M0) rfl ?_
    obtain ⟨hg10, h⟩ := o_gd h
    obtain ⟨M9, hM9, h⟩ := o_wr h
    refine ev_is kc_44 rfl rfl hg10 hM9 ?_
    refine ev_go kc_44 2 (i' := 12) (L' := [some (.ref 10), some (.ref o1), some (.int l2), some (.int (0 : Int32))]) (st' := []) (M' := M9) rfl ?_
    exact Ev.forget (mLe.kp (mLe.kp (mLe.kp (mLe.kp mLe.nl)))) (e_X5_sumUp_l12 go1 h hk)
def f_X5_sumUp_l2 (o1 : Nat) (l2 : Int32) (M0 : mM) : Option (Unit × mM) :=
  wh 100000 (fun s : Int32 × mM => f_X5_sumUp_2 o1 s.1 s.2) (l2, M0)
theorem e_X5_sumUp_l2 {o1 : Nat} {l2 : Int32} {M0 : mM} {R : mZ} {out : (Unit × mM)} (go1 : mA8B o1 = true) (h : f_X5_sumUp_l2 o1 l2 M0 = some out) (hk : R = emW eU out) : Ev (1) 44 2 [some (.ref 10), some (.ref o1), some (.int l2), none] [] M0 R := by
  unfold f_X5_sumUp_l2 at h
  exact wh_ev (P := fun s : Int32 × mM => Ev (1) 44 2 [some (.ref 10), some (.ref o1), some (.int s.1), none] [] s.2 R) (Q := fun e : (Unit × mM) => R = emW eU e) (fun s o hb h1 h2 => e_X5_sumUp_2 go1 hb ⟨h1, h2⟩) 100000 _ _ h hk
def f_X5_sumUp (o1 : Nat) (M0 : mM) : Option (Unit × mM) :=
  gd (mA8B o1) (f_X5_sumUp_l2 o1 (0 : Int32) M0)
set_option maxRecDepth 8000 in
theorem c_X5_sumUp {o1 : Nat} {M0 : mM} {out : (Unit × mM)} (h : f_X5_sumUp o1 M0 = some out) : Cs (1) 44 [.ref 10, .ref o1] M0 (emW eU out) := by
  generalize hk : emW eU out = R
  replace hk := hk.symm
  unfold f_X5_sumUp at h
  obtain ⟨go1, h⟩ := o_gd h
  show Ev (1) 44 0 [some (.ref 10), some (.ref o1), none, none] [] M0 R
  refine ev_go kc_44 2 (i' := 2) (L' := [some (.ref 10), some (.ref o1), some (.int (0 : Int32)), none]) (st' := []) (M' := M0) rfl ?_
  exact Ev.forget (mLe.kp (mLe.kp (mLe.kp (mLe.sk mLe.nl)))) (e_X5_sumUp_l2 go1 h hk)
