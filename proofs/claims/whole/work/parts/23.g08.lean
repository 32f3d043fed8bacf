/-! the methods, by program -/
/-- WakeTowerModel.withoutText(II)I: 249, R -/
theorem kc_249 : mKc 249 = k_X12_withoutText := rfl
def f_X12_withoutText (p1 : Int32) (p2 : Int32) (M0 : mM) : Option Int32 :=
  bif decide (¬ p1 = 0) then (bif decide (¬ p1 = (2 : Int32)) then (b1 (f_X12_holds p2 M0) (fun v3 => bif v3 then (some (0 : Int32)) else (some (10 : Int32)))) else (b1 (f_X12_of p2 (4 : Int32) M0) (fun v5 => some v5))) else (b1 (f_X12_holds p2 M0) (fun v6 => bif v6 then (some (5 : Int32)) else (some (0 : Int32))))
set_option maxRecDepth 8000 in
theorem c_X12_withoutText {p1 : Int32} {p2 : Int32} {M0 : mM} {out : Int32} (h : f_X12_withoutText p1 p2 M0 = some out) : Cs (4) 249 [.ref 215, .int p1, .int p2] M0 (emR eI M0 out) := by
  generalize hk : emR eI M0 out = R
  replace hk := hk.symm
  unfold f_X12_withoutText at h
  show Ev (4) 249 0 [some (.ref 215), some (.int p1), some (.int p2)] [] M0 R
  rcases o_bif h with ⟨hb1, h⟩ | ⟨hb1, h⟩
  · refine ev_goT kc_249 2 (t := 10) (e := 2) (L' := [some (.ref 215), some (.int p1), some (.int p2)]) (st' := []) rfl hb1 ?_
    rcases o_bif h with ⟨hb2, h⟩ | ⟨hb2, h⟩
    · refine ev_goT kc_249 3 (t := 18) (e := 13) (L' := [some (.ref 215), some (.int p1), some (.int p2)]) (st' := []) rfl hb2 ?_
      refine ev_go kc_249 2 (i' := 20) (L' := [some (.ref 215), some (.int p1), some (.int p2)]) (st' := [.int p2, .ref 215]) (M' := M0) rfl ?_
      obtain ⟨v3, hc3, h⟩ := o_b1 h
      refine ev_cl0 (ins := .invokevirtual 89) kc_249 rfl rfl (a := 196) (as := [.ref 215, .int p2]) (rest := []) rfl rfl (Cs.deep (c_X12_holds (M0 := M0) hc3) (by decide)) ?_
      rcases o_bif h with ⟨hb4, h⟩ | ⟨hb4, h⟩
      · refine ev_goF kc_249 1 (t := 24) (e := 22) (L' := [some (.ref 215), some (.int p1), some (.int p2)]) (st' := []) rfl (mB_e0f hb4) ?_
        refine ev_go kc_249 2 (i' := 25) (L' := [some (.ref 215), some (.int p1), some (.int p2)]) (st' := [.int (0 : Int32)]) (M' := M0) rfl ?_
        obtain rfl := Option.some.inj h
        rw [hk]
        exact ev_ret kc_249 rfl rfl rfl
      · refine ev_goT kc_249 1 (t := 24) (e := 22) (L' := [some (.ref 215), some (.int p1), some (.int p2)]) (st' := []) rfl (mB_e0t hb4) ?_
        refine ev_go kc_249 1 (i' := 25) (L' := [some (.ref 215), some (.int p1), some (.int p2)]) (st' := [.int (10 : Int32)]) (M' := M0) rfl ?_
        obtain rfl := Option.some.inj h
        rw [hk]
        exact ev_ret kc_249 rfl rfl rfl
    · refine ev_goF kc_249 3 (t := 18) (e := 13) (L' := [some (.ref 215), some (.int p1), some (.int p2)]) (st' := []) rfl hb2 ?_
      refine ev_go kc_249 3 (i' := 16) (L' := [some (.ref 215), some (.int p1), some (.int p2)]) (st' := [.int (4 : Int32), .int p2, .ref 215]) (M' := M0) rfl ?_
      obtain ⟨v5, hc5, h⟩ := o_b1 h
      refine ev_cl0 (ins := .invokevirtual 79) kc_249 rfl rfl (a := 193) (as := [.ref 215, .int p2, .int (4 : Int32)]) (rest := []) rfl rfl (Cs.deep (c_X12_of (M0 := M0) hc5) (by decide)) ?_
      refine ev_go kc_249 1 (i' := 25) (L' := [some (.ref 215), some (.int p1), some (.int p2)]) (st' := [.int v5]) (M' := M0) rfl ?_
      obtain rfl := Option.some.inj h
      rw [hk]
      exact ev_ret kc_249 rfl rfl rfl
  · refine ev_goF kc_249 2 (t := 10) (e := 2) (L' := [some (.ref 215), some (.int p1), some (.int p2)]) (st' := []) rfl hb1 ?_
    refine ev_go kc_249 2 (i' := 4) (L' := [some (.ref 215), some (.int p1), some (.int p2)]) (st' := [.int p2, .ref 215]) (M' := M0) rfl ?_
    obtain ⟨v6, hc6, h⟩ := o_b1 h
    refine ev_cl0 (ins := .invokevirtual 89) kc_249 rfl rfl (a := 196) (as := [.ref 215, .int p2]) (rest := []) rfl rfl (Cs.deep (c_X12_holds (M0 := M0) hc6) (by decide)) ?_
    rcases o_bif h with ⟨hb7, h⟩ | ⟨hb7, h⟩
    · refine ev_goF kc_249 1 (t := 8) (e := 6) (L' := [some (.ref 215), some (.int p1), some (.int p2)]) (st' := []) rfl (mB_e0f hb7) ?_
      refine ev_go kc_249 2 (i' := 9) (L' := [some (.ref 215), some (.int p1), some (.int p2)]) (st' := [.int (5 : Int32)]) (M' := M0) rfl ?_
      obtain rfl := Option.some.inj h
      rw [hk]
      exact ev_ret kc_249 rfl rfl rfl
    · refine ev_goT kc_249 1 (t := 8) (e := 6) (L' := [some (.ref 215), some (.int p1), some (.int p2)]) (st' := []) rfl (mB_e0t hb7) ?_
      refine ev_go kc_249 1 (i' := 9) (L' := [some (.ref 215), some (.int p1), some (.int p2)]) (st' := [.int (0 : Int32)]) (M' := M0) rfl ?_
      obtain rfl := Option.some.inj h
      rw [hk]
      exact ev_ret kc_249 rfl rfl rfl
/-- WakeTowerModel.byLaw(II)I: 250, W -/
theorem kc_250 : mKc 250 = k_X12_byLaw := rfl
def f_X12_byLaw_16 (l1 : Int32) (l2 : Int32) (l3 : Int32) (l4 : Int32) (M0 : mM) : Option ((Int32 × mM) ⊕ (Int32 × Int32 × mM)) :=
  bif decide ((M0 216 (ix (424 : Int32))) ≤ l4) then (some (.inl (l3, M0))) else (gd (mIn ((425 : Int32) + ((4 : Int32) * l4)) 2122) (bif decide (¬ (M0 216 (ix ((425 : Int32) + ((4 : Int32) * l4)))) = l1) then (some (.inr (l3, (l4 + (1 : Int32)), M0))) else (b2 (f_X12_holdsLine l4 l2 M0) (fun v4 M4 => bif v4 then (gd (mIn (((425 : Int32) + ((4 : Int32) * l4)) + (1 : Int32)) 2122) (some (.inr ((l3 + (M4 216 (ix (((425 : Int32) + ((4 : Int32) * l4)) + (1 : Int32))))), (l4 + (1 : Int32)), M4)))) else (some (.inr (l3, (l4 + (1 : Int32)), M4)))))))
set_option maxRecDepth 8000 in
theorem e_X12_byLaw_16 {l1 : Int32} {l2 : Int32} {l3 : Int32} {l4 : Int32} {M0 : mM} {R : mZ} {out : ((Int32 × mM) ⊕ (Int32 × Int32 × mM))}  (h : f_X12_byLaw_16 l1 l2 l3 l4 M0 = some out) (hk : (∀ s' : Int32 × Int32 × mM, out = .inr s' → Ev (10) 250 16 [some (.ref 215), some (.int l1), some (.int l2), some (.int s'.1), some (.int s'.2.1)] [] (s'.2.2) R) ∧ (∀ e1 : (Int32 × mM), out = .inl e1 → R = emW eI e1)) : Ev (10) 250 16 [some (.ref 215), some (.int l1), some (.int l2), some (.int l3), some (.int l4)] [] M0 R := by
  unfold f_X12_byLaw_16 at h
  refine ev_go kc_250 4 (i' := 20) (L' := [some (.ref 215), some (.int l1), some (.int l2), some (.int l3), some (.int l4)]) (st' := [.int (424 : Int32), .ref 216, .int l4]) (M' := M0) rfl ?_
  refine ev_ia kc_250 rfl rfl rfl ?_
  rcases o_bif h with ⟨hb1, h⟩ | ⟨hb1, h⟩
  · refine ev_goT kc_250 1 (t := 52) (e := 22) (L' := [some (.ref 215), some (.int l1), some (.int l2), some (.int l3), some (.int l4)]) (st' := []) rfl hb1 ?_
    refine ev_go kc_250 1 (i' := 53) (L' := [some (.ref 215), some (.int l1), some (.int l2), some (.int l3), some (.int l4)]) (st' := [.int l3]) (M' := M0) rfl ?_
    obtain rfl := Option.some.inj h
    rw [show _ from (hk.2 _ rfl)]
    exact ev_ret kc_250 rfl rfl rfl
  · refine ev_goF kc_250 1 (t := 52) (e := 22) (L' := [some (.ref 215), some (.int l1), some (.int l2), some (.int l3), some (.int l4)]) (st' := []) rfl hb1 ?_
    refine ev_go kc_250 7 (i' := 29) (L' := [some (.ref 215), some (.int l1), some (.int l2), some (.int l3), some (.int l4)]) (st' := [.int ((425 : Int32) + ((4 : Int32) * l4)), .ref 216]) (M' := M0) rfl ?_
    obtain ⟨hg2, h⟩ := o_gd h
    refine ev_ia kc_250 rfl rfl hg2 ?_
    rcases o_bif h with ⟨hb3, h⟩ | ⟨hb3, h⟩
    · refine ev_goT kc_250 2 (t := 50) (e := 32) (L' := [some (.ref 215), some (.int l1), some (.int l2), some (.int l3), some (.int l4)]) (st' := []) rfl hb3 ?_
      refine ev_go kc_250 2 (i' := 16) (L' := [some (.ref 215), some (.int l1), some (.int l2), some (.int l3), some (.int (l4 + (1 : Int32)))]) (st' := []) (M' := M0) rfl ?_
      obtain rfl := Option.some.inj h
      exact Ev.forget (mLe.kp (mLe.kp (mLe.kp (mLe.kp (mLe.kp mLe.nl))))) (hk.1 (l3, (l4 + (1 : Int32)), M0) rfl)
    · refine ev_goF kc_250 2 (t := 50) (e := 32) (L' := [some (.ref 215), some (.int l1), some (.int l2), some (.int l3), some (.int l4)]) (st' := []) rfl hb3 ?_
      refine ev_go kc_250 3 (i' := 35) (L' := [some (.ref 215), some (.int l1), some (.int l2), some (.int l3), some (.int l4)]) (st' := [.int l2, .int l4, .ref 215]) (M' := M0) rfl ?_
      obtain ⟨v4, M4, hc4, h⟩ := o_b2 h
      refine ev_cl0 (ins := .invokevirtual 320) kc_250 rfl rfl (a := 248) (as := [.ref 215, .int l4, .int l2]) (rest := []) rfl rfl (Cs.deep (c_X12_holdsLine hc4) (by decide)) ?_
      rcases o_bif h with ⟨hb5, h⟩ | ⟨hb5, h⟩
      · refine ev_goF kc_250 1 (t := 50) (e := 37) (L' := [some (.ref 215), some (.int l1), some (.int l2), some (.int l3), some (.int l4)]) (st' := []) rfl (mB_e0f hb5) ?_
        refine ev_go kc_250 10 (i' := 47) (L' := [some (.ref 215), some (.int l1), some (.int l2), some (.int l3), some (.int l4)]) (st' := [.int (((425 : Int32) + ((4 : Int32) * l4)) + (1 : Int32)), .ref 216, .int l3]) (M' := M4) rfl ?_
        obtain ⟨hg6, h⟩ := o_gd h
        refine ev_ia kc_250 rfl rfl hg6 ?_
        refine ev_go kc_250 4 (i' := 16) (L' := [some (.ref 215), some (.int l1), some (.int l2), some (.int (l3 + (M4 216 (ix (((425 : Int32) + ((4 : Int32) * l4)) + (1 : Int32)))))), some (.int (l4 + (1 : Int32)))]) (st' := []) (M' := M4) rfl ?_
        obtain rfl := Option.some.inj h
        exact Ev.forget (mLe.kp (mLe.kp (mLe.kp (mLe.kp (mLe.kp mLe.nl))))) (hk.1 ((l3 + (M4 216 (ix (((425 : Int32) + ((4 : Int32) * l4)) + (1 : Int32))))), (l4 + (1 : Int32)), M4) rfl)
      · refine ev_goT kc_250 1 (t := 50) (e := 37) (L' := [some (.ref 215), some (.int l1), some (.int l2), some (.int l3), some (.int l4)]) (st' := []) rfl (mB_e0t hb5) ?_
        refine ev_go kc_250 2 (i' := 16) (L' := [some (.ref 215), some (.int l1), some (.int l2), some (.int l3), some (.int (l4 + (1 : Int32)))]) (st' := []) (M' := M4) rfl ?_
        obtain rfl := Option.some.inj h
        exact Ev.forget (mLe.kp (mLe.kp (mLe.kp (mLe.kp (mLe.kp mLe.nl))))) (hk.1 (l3, (l4 + (1 : Int32)), M4) rfl)
def f_X12_byLaw_l16 (l1 : Int32) (l2 : Int32) (l3 : Int32) (l4 : Int32) (M0 : mM) : Option (Int32 × mM) :=
  wh 100000 (fun s : Int32 × Int32 × mM => f_X12_byLaw_16 l1 l2 s.1 s.2.1 s.2.2) (l3, l4, M0)
theorem e_X12_byLaw_l16 {l1 : Int32} {l2 : Int32} {l3 : Int32} {l4 : Int32} {M0 : mM} {R : mZ} {out : (Int32 × mM)}  (h : f_X12_byLaw_l16 l1 l2 l3 l4 M0 = some out) (hk : R = emW eI out) : Ev (10) 250 16 [some (.ref 215), some (.int l1), some (.int l2), some (.int l3), some (.int l4)] [] M0 R := by
  unfold f_X12_byLaw_l16 at h
  exact wh_ev (P := fun s : Int32 × Int32 × mM => Ev (10) 250 16 [some (.ref 215), some (.int l1), some (.int l2), some (.int s.1), some (.int s.2.1)] [] s.2.2 R) (Q := fun e : (Int32 × mM) => R = emW eI e) (fun s o hb h1 h2 => e_X12_byLaw_16  hb ⟨h1, h2⟩) 100000 _ _ h hk
def f_X12_byLaw (p1 : Int32) (p2 : Int32) (M0 : mM) : Option (Int32 × mM) :=
  bif decide (¬ (M0 216 (ix (2 : Int32))) = 0) then (b2 (f_X12_lays M0) (fun v8 M8 => f_X12_byLaw_l16 p1 p2 (0 : Int32) (0 : Int32) M8)) else (b1 (f_X12_withoutText p1 p2 M0) (fun v9 => some (v9, M0)))
set_option maxRecDepth 8000 in
theorem c_X12_byLaw {p1 : Int32} {p2 : Int32} {M0 : mM} {out : (Int32 × mM)} (h : f_X12_byLaw p1 p2 M0 = some out) : Cs (10) 250 [.ref 215, .int p1, .int p2] M0 (emW eI out) := by
  generalize hk : emW eI out = R
  replace hk := hk.symm
  unfold f_X12_byLaw at h
  show Ev (10) 250 0 [some (.ref 215), some (.int p1), some (.int p2), none, none] [] M0 R
  refine ev_go kc_250 3 (i' := 3) (L' := [some (.ref 215), some (.int p1), some (.int p2), none, none]) (st' := [.int (2 : Int32), .ref 216]) (M' := M0) rfl ?_
  refine ev_ia kc_250 rfl rfl rfl ?_
  rcases o_bif h with ⟨hb7, h⟩ | ⟨hb7, h⟩
  · refine ev_goT kc_250 1 (t := 10) (e := 5) (L' := [some (.ref 215), some (.int p1), some (.int p2), none, none]) (st' := []) rfl hb7 ?_
    refine ev_go kc_250 1 (i' := 11) (L' := [some (.ref 215), some (.int p1), some (.int p2), none, none]) (st' := [.ref 215]) (M' := M0) rfl ?_
    obtain ⟨v8, M8, hc8, h⟩ := o_b2 h
    refine ev_cl0 (ins := .invokevirtual 114) kc_250 rfl rfl (a := 204) (as := [.ref 215]) (rest := []) rfl rfl (Cs.deep (c_X12_lays hc8) (by decide)) ?_
    refine ev_go kc_250 4 (i' := 16) (L' := [some (.ref 215), some (.int p1), some (.int p2), some (.int (0 : Int32)), some (.int (0 : Int32))]) (st' := []) (M' := M8) rfl ?_
    exact Ev.forget (mLe.kp (mLe.kp (mLe.kp (mLe.kp (mLe.kp mLe.nl))))) (e_X12_byLaw_l16  h hk)
  · refine ev_goF kc_250 1 (t := 10) (e := 5) (L' := [some (.ref 215), some (.int p1), some (.int p2), none, none]) (st' := []) rfl hb7 ?_
    refine ev_go kc_250 3 (i' := 8) (L' := [some (.ref 215), some (.int p1), some (.int p2), none, none]) (st' := [.int p2, .int p1, .ref 215]) (M' := M0) rfl ?_
    obtain ⟨v9, hc9, h⟩ := o_b1 h
    refine ev_cl0 (ins := .invokevirtual 317) kc_250 rfl rfl (a := 249) (as := [.ref 215, .int p1, .int p2]) (rest := []) rfl rfl (Cs.deep (c_X12_withoutText (M0 := M0) hc9) (by decide)) ?_
    obtain rfl := Option.some.inj h
    rw [hk]
    exact ev_ret kc_250 rfl rfl rfl
/-- WakeTowerModel.spareOf(I)I: 251, W -/
theorem kc_251 : mKc 251 = k_X12_spareOf := rfl
def f_X12_spareOf (p1 : Int32) (M0 : mM) : Option (Int32 × mM) :=
  b1 (f_X12_of p1 (2 : Int32) M0) (fun v1 => b2 (f_X12_borneBy p1 M0) (fun v2 M2 => some ((v1 - v2), M2)))
set_option maxRecDepth 8000 in
theorem c_X12_spareOf {p1 : Int32} {M0 : mM} {out : (Int32 × mM)} (h : f_X12_spareOf p1 M0 = some out) : Cs (8) 251 [.ref 215, .int p1] M0 (emW eI out) := by
  generalize hk : emW eI out = R
  replace hk := hk.symm
  unfold f_X12_spareOf at h
  show Ev (8) 251 0 [some (.ref 215), some (.int p1)] [] M0 R
  refine ev_go kc_251 3 (i' := 3) (L' := [some (.ref 215), some (.int p1)]) (st' := [.int (2 : Int32), .int p1, .ref 215]) (M' := M0) rfl ?_
  obtain ⟨v1, hc1, h⟩ := o_b1 h
  refine ev_cl0 (ins := .invokevirtual 79) kc_251 rfl rfl (a := 193) (as := [.ref 215, .int p1, .int (2 : Int32)]) (rest := []) rfl rfl (Cs.deep (c_X12_of (M0 := M0) hc1) (by decide)) ?_
  refine ev_go kc_251 2 (i' := 6) (L' := [some (.ref 215), some (.int p1)]) (st' := [.int p1, .ref 215, .int v1]) (M' := M0) rfl ?_
  obtain ⟨v2, M2, hc2, h⟩ := o_b2 h
  refine ev_cl0 (ins := .invokevirtual 323) kc_251 rfl rfl (a := 205) (as := [.ref 215, .int p1]) (rest := [.int v1]) rfl rfl (Cs.deep (c_X12_borneBy hc2) (by decide)) ?_
  refine ev_go kc_251 1 (i' := 8) (L' := [some (.ref 215), some (.int p1)]) (st' := [.int (v1 - v2)]) (M' := M2) rfl ?_
  obtain rfl := Option.some.inj h
  rw [hk]
  exact ev_ret kc_251 rfl rfl rfl
/-- WakeTowerModel.shareOf(I)I: 252, W -/
theorem kc_252 : mKc 252 = k_X12_shareOf := rfl
def f_X12_shareOf (p1 : Int32) (M0 : mM) : Option (Int32 × mM) :=
  b2 (f_X12_borneByAll M0) (fun v1 M1 => bif decide (¬ v1 = 0) then (gd (mIn p1 8) (gd (decide (¬ v1 = 0)) (some ((((100 : Int32) * (M1 221 (ix p1))) / v1), M1)))) else (some ((0 : Int32), M1)))
set_option maxRecDepth 8000 in
theorem c_X12_shareOf {p1 : Int32} {M0 : mM} {out : (Int32 × mM)} (h : f_X12_shareOf p1 M0 = some out) : Cs (8) 252 [.ref 215, .int p1] M0 (emW eI out) := by
  generalize hk : emW eI out = R
  replace hk := hk.symm
  unfold f_X12_shareOf at h
  show Ev (8) 252 0 [some (.ref 215), some (.int p1), none] [] M0 R
  refine ev_go kc_252 1 (i' := 1) (L' := [some (.ref 215), some (.int p1), none]) (st' := [.ref 215]) (M' := M0) rfl ?_
  obtain ⟨v1, M1, hc1, h⟩ := o_b2 h
  refine ev_cl0 (ins := .invokevirtual 326) kc_252 rfl rfl (a := 206) (as := [.ref 215]) (rest := []) rfl rfl (Cs.deep (c_X12_borneByAll hc1) (by decide)) ?_
  rcases o_bif h with ⟨hb2, h⟩ | ⟨hb2, h⟩
  · refine ev_goT kc_252 3 (t := 7) (e := 5) (L' := [some (.ref 215), some (.int p1), some (.int v1)]) (st' := []) rfl hb2 ?_
    refine ev_go kc_252 4 (i' := 11) (L' := [some (.ref 215), some (.int p1), some (.int v1)]) (st' := [.int p1, .ref 221, .int (100 : Int32)]) (M' := M1) rfl ?_
    obtain ⟨hg3, h⟩ := o_gd h
    refine ev_ia kc_252 rfl rfl hg3 ?_
    refine ev_go kc_252 2 (i' := 14) (L' := [some (.ref 215), some (.int p1), some (.int v1)]) (st' := [.int v1, .int ((100 : Int32) * (M1 221 (ix p1)))]) (M' := M1) rfl ?_
    obtain ⟨hg4, h⟩ := o_gd h
    refine ev_dv kc_252 rfl hg4 ?_
    obtain rfl := Option.some.inj h
    rw [hk]
    exact ev_ret kc_252 rfl rfl rfl
  · refine ev_goF kc_252 3 (t := 7) (e := 5) (L' := [some (.ref 215), some (.int p1), some (.int v1)]) (st' := []) rfl hb2 ?_
    refine ev_go kc_252 2 (i' := 15) (L' := [some (.ref 215), some (.int p1), some (.int v1)]) (st' := [.int (0 : Int32)]) (M' := M1) rfl ?_
    obtain rfl := Option.some.inj h
    rw [hk]
    exact ev_ret kc_252 rfl rfl rfl
/-- WakeTowerModel.person(II)I: 253, W -/
theorem kc_253 : mKc 253 = k_X12_person := rfl
def f_X12_person_19 (l1 : Int32) (l2 : Int32) (s1 : Bool) (M0 : mM) : Option (Int32 × mM) :=
  b2 (f_X12_throwsIf s1 (2 : Int32) M0) (fun v1 M1 => bif v1 then (some ((0 : Int32), M1)) else (bif decide (swN l2 (5) 9 = 0) then (b1 (f_X12_isUp l1 M1) (fun v4 => bif v4 then (some ((1 : Int32), M1)) else (some ((0 : Int32), M1)))) else (bif decide (swN l2 (5) 9 = 1) then (b1 (f_X12_of l1 (5 : Int32) M1) (fun v7 => some (v7, M1))) else (bif decide (swN l2 (5) 9 = 2) then (b1 (f_X12_of l1 (6 : Int32) M1) (fun v9 => some (v9, M1))) else (bif decide (swN l2 (5) 9 = 3) then (b2 (f_X12_borneBy l1 M1) (fun v11 M11 => some (v11, M11))) else (bif decide (swN l2 (5) 9 = 4) then (b2 (f_X12_byLaw (0 : Int32) l1 M1) (fun v13 M13 => some (v13, M13))) else (bif decide (swN l2 (5) 9 = 5) then (b2 (f_X12_byLaw (1 : Int32) l1 M1) (fun v15 M15 => some (v15, M15))) else (bif decide (swN l2 (5) 9 = 6) then (b2 (f_X12_byLaw (2 : Int32) l1 M1) (fun v17 M17 => some (v17, M17))) else (bif decide (swN l2 (5) 9 = 7) then (b1 (f_X12_holds l1 M1) (fun v19 => bif v19 then (b2 (f_X12_spareOf l1 M1) (fun v21 M21 => some (v21, M21))) else (some ((0 : Int32), M1)))) else (bif decide (swN l2 (5) 9 = 8) then (b2 (f_X12_shareOf l1 M1) (fun v23 M23 => some (v23, M23))) else (b1 (f_X12_of l1 l2 M1) (fun v24 => some (v24, M1)))))))))))))
set_option maxRecDepth 8000 in
theorem e_X12_person_19 {l1 : Int32} {l2 : Int32} {s1 : Bool} {M0 : mM} {R : mZ} {out : (Int32 × mM)}  (h : f_X12_person_19 l1 l2 s1 M0 = some out) (hk : R = emW eI out) : Ev (11) 253 19 [some (.ref 215), some (.int l1), some (.int l2)] [.int (mB s1), .ref 215] M0 R := by
  unfold f_X12_person_19 at h
  refine ev_go kc_253 1 (i' := 20) (L' := [some (.ref 215), some (.int l1), some (.int l2)]) (st' := [.int (2 : Int32), .int (mB s1), .ref 215]) (M' := M0) rfl ?_
  obtain ⟨v1, M1, hc1, h⟩ := o_b2 h
  refine ev_cl0 (ins := .invokevirtual 304) kc_253 rfl rfl (a := 181) (as := [.ref 215, .int (mB s1), .int (2 : Int32)]) (rest := []) rfl rfl (Cs.deep (c_X12_throwsIf hc1) (by decide)) ?_
  rcases o_bif h with ⟨hb2, h⟩ | ⟨hb2, h⟩
  · refine ev_goF kc_253 1 (t := 24) (e := 22) (L' := [some (.ref 215), some (.int l1), some (.int l2)]) (st' := []) rfl (mB_e0f hb2) ?_
    refine ev_go kc_253 1 (i' := 23) (L' := [some (.ref 215), some (.int l1), some (.int l2)]) (st' := [.int (0 : Int32)]) (M' := M1) rfl ?_
    obtain rfl := Option.some.inj h
    rw [hk]
    exact ev_ret kc_253 rfl rfl rfl
  · refine ev_goT kc_253 1 (t := 24) (e := 22) (L' := [some (.ref 215), some (.int l1), some (.int l2)]) (st' := []) rfl (mB_e0t hb2) ?_
    refine ev_go kc_253 1 (i' := 25) (L' := [some (.ref 215), some (.int l1), some (.int l2)]) (st' := [.int l2]) (M' := M1) rfl ?_
    rcases o_bif h with ⟨hb3, h⟩ | ⟨hb3, h⟩
    · refine ev_sw kc_253 rfl (n := 9) (t := 26) rfl rfl hb3 rfl rfl ?_
      refine ev_go kc_253 2 (i' := 28) (L' := [some (.ref 215), some (.int l1), some (.int l2)]) (st' := [.int l1, .ref 215]) (M' := M1) rfl ?_
      obtain ⟨v4, hc4, h⟩ := o_b1 h
      refine ev_cl0 (ins := .invokevirtual 82) kc_253 rfl rfl (a := 194) (as := [.ref 215, .int l1]) (rest := []) rfl rfl (Cs.deep (c_X12_isUp (M0 := M1) hc4) (by decide)) ?_
      rcases o_bif h with ⟨hb5, h⟩ | ⟨hb5, h⟩
      · refine ev_goF kc_253 1 (t := 32) (e := 30) (L' := [some (.ref 215), some (.int l1), some (.int l2)]) (st' := []) rfl (mB_e0f hb5) ?_
        refine ev_go kc_253 2 (i' := 33) (L' := [some (.ref 215), some (.int l1), some (.int l2)]) (st' := [.int (1 : Int32)]) (M' := M1) rfl ?_
        obtain rfl := Option.some.inj h
        rw [hk]
        exact ev_ret kc_253 rfl rfl rfl
      · refine ev_goT kc_253 1 (t := 32) (e := 30) (L' := [some (.ref 215), some (.int l1), some (.int l2)]) (st' := []) rfl (mB_e0t hb5) ?_
        refine ev_go kc_253 1 (i' := 33) (L' := [some (.ref 215), some (.int l1), some (.int l2)]) (st' := [.int (0 : Int32)]) (M' := M1) rfl ?_
        obtain rfl := Option.some.inj h
        rw [hk]
        exact ev_ret kc_253 rfl rfl rfl
    rcases o_bif h with ⟨hb6, h⟩ | ⟨hb6, h⟩
    · refine ev_sw kc_253 rfl (n := 9) (t := 34) rfl rfl hb6 rfl rfl ?_
      refine ev_go kc_253 3 (i' := 37) (L' := [some (.ref 215), some (.int l1), some (.int l2)]) (st' := [.int (5 : Int32), .int l1, .ref 215]) (M' := M1) rfl ?_
      obtain ⟨v7, hc7, h⟩ := o_b1 h
      refine ev_cl0 (ins := .invokevirtual 79) kc_253 rfl rfl (a := 193) (as := [.ref 215, .int l1, .int (5 : Int32)]) (rest := []) rfl rfl (Cs.deep (c_X12_of (M0 := M1) hc7) (by decide)) ?_
      obtain rfl := Option.some.inj h
      rw [hk]
      exact ev_ret kc_253 rfl rfl rfl
    rcases o_bif h with ⟨hb8, h⟩ | ⟨hb8, h⟩
    · refine ev_sw kc_253 rfl (n := 9) (t := 39) rfl rfl hb8 rfl rfl ?_
      refine ev_go kc_253 3 (i' := 42) (L' := [some (.ref 215), some (.int l1), some (.int l2)]) (st' := [.int (6 : Int32), .int l1, .ref 215]) (M' := M1) rfl ?_
      obtain ⟨v9, hc9, h⟩ := o_b1 h
      refine ev_cl0 (ins := .invokevirtual 79) kc_253 rfl rfl (a := 193) (as := [.ref 215, .int l1, .int (6 : Int32)]) (rest := []) rfl rfl (Cs.deep (c_X12_of (M0 := M1) hc9) (by decide)) ?_
      obtain rfl := Option.some.inj h
      rw [hk]
      exact ev_ret kc_253 rfl rfl rfl
    rcases o_bif h with ⟨hb10, h⟩ | ⟨hb10, h⟩
    · refine ev_sw kc_253 rfl (n := 9) (t := 44) rfl rfl hb10 rfl rfl ?_
      refine ev_go kc_253 2 (i' := 46) (L' := [some (.ref 215), some (.int l1), some (.int l2)]) (st' := [.int l1, .ref 215]) (M' := M1) rfl ?_
      obtain ⟨v11, M11, hc11, h⟩ := o_b2 h
      refine ev_cl0 (ins := .invokevirtual 323) kc_253 rfl rfl (a := 205) (as := [.ref 215, .int l1]) (rest := []) rfl rfl (Cs.deep (c_X12_borneBy hc11) (by decide)) ?_
      obtain rfl := Option.some.inj h
      rw [hk]
      exact ev_ret kc_253 rfl rfl rfl
    rcases o_bif h with ⟨hb12, h⟩ | ⟨hb12, h⟩
    · refine ev_sw kc_253 rfl (n := 9) (t := 48) rfl rfl hb12 rfl rfl ?_
      refine ev_go kc_253 3 (i' := 51) (L' := [some (.ref 215), some (.int l1), some (.int l2)]) (st' := [.int l1, .int (0 : Int32), .ref 215]) (M' := M1) rfl ?_
      obtain ⟨v13, M13, hc13, h⟩ := o_b2 h
      refine ev_cl0 (ins := .invokevirtual 332) kc_253 rfl rfl (a := 250) (as := [.ref 215, .int (0 : Int32), .int l1]) (rest := []) rfl rfl (Cs.deep (c_X12_byLaw hc13) (by decide)) ?_
      obtain rfl := Option.some.inj h
      rw [hk]
      exact ev_ret kc_253 rfl rfl rfl
    rcases o_bif h with ⟨hb14, h⟩ | ⟨hb14, h⟩
    · refine ev_sw kc_253 rfl (n := 9) (t := 53) rfl rfl hb14 rfl rfl ?_
      refine ev_go kc_253 3 (i' := 56) (L' := [some (.ref 215), some (.int l1), some (.int l2)]) (st' := [.int l1, .int (1 : Int32), .ref 215]) (M' := M1) rfl ?_
      obtain ⟨v15, M15, hc15, h⟩ := o_b2 h
      refine ev_cl0 (ins := .invokevirtual 332) kc_253 rfl rfl (a := 250) (as := [.ref 215, .int (1 : Int32), .int l1]) (rest := []) rfl rfl (Cs.deep (c_X12_byLaw hc15) (by decide)) ?_
      obtain rfl := Option.some.inj h
      rw [hk]
      exact ev_ret kc_253 rfl rfl rfl
    rcases o_bif h with ⟨hb16, h⟩ | ⟨hb16, h⟩
    · refine ev_sw kc_253 rfl (n := 9) (t := 58) rfl rfl hb16 rfl rfl ?_
      refine ev_go kc_253 3 (i' := 61) (L' := [some (.ref 215), some (.int l1), some (.int l2)]) (st' := [.int l1, .int (2 : Int32), .ref 215]) (M' := M1) rfl ?_
      obtain ⟨v17, M17, hc17, h⟩ := o_b2 h
      refine ev_cl0 (ins := .invokevirtual 332) kc_253 rfl rfl (a := 250) (as := [.ref 215, .int (2 : Int32), .int l1]) (rest := []) rfl rfl (Cs.deep (c_X12_byLaw hc17) (by decide)) ?_
      obtain rfl := Option.some.inj h
      rw [hk]
      exact ev_ret kc_253 rfl rfl rfl
    rcases o_bif h with ⟨hb18, h⟩ | ⟨hb18, h⟩
    · refine ev_sw kc_253 rfl (n := 9) (t := 63) rfl rfl hb18 rfl rfl ?_
      refine ev_go kc_253 2 (i' := 65) (L' := [some (.ref 215), some (.int l1), some (.int l2)]) (st' := [.int l1, .ref 215]) (M' := M1) rfl ?_
      obtain ⟨v19, hc19, h⟩ := o_b1 h
      refine ev_cl0 (ins := .invokevirtual 89) kc_253 rfl rfl (a := 196) (as := [.ref 215, .int l1]) (rest := []) rfl rfl (Cs.deep (c_X12_holds (M0 := M1) hc19) (by decide)) ?_
      rcases o_bif h with ⟨hb20, h⟩ | ⟨hb20, h⟩
      · refine ev_goF kc_253 1 (t := 71) (e := 67) (L' := [some (.ref 215), some (.int l1), some (.int l2)]) (st' := []) rfl (mB_e0f hb20) ?_
        refine ev_go kc_253 2 (i' := 69) (L' := [some (.ref 215), some (.int l1), some (.int l2)]) (st' := [.int l1, .ref 215]) (M' := M1) rfl ?_
        obtain ⟨v21, M21, hc21, h⟩ := o_b2 h
        refine ev_cl0 (ins := .invokevirtual 335) kc_253 rfl rfl (a := 251) (as := [.ref 215, .int l1]) (rest := []) rfl rfl (Cs.deep (c_X12_spareOf hc21) (by decide)) ?_
        refine ev_go kc_253 1 (i' := 72) (L' := [some (.ref 215), some (.int l1), some (.int l2)]) (st' := [.int v21]) (M' := M21) rfl ?_
        obtain rfl := Option.some.inj h
        rw [hk]
        exact ev_ret kc_253 rfl rfl rfl
      · refine ev_goT kc_253 1 (t := 71) (e := 67) (L' := [some (.ref 215), some (.int l1), some (.int l2)]) (st' := []) rfl (mB_e0t hb20) ?_
        refine ev_go kc_253 1 (i' := 72) (L' := [some (.ref 215), some (.int l1), some (.int l2)]) (st' := [.int (0 : Int32)]) (M' := M1) rfl ?_
        obtain rfl := Option.some.inj h
        rw [hk]
        exact ev_ret kc_253 rfl rfl rfl
    rcases o_bif h with ⟨hb22, h⟩ | ⟨hb22, h⟩
    · refine ev_sw kc_253 rfl (n := 9) (t := 73) rfl rfl hb22 rfl rfl ?_
      refine ev_go kc_253 2 (i' := 75) (L' := [some (.ref 215), some (.int l1), some (.int l2)]) (st' := [.int l1, .ref 215]) (M' := M1) rfl ?_
      obtain ⟨v23, M23, hc23, h⟩ := o_b2 h
      refine ev_cl0 (ins := .invokevirtual 338) kc_253 rfl rfl (a := 252) (as := [.ref 215, .int l1]) (rest := []) rfl rfl (Cs.deep (c_X12_shareOf hc23) (by decide)) ?_
      obtain rfl := Option.some.inj h
      rw [hk]
      exact ev_ret kc_253 rfl rfl rfl
    have hsw : swN l2 (5) 9 = 9 := by
      have := swN_le l2 (5) 9
      have hb3 := of_decide_eq_false hb3
      have hb6 := of_decide_eq_false hb6
      have hb8 := of_decide_eq_false hb8
      have hb10 := of_decide_eq_false hb10
      have hb12 := of_decide_eq_false hb12
      have hb14 := of_decide_eq_false hb14
      have hb16 := of_decide_eq_false hb16
      have hb18 := of_decide_eq_false hb18
      have hb22 := of_decide_eq_false hb22
      omega
    refine ev_swD kc_253 rfl (n := 9) rfl rfl hsw ?_
    refine ev_go kc_253 3 (i' := 80) (L' := [some (.ref 215), some (.int l1), some (.int l2)]) (st' := [.int l2, .int l1, .ref 215]) (M' := M1) rfl ?_
    obtain ⟨v24, hc24, h⟩ := o_b1 h
    refine ev_cl0 (ins := .invokevirtual 79) kc_253 rfl rfl (a := 193) (as := [.ref 215, .int l1, .int l2]) (rest := []) rfl rfl (Cs.deep (c_X12_of (M0 := M1) hc24) (by decide)) ?_
    obtain rfl := Option.some.inj h
    rw [hk]
    exact ev_ret kc_253 rfl rfl rfl
def f_X12_person (p1 : Int32) (p2 : Int32) (M0 : mM) : Option (Int32 × mM) :=
  wr (mst M0 215 0 (0 : Int32)) (fun M25 => b1 (f_X12_nobody p1 M25) (fun v26 => b2 (f_X12_throwsIf v26 (1 : Int32) M25) (fun v27 M27 => bif v27 then (some ((0 : Int32), M27)) else (bif (f_X12_in p2 (0 : Int32) (13 : Int32)) then (f_X12_person_19 p1 p2 false M27) else (f_X12_person_19 p1 p2 true M27)))))
set_option maxRecDepth 8000 in
theorem c_X12_person {p1 : Int32} {p2 : Int32} {M0 : mM} {out : (Int32 × mM)} (h : f_X12_person p1 p2 M0 = some out) : Cs (11) 253 [.ref 215, .int p1, .int p2] M0 (emW eI out) := by
  generalize hk : emW eI out = R
  replace hk := hk.symm
  unfold f_X12_person at h
  show Ev (11) 253 0 [some (.ref 215), some (.int p1), some (.int p2)] [] M0 R
  refine ev_go kc_253 2 (i' := 2) (L' := [some (.ref 215), some (.int p1), some (.int p2)]) (st' := [.int (0 : Int32), .ref 215]) (M' := M0) rfl ?_
  obtain ⟨M25, hM25, h⟩ := o_wr h
  refine ev_pf kc_253 rfl rfl rfl rfl (fun hc => absurd hc (by decide)) hM25 ?_
  refine ev_go kc_253 3 (i' := 6) (L' := [some (.ref 215), some (.int p1), some (.int p2)]) (st' := [.int p1, .ref 215, .ref 215]) (M' := M25) rfl ?_
  obtain ⟨v26, hc26, h⟩ := o_b1 h
  refine ev_cl0 (ins := .invokevirtual 329) kc_253 rfl rfl (a := 201) (as := [.ref 215, .int p1]) (rest := [.ref 215]) rfl rfl (Cs.deep (c_X12_nobody (M0 := M25) hc26) (by decide)) ?_
  refine ev_go kc_253 1 (i' := 8) (L' := [some (.ref 215), some (.int p1), some (.int p2)]) (st' := [.int (1 : Int32), .int (mB v26), .ref 215]) (M' := M25) rfl ?_
  obtain ⟨v27, M27, hc27, h⟩ := o_b2 h
  refine ev_cl0 (ins := .invokevirtual 304) kc_253 rfl rfl (a := 181) (as := [.ref 215, .int (mB v26), .int (1 : Int32)]) (rest := []) rfl rfl (Cs.deep (c_X12_throwsIf hc27) (by decide)) ?_
  rcases o_bif h with ⟨hb28, h⟩ | ⟨hb28, h⟩
  · refine ev_goT kc_253 1 (t := 22) (e := 10) (L' := [some (.ref 215), some (.int p1), some (.int p2)]) (st' := []) rfl (mB_n0t hb28) ?_
    refine ev_go kc_253 1 (i' := 23) (L' := [some (.ref 215), some (.int p1), some (.int p2)]) (st' := [.int (0 : Int32)]) (M' := M27) rfl ?_
    obtain rfl := Option.some.inj h
    rw [hk]
    exact ev_ret kc_253 rfl rfl rfl
  · refine ev_goF kc_253 1 (t := 22) (e := 10) (L' := [some (.ref 215), some (.int p1), some (.int p2)]) (st' := []) rfl (mB_n0f hb28) ?_
    refine ev_go kc_253 4 (i' := 14) (L' := [some (.ref 215), some (.int p1), some (.int p2)]) (st' := [.int (13 : Int32), .int (0 : Int32), .int p2, .ref 215]) (M' := M27) rfl ?_
    refine ev_cl0 (ins := .invokestatic 92) kc_253 rfl rfl (a := 182) (as := [.int p2, .int (0 : Int32), .int (13 : Int32)]) (rest := [.ref 215]) rfl rfl (Cs.deep (c_X12_in (M0 := M27)) (by decide)) ?_
    rcases o_bif h with ⟨hb30, h⟩ | ⟨hb30, h⟩
    · refine ev_goT kc_253 1 (t := 18) (e := 16) (L' := [some (.ref 215), some (.int p1), some (.int p2)]) (st' := [.ref 215]) rfl (mB_n0t hb30) ?_
      refine ev_go kc_253 1 (i' := 19) (L' := [some (.ref 215), some (.int p1), some (.int p2)]) (st' := [.int (0 : Int32), .ref 215]) (M' := M27) rfl ?_
      exact Ev.forget (mLe.kp (mLe.kp (mLe.kp mLe.nl))) (e_X12_person_19  h hk)
    · refine ev_goF kc_253 1 (t := 18) (e := 16) (L' := [some (.ref 215), some (.int p1), some (.int p2)]) (st' := [.ref 215]) rfl (mB_n0f hb30) ?_
      refine ev_go kc_253 2 (i' := 19) (L' := [some (.ref 215), some (.int p1), some (.int p2)]) (st' := [.int (1 : Int32), .ref 215]) (M' := M27) rfl ?_
      exact Ev.forget (mLe.kp (mLe.kp (mLe.kp mLe.nl))) (e_X12_person_19  h hk)
/-- WakeTowerModel.tires()V: 254, W -/
theorem kc_254 : mKc 254 = k_X12_tires := rfl
def f_X12_tires_68 (l1 : Int32) (s1 : Int32) (s2 : Int32) (M0 : mM) : Option ((Unit × mM) ⊕ (Int32 × mM)) :=
  gd (mIn s1 2122) (wr (mst M0 216 (ix s1) s2) (fun M1 => some (.inr ((l1 + (1 : Int32)), M1))))
set_option maxRecDepth 8000 in
theorem e_X12_tires_68 {l1 : Int32} {s1 : Int32} {s2 : Int32} {M0 : mM} {R : mZ} {out : ((Unit × mM) ⊕ (Int32 × mM))}  (h : f_X12_tires_68 l1 s1 s2 M0 = some out) (hk : (∀ s' : Int32 × mM, out = .inr s' → Ev (11) 254 35 [some (.ref 215), some (.int s'.1)] [] (s'.2) R) ∧ (∀ e1 : (Unit × mM), out = .inl e1 → R = emW eU e1)) : Ev (11) 254 68 [some (.ref 215), some (.int l1)] [.int s2, .int s1, .ref 216] M0 R := by
  unfold f_X12_tires_68 at h
  obtain ⟨hg2, h⟩ := o_gd h
  obtain ⟨M1, hM1, h⟩ := o_wr h
  refine ev_is kc_254 rfl rfl hg2 hM1 ?_
  refine ev_go kc_254 2 (i' := 35) (L' := [some (.ref 215), some (.int (l1 + (1 : Int32)))]) (st' := []) (M' := M1) rfl ?_
  obtain rfl := Option.some.inj h
  exact Ev.forget (mLe.kp (mLe.kp mLe.nl)) (hk.1 ((l1 + (1 : Int32)), M1) rfl)
def f_X12_tires_35 (l1 : Int32) (M0 : mM) : Option ((Unit × mM) ⊕ (Int32 × mM)) :=
  b1 (f_X12_people M0) (fun v3 => bif decide (v3 ≤ l1) then (some (.inl ((), M0))) else (gd (mIn l1 8) (gd (mIn (f_X12_at l1 (2 : Int32)) 2122) (wr (mst M0 216 (ix (f_X12_at l1 (2 : Int32))) (M0 226 (ix l1))) (fun M7 => b1 (f_X12_holds l1 M7) (fun v10 => bif v10 then (b1 (f_X12_of l1 (4 : Int32) M7) (fun v12 => f_X12_tires_68 l1 (f_X12_at l1 (4 : Int32)) (mMin (99 : Int32) (v12 + (1 : Int32))) M7)) else (f_X12_tires_68 l1 (f_X12_at l1 (4 : Int32)) (0 : Int32) M7)))))))
set_option maxRecDepth 8000 in
theorem e_X12_tires_35 {l1 : Int32} {M0 : mM} {R : mZ} {out : ((Unit × mM) ⊕ (Int32 × mM))}  (h : f_X12_tires_35 l1 M0 = some out) (hk : (∀ s' : Int32 × mM, out = .inr s' → Ev (11) 254 35 [some (.ref 215), some (.int s'.1)] [] (s'.2) R) ∧ (∀ e1 : (Unit × mM), out = .inl e1 → R = emW eU e1)) : Ev (11) 254 35 [some (.ref 215), some (.int l1)] [] M0 R := by
  unfold f_X12_tires_35 at h
  refine ev_go kc_254 2 (i' := 37) (L' := [some (.ref 215), some (.int l1)]) (st' := [.ref 215, .int l1]) (M' := M0) rfl ?_
  obtain ⟨v3, hc3, h⟩ := o_b1 h
  refine ev_cl0 (ins := .invokevirtual 71) kc_254 rfl rfl (a := 190) (as := [.ref 215]) (rest := [.int l1]) rfl rfl (Cs.deep (c_X12_people (M0 := M0) hc3) (by decide)) ?_
  rcases o_bif h with ⟨hb4, h⟩ | ⟨hb4, h⟩
  · refine ev_goT kc_254 1 (t := 71) (e := 39) (L' := [some (.ref 215), some (.int l1)]) (st' := []) rfl hb4 ?_
    obtain rfl := Option.some.inj h
    rw [show _ from (hk.2 _ rfl)]
    exact ev_vret kc_254 rfl rfl rfl
  · refine ev_goF kc_254 1 (t := 71) (e := 39) (L' := [some (.ref 215), some (.int l1)]) (st' := []) rfl hb4 ?_
    refine ev_go kc_254 4 (i' := 43) (L' := [some (.ref 215), some (.int l1)]) (st' := [.int (2 : Int32), .int l1, .ref 216]) (M' := M0) rfl ?_
    refine ev_cl0 (ins := .invokestatic 75) kc_254 rfl rfl (a := 192) (as := [.int l1, .int (2 : Int32)]) (rest := [.ref 216]) rfl rfl (Cs.deep (c_X12_at (M0 := M0)) (by decide)) ?_
    refine ev_go kc_254 3 (i' := 47) (L' := [some (.ref 215), some (.int l1)]) (st' := [.int l1, .ref 226, .int (f_X12_at l1 (2 : Int32)), .ref 216]) (M' := M0) rfl ?_
    obtain ⟨hg6, h⟩ := o_gd h
    refine ev_ia kc_254 rfl rfl hg6 ?_
    obtain ⟨hg8, h⟩ := o_gd h
    obtain ⟨M7, hM7, h⟩ := o_wr h
    refine ev_is kc_254 rfl rfl hg8 hM7 ?_
    refine ev_go kc_254 4 (i' := 53) (L' := [some (.ref 215), some (.int l1)]) (st' := [.int (4 : Int32), .int l1, .ref 216]) (M' := M7) rfl ?_
    refine ev_cl0 (ins := .invokestatic 75) kc_254 rfl rfl (a := 192) (as := [.int l1, .int (4 : Int32)]) (rest := [.ref 216]) rfl rfl (Cs.deep (c_X12_at (M0 := M7)) (by decide)) ?_
    refine ev_go kc_254 2 (i' := 56) (L' := [some (.ref 215), some (.int l1)]) (st' := [.int l1, .ref 215, .int (f_X12_at l1 (4 : Int32)), .ref 216]) (M' := M7) rfl ?_
    obtain ⟨v10, hc10, h⟩ := o_b1 h
    refine ev_cl0 (ins := .invokevirtual 89) kc_254 rfl rfl (a := 196) (as := [.ref 215, .int l1]) (rest := [.int (f_X12_at l1 (4 : Int32)), .ref 216]) rfl rfl (Cs.deep (c_X12_holds (M0 := M7) hc10) (by decide)) ?_
    rcases o_bif h with ⟨hb11, h⟩ | ⟨hb11, h⟩
    · refine ev_goF kc_254 1 (t := 67) (e := 58) (L' := [some (.ref 215), some (.int l1)]) (st' := [.int (f_X12_at l1 (4 : Int32)), .ref 216]) rfl (mB_e0f hb11) ?_
      refine ev_go kc_254 4 (i' := 62) (L' := [some (.ref 215), some (.int l1)]) (st' := [.int (4 : Int32), .int l1, .ref 215, .int (99 : Int32), .int (f_X12_at l1 (4 : Int32)), .ref 216]) (M' := M7) rfl ?_
      obtain ⟨v12, hc12, h⟩ := o_b1 h
      refine ev_cl0 (ins := .invokevirtual 79) kc_254 rfl rfl (a := 193) (as := [.ref 215, .int l1, .int (4 : Int32)]) (rest := [.int (99 : Int32), .int (f_X12_at l1 (4 : Int32)), .ref 216]) rfl rfl (Cs.deep (c_X12_of (M0 := M7) hc12) (by decide)) ?_
      refine ev_go kc_254 2 (i' := 65) (L' := [some (.ref 215), some (.int l1)]) (st' := [.int (v12 + (1 : Int32)), .int (99 : Int32), .int (f_X12_at l1 (4 : Int32)), .ref 216]) (M' := M7) rfl ?_
      refine ev_pm kc_254 rfl rfl rfl rfl (as := [.int (99 : Int32), .int (v12 + (1 : Int32))]) (rest := [.int (f_X12_at l1 (4 : Int32)), .ref 216]) rfl rfl rfl (v := some (mMin (99 : Int32) (v12 + (1 : Int32)))) rfl ?_
      refine ev_go kc_254 1 (i' := 68) (L' := [some (.ref 215), some (.int l1)]) (st' := [.int (mMin (99 : Int32) (v12 + (1 : Int32))), .int (f_X12_at l1 (4 : Int32)), .ref 216]) (M' := M7) rfl ?_
      exact Ev.forget (mLe.kp (mLe.kp mLe.nl)) (e_X12_tires_68  h hk)
    · refine ev_goT kc_254 1 (t := 67) (e := 58) (L' := [some (.ref 215), some (.int l1)]) (st' := [.int (f_X12_at l1 (4 : Int32)), .ref 216]) rfl (mB_e0t hb11) ?_
      refine ev_go kc_254 1 (i' := 68) (L' := [some (.ref 215), some (.int l1)]) (st' := [.int (0 : Int32), .int (f_X12_at l1 (4 : Int32)), .ref 216]) (M' := M7) rfl ?_
      exact Ev.forget (mLe.kp (mLe.kp mLe.nl)) (e_X12_tires_68  h hk)
def f_X12_tires_l35 (l1 : Int32) (M0 : mM) : Option (Unit × mM) :=
  wh 100000 (fun s : Int32 × mM => f_X12_tires_35 s.1 s.2) (l1, M0)
theorem e_X12_tires_l35 {l1 : Int32} {M0 : mM} {R : mZ} {out : (Unit × mM)}  (h : f_X12_tires_l35 l1 M0 = some out) (hk : R = emW eU out) : Ev (11) 254 35 [some (.ref 215), some (.int l1)] [] M0 R := by
  unfold f_X12_tires_l35 at h
  exact wh_ev (P := fun s : Int32 × mM => Ev (11) 254 35 [some (.ref 215), some (.int s.1)] [] s.2 R) (Q := fun e : (Unit × mM) => R = emW eU e) (fun s o hb h1 h2 => e_X12_tires_35  hb ⟨h1, h2⟩) 100000 _ _ h hk
def f_X12_tires_2 (l1 : Int32) (M0 : mM) : Option ((Unit × mM) ⊕ (Int32 × mM)) :=
  b1 (f_X12_people M0) (fun v13 => bif decide (v13 ≤ l1) then (b1 (f_X12_tires_l35 (0 : Int32) M0) (fun r15 => some (.inl r15))) else (b1 (f_X12_of l1 (1 : Int32) M0) (fun v16 => b1 (f_X12_of l1 (2 : Int32) M0) (fun v17 => b2 (f_X12_byLaw (0 : Int32) l1 M0) (fun v18 M18 => b2 (f_X12_byLaw (1 : Int32) l1 M18) (fun v19 M19 => gd (mIn l1 8) (wr (mst M19 226 (ix l1) (mMin v16 ((mMax (0 : Int32) (v17 - v18)) + v19))) (fun M20 => some (.inr ((l1 + (1 : Int32)), M20))))))))))
set_option maxRecDepth 8000 in
theorem e_X12_tires_2 {l1 : Int32} {M0 : mM} {R : mZ} {out : ((Unit × mM) ⊕ (Int32 × mM))}  (h : f_X12_tires_2 l1 M0 = some out) (hk : (∀ s' : Int32 × mM, out = .inr s' → Ev (11) 254 2 [some (.ref 215), some (.int s'.1)] [] (s'.2) R) ∧ (∀ e1 : (Unit × mM), out = .inl e1 → R = emW eU e1)) : Ev (11) 254 2 [some (.ref 215), some (.int l1)] [] M0 R := by
  unfold f_X12_tires_2 at h
  refine ev_go kc_254 2 (i' := 4) (L' := [some (.ref 215), some (.int l1)]) (st' := [.ref 215, .int l1]) (M' := M0) rfl ?_
  obtain ⟨v13, hc13, h⟩ := o_b1 h
  refine ev_cl0 (ins := .invokevirtual 71) kc_254 rfl rfl (a := 190) (as := [.ref 215]) (rest := [.int l1]) rfl rfl (Cs.deep (c_X12_people (M0 := M0) hc13) (by decide)) ?_
  rcases o_bif h with ⟨hb14, h⟩ | ⟨hb14, h⟩
  · refine ev_goT kc_254 1 (t := 33) (e := 6) (L' := [some (.ref 215), some (.int l1)]) (st' := []) rfl hb14 ?_
    refine ev_go kc_254 2 (i' := 35) (L' := [some (.ref 215), some (.int (0 : Int32))]) (st' := []) (M' := M0) rfl ?_
    obtain ⟨r15, hr15, h⟩ := o_b1 h
    obtain rfl := Option.some.inj h
    exact Ev.forget (mLe.kp (mLe.kp mLe.nl)) (e_X12_tires_l35  hr15 (hk.2 _ rfl))
  · refine ev_goF kc_254 1 (t := 33) (e := 6) (L' := [some (.ref 215), some (.int l1)]) (st' := []) rfl hb14 ?_
    refine ev_go kc_254 6 (i' := 12) (L' := [some (.ref 215), some (.int l1)]) (st' := [.int (1 : Int32), .int l1, .ref 215, .int l1, .ref 226]) (M' := M0) rfl ?_
    obtain ⟨v16, hc16, h⟩ := o_b1 h
    refine ev_cl0 (ins := .invokevirtual 79) kc_254 rfl rfl (a := 193) (as := [.ref 215, .int l1, .int (1 : Int32)]) (rest := [.int l1, .ref 226]) rfl rfl (Cs.deep (c_X12_of (M0 := M0) hc16) (by decide)) ?_
    refine ev_go kc_254 4 (i' := 17) (L' := [some (.ref 215), some (.int l1)]) (st' := [.int (2 : Int32), .int l1, .ref 215, .int (0 : Int32), .int v16, .int l1, .ref 226]) (M' := M0) rfl ?_
    obtain ⟨v17, hc17, h⟩ := o_b1 h
    refine ev_cl0 (ins := .invokevirtual 79) kc_254 rfl rfl (a := 193) (as := [.ref 215, .int l1, .int (2 : Int32)]) (rest := [.int (0 : Int32), .int v16, .int l1, .ref 226]) rfl rfl (Cs.deep (c_X12_of (M0 := M0) hc17) (by decide)) ?_
    refine ev_go kc_254 3 (i' := 21) (L' := [some (.ref 215), some (.int l1)]) (st' := [.int l1, .int (0 : Int32), .ref 215, .int v17, .int (0 : Int32), .int v16, .int l1, .ref 226]) (M' := M0) rfl ?_
    obtain ⟨v18, M18, hc18, h⟩ := o_b2 h
    refine ev_cl0 (ins := .invokevirtual 332) kc_254 rfl rfl (a := 250) (as := [.ref 215, .int (0 : Int32), .int l1]) (rest := [.int v17, .int (0 : Int32), .int v16, .int l1, .ref 226]) rfl rfl (Cs.deep (c_X12_byLaw hc18) (by decide)) ?_
    refine ev_go kc_254 1 (i' := 23) (L' := [some (.ref 215), some (.int l1)]) (st' := [.int (v17 - v18), .int (0 : Int32), .int v16, .int l1, .ref 226]) (M' := M18) rfl ?_
    refine ev_pm kc_254 rfl rfl rfl rfl (as := [.int (0 : Int32), .int (v17 - v18)]) (rest := [.int v16, .int l1, .ref 226]) rfl rfl rfl (v := some (mMax (0 : Int32) (v17 - v18))) rfl ?_
    refine ev_go kc_254 3 (i' := 27) (L' := [some (.ref 215), some (.int l1)]) (st' := [.int l1, .int (1 : Int32), .ref 215, .int (mMax (0 : Int32) (v17 - v18)), .int v16, .int l1, .ref 226]) (M' := M18) rfl ?_
    obtain ⟨v19, M19, hc19, h⟩ := o_b2 h
    refine ev_cl0 (ins := .invokevirtual 332) kc_254 rfl rfl (a := 250) (as := [.ref 215, .int (1 : Int32), .int l1]) (rest := [.int (mMax (0 : Int32) (v17 - v18)), .int v16, .int l1, .ref 226]) rfl rfl (Cs.deep (c_X12_byLaw hc19) (by decide)) ?_
    refine ev_go kc_254 1 (i' := 29) (L' := [some (.ref 215), some (.int l1)]) (st' := [.int ((mMax (0 : Int32) (v17 - v18)) + v19), .int v16, .int l1, .ref 226]) (M' := M19) rfl ?_
    refine ev_pm kc_254 rfl rfl rfl rfl (as := [.int v16, .int ((mMax (0 : Int32) (v17 - v18)) + v19)]) (rest := [.int l1, .ref 226]) rfl rfl rfl (v := some (mMin v16 ((mMax (0 : Int32) (v17 - v18)) + v19))) rfl ?_
    obtain ⟨hg21, h⟩ := o_gd h
    obtain ⟨M20, hM20, h⟩ := o_wr h
    refine ev_is kc_254 rfl rfl hg21 hM20 ?_
    refine ev_go kc_254 2 (i' := 2) (L' := [some (.ref 215), some (.int (l1 + (1 : Int32)))]) (st' := []) (M' := M20) rfl ?_
    obtain rfl := Option.some.inj h
    exact Ev.forget (mLe.kp (mLe.kp mLe.nl)) (hk.1 ((l1 + (1 : Int32)), M20) rfl)
def f_X12_tires_l2 (l1 : Int32) (M0 : mM) : Option (Unit × mM) :=
  wh 100000 (fun s : Int32 × mM => f_X12_tires_2 s.1 s.2) (l1, M0)
theorem e_X12_tires_l2 {l1 : Int32} {M0 : mM} {R : mZ} {out : (Unit × mM)}  (h : f_X12_tires_l2 l1 M0 = some out) (hk : R = emW eU out) : Ev (11) 254 2 [some (.ref 215), some (.int l1)] [] M0 R := by
  unfold f_X12_tires_l2 at h
  exact wh_ev (P := fun s : Int32 × mM => Ev (11) 254 2 [some (.ref 215), some (.int s.1)] [] s.2 R) (Q := fun e : (Unit × mM) => R = emW eU e) (fun s o hb h1 h2 => e_X12_tires_2  hb ⟨h1, h2⟩) 100000 _ _ h hk
def f_X12_tires  (M0 : mM) : Option (Unit × mM) :=
  f_X12_tires_l2 (0 : Int32) M0
set_option maxRecDepth 8000 in
theorem c_X12_tires  {M0 : mM} {out : (Unit × mM)} (h : f_X12_tires M0 = some out) : Cs (11) 254 [.ref 215] M0 (emW eU out) := by
  generalize hk : emW eU out = R
  replace hk := hk.symm
  unfold f_X12_tires at h
  show Ev (11) 254 0 [some (.ref 215), none] [] M0 R
  refine ev_go kc_254 2 (i' := 2) (L' := [some (.ref 215), some (.int (0 : Int32))]) (st' := []) (M' := M0) rfl ?_
  exact Ev.forget (mLe.kp (mLe.kp mLe.nl)) (e_X12_tires_l2  h hk)
/-- WakeTowerModel.oneHour(Z)I: 255, W -/
theorem kc_255 : mKc 255 = k_X12_oneHour := rfl
def f_X12_oneHour_31 (M0 : mM) : Option (Int32 × mM) :=
  b2 (f_X12_allFall M0) (fun v1 M1 => wr (mst M1 216 (ix (3 : Int32)) ((M1 216 (ix (3 : Int32))) + (1 : Int32))) (fun M2 => bif decide (¬ (M2 216 (ix (3 : Int32))) = (24 : Int32)) then (some ((M2 215 10), M2)) else (wr (mst M2 216 (ix (3 : Int32)) (0 : Int32)) (fun M4 => wr (mst M4 216 (ix (4 : Int32)) (mMin (9999 : Int32) ((M4 216 (ix (4 : Int32))) + (1 : Int32)))) (fun M5 => some ((M5 215 10), M5))))))
set_option maxRecDepth 8000 in
theorem e_X12_oneHour_31 {M0 : mM} {R : mZ} {out : (Int32 × mM)}  (h : f_X12_oneHour_31 M0 = some out) (hk : R = emW eI out) : Ev (12) 255 31 [some (.ref 215), none, none] [] M0 R := by
  unfold f_X12_oneHour_31 at h
  refine ev_go kc_255 1 (i' := 32) (L' := [some (.ref 215), none, none]) (st' := [.ref 215]) (M' := M0) rfl ?_
  obtain ⟨v1, M1, hc1, h⟩ := o_b2 h
  refine ev_cl0 (ins := .invokevirtual 347) kc_255 rfl rfl (a := 214) (as := [.ref 215]) (rest := []) rfl rfl (Cs.deep (c_X12_allFall hc1) (by decide)) ?_
  refine ev_go kc_255 4 (i' := 37) (L' := [some (.ref 215), none, none]) (st' := [.int (3 : Int32), .ref 216, .int (3 : Int32), .ref 216]) (M' := M1) rfl ?_
  refine ev_ia kc_255 rfl rfl rfl ?_
  refine ev_go kc_255 2 (i' := 40) (L' := [some (.ref 215), none, none]) (st' := [.int ((M1 216 (ix (3 : Int32))) + (1 : Int32)), .int (3 : Int32), .ref 216]) (M' := M1) rfl ?_
  obtain ⟨M2, hM2, h⟩ := o_wr h
  refine ev_is kc_255 rfl rfl rfl hM2 ?_
  refine ev_go kc_255 3 (i' := 44) (L' := [some (.ref 215), none, none]) (st' := [.int (3 : Int32), .ref 216]) (M' := M2) rfl ?_
  refine ev_ia kc_255 rfl rfl rfl ?_
  rcases o_bif h with ⟨hb3, h⟩ | ⟨hb3, h⟩
  · refine ev_goT kc_255 2 (t := 64) (e := 47) (L' := [some (.ref 215), none, none]) (st' := []) rfl hb3 ?_
    refine ev_go kc_255 2 (i' := 66) (L' := [some (.ref 215), none, none]) (st' := [.int (M2 215 10)]) (M' := M2) rfl ?_
    obtain rfl := Option.some.inj h
    rw [hk]
    exact ev_ret kc_255 rfl rfl rfl
  · refine ev_goF kc_255 2 (t := 64) (e := 47) (L' := [some (.ref 215), none, none]) (st' := []) rfl hb3 ?_
    refine ev_go kc_255 4 (i' := 51) (L' := [some (.ref 215), none, none]) (st' := [.int (0 : Int32), .int (3 : Int32), .ref 216]) (M' := M2) rfl ?_
    obtain ⟨M4, hM4, h⟩ := o_wr h
    refine ev_is kc_255 rfl rfl rfl hM4 ?_
    refine ev_go kc_255 7 (i' := 59) (L' := [some (.ref 215), none, none]) (st' := [.int (4 : Int32), .ref 216, .int (9999 : Int32), .int (4 : Int32), .ref 216]) (M' := M4) rfl ?_
    refine ev_ia kc_255 rfl rfl rfl ?_
    refine ev_go kc_255 2 (i' := 62) (L' := [some (.ref 215), none, none]) (st' := [.int ((M4 216 (ix (4 : Int32))) + (1 : Int32)), .int (9999 : Int32), .int (4 : Int32), .ref 216]) (M' := M4) rfl ?_
    refine ev_pm kc_255 rfl rfl rfl rfl (as := [.int (9999 : Int32), .int ((M4 216 (ix (4 : Int32))) + (1 : Int32))]) (rest := [.int (4 : Int32), .ref 216]) rfl rfl rfl (v := some (mMin (9999 : Int32) ((M4 216 (ix (4 : Int32))) + (1 : Int32)))) rfl ?_
    obtain ⟨M5, hM5, h⟩ := o_wr h
    refine ev_is kc_255 rfl rfl rfl hM5 ?_
    refine ev_go kc_255 2 (i' := 66) (L' := [some (.ref 215), none, none]) (st' := [.int (M5 215 10)]) (M' := M5) rfl ?_
    obtain rfl := Option.some.inj h
    rw [hk]
    exact ev_ret kc_255 rfl rfl rfl
def f_X12_oneHour_4 (l1 : Bool) (l2 : Int32) (M0 : mM) : Option ((Int32 × mM) ⊕ (Int32 × mM)) :=
  b1 (f_X12_people M0) (fun v6 => bif decide (v6 ≤ l2) then (b1 (f_X12_oneHour_31 M0) (fun r8 => some (.inl r8))) else (bif l1 then (b1 (f_X12_oneHour_31 M0) (fun r10 => some (.inl r10))) else (b1 (f_X12_holds l2 M0) (fun v11 => bif v11 then (b2 (f_X12_drawn (100 : Int32) M0) (fun v13 M13 => b2 (f_X12_byLaw (2 : Int32) l2 M13) (fun v14 M14 => bif decide (v14 ≤ v13) then (some (.inr ((l2 + (1 : Int32)), M14))) else (gd (mIn (f_X12_at l2 (3 : Int32)) 2122) (wr (mst M14 216 (ix (f_X12_at l2 (3 : Int32))) (1 : Int32)) (fun M17 => some (.inr ((l2 + (1 : Int32)), M17)))))))) else (some (.inr ((l2 + (1 : Int32)), M0)))))))
set_option maxRecDepth 8000 in
theorem e_X12_oneHour_4 {l1 : Bool} {l2 : Int32} {M0 : mM} {R : mZ} {out : ((Int32 × mM) ⊕ (Int32 × mM))}  (h : f_X12_oneHour_4 l1 l2 M0 = some out) (hk : (∀ s' : Int32 × mM, out = .inr s' → Ev (12) 255 4 [some (.ref 215), some (.int (mB l1)), some (.int s'.1)] [] (s'.2) R) ∧ (∀ e1 : (Int32 × mM), out = .inl e1 → R = emW eI e1)) : Ev (12) 255 4 [some (.ref 215), some (.int (mB l1)), some (.int l2)] [] M0 R := by
  unfold f_X12_oneHour_4 at h
  refine ev_go kc_255 2 (i' := 6) (L' := [some (.ref 215), some (.int (mB l1)), some (.int l2)]) (st' := [.ref 215, .int l2]) (M' := M0) rfl ?_
  obtain ⟨v6, hc6, h⟩ := o_b1 h
  refine ev_cl0 (ins := .invokevirtual 71) kc_255 rfl rfl (a := 190) (as := [.ref 215]) (rest := [.int l2]) rfl rfl (Cs.deep (c_X12_people (M0 := M0) hc6) (by decide)) ?_
  rcases o_bif h with ⟨hb7, h⟩ | ⟨hb7, h⟩
  · refine ev_goT kc_255 1 (t := 31) (e := 8) (L' := [some (.ref 215), some (.int (mB l1)), some (.int l2)]) (st' := []) rfl hb7 ?_
    obtain ⟨r8, hr8, h⟩ := o_b1 h
    obtain rfl := Option.some.inj h
    exact Ev.forget (mLe.kp (mLe.sk (mLe.sk mLe.nl))) (e_X12_oneHour_31  hr8 (hk.2 _ rfl))
  · refine ev_goF kc_255 1 (t := 31) (e := 8) (L' := [some (.ref 215), some (.int (mB l1)), some (.int l2)]) (st' := []) rfl hb7 ?_
    rcases o_bif h with ⟨hb9, h⟩ | ⟨hb9, h⟩
    · refine ev_goT kc_255 2 (t := 31) (e := 10) (L' := [some (.ref 215), some (.int (mB l1)), some (.int l2)]) (st' := []) rfl (mB_n0t hb9) ?_
      obtain ⟨r10, hr10, h⟩ := o_b1 h
      obtain rfl := Option.some.inj h
      exact Ev.forget (mLe.kp (mLe.sk (mLe.sk mLe.nl))) (e_X12_oneHour_31  hr10 (hk.2 _ rfl))
    · refine ev_goF kc_255 2 (t := 31) (e := 10) (L' := [some (.ref 215), some (.int (mB l1)), some (.int l2)]) (st' := []) rfl (mB_n0f hb9) ?_
      refine ev_go kc_255 2 (i' := 12) (L' := [some (.ref 215), some (.int (mB l1)), some (.int l2)]) (st' := [.int l2, .ref 215]) (M' := M0) rfl ?_
      obtain ⟨v11, hc11, h⟩ := o_b1 h
      refine ev_cl0 (ins := .invokevirtual 89) kc_255 rfl rfl (a := 196) (as := [.ref 215, .int l2]) (rest := []) rfl rfl (Cs.deep (c_X12_holds (M0 := M0) hc11) (by decide)) ?_
      rcases o_bif h with ⟨hb12, h⟩ | ⟨hb12, h⟩
      · refine ev_goF kc_255 1 (t := 29) (e := 14) (L' := [some (.ref 215), some (.int (mB l1)), some (.int l2)]) (st' := []) rfl (mB_e0f hb12) ?_
        refine ev_go kc_255 2 (i' := 16) (L' := [some (.ref 215), some (.int (mB l1)), some (.int l2)]) (st' := [.int (100 : Int32), .ref 215]) (M' := M0) rfl ?_
        obtain ⟨v13, M13, hc13, h⟩ := o_b2 h
        refine ev_cl0 (ins := .invokevirtual 344) kc_255 rfl rfl (a := 202) (as := [.ref 215, .int (100 : Int32)]) (rest := []) rfl rfl (Cs.deep (c_X12_drawn hc13) (by decide)) ?_
        refine ev_go kc_255 3 (i' := 20) (L' := [some (.ref 215), some (.int (mB l1)), some (.int l2)]) (st' := [.int l2, .int (2 : Int32), .ref 215, .int v13]) (M' := M13) rfl ?_
        obtain ⟨v14, M14, hc14, h⟩ := o_b2 h
        refine ev_cl0 (ins := .invokevirtual 332) kc_255 rfl rfl (a := 250) (as := [.ref 215, .int (2 : Int32), .int l2]) (rest := [.int v13]) rfl rfl (Cs.deep (c_X12_byLaw hc14) (by decide)) ?_
        rcases o_bif h with ⟨hb15, h⟩ | ⟨hb15, h⟩
        · refine ev_goT kc_255 1 (t := 29) (e := 22) (L' := [some (.ref 215), some (.int (mB l1)), some (.int l2)]) (st' := []) rfl hb15 ?_
          refine ev_go kc_255 2 (i' := 4) (L' := [some (.ref 215), some (.int (mB l1)), some (.int (l2 + (1 : Int32)))]) (st' := []) (M' := M14) rfl ?_
          obtain rfl := Option.some.inj h
          exact Ev.forget (mLe.kp (mLe.kp (mLe.kp mLe.nl))) (hk.1 ((l2 + (1 : Int32)), M14) rfl)
        · refine ev_goF kc_255 1 (t := 29) (e := 22) (L' := [some (.ref 215), some (.int (mB l1)), some (.int l2)]) (st' := []) rfl hb15 ?_
          refine ev_go kc_255 4 (i' := 26) (L' := [some (.ref 215), some (.int (mB l1)), some (.int l2)]) (st' := [.int (3 : Int32), .int l2, .ref 216]) (M' := M14) rfl ?_
          refine ev_cl0 (ins := .invokestatic 75) kc_255 rfl rfl (a := 192) (as := [.int l2, .int (3 : Int32)]) (rest := [.ref 216]) rfl rfl (Cs.deep (c_X12_at (M0 := M14)) (by decide)) ?_
          refine ev_go kc_255 1 (i' := 28) (L' := [some (.ref 215), some (.int (mB l1)), some (.int l2)]) (st' := [.int (1 : Int32), .int (f_X12_at l2 (3 : Int32)), .ref 216]) (M' := M14) rfl ?_
          obtain ⟨hg18, h⟩ := o_gd h
          obtain ⟨M17, hM17, h⟩ := o_wr h
          refine ev_is kc_255 rfl rfl hg18 hM17 ?_
          refine ev_go kc_255 2 (i' := 4) (L' := [some (.ref 215), some (.int (mB l1)), some (.int (l2 + (1 : Int32)))]) (st' := []) (M' := M17) rfl ?_
          obtain rfl := Option.some.inj h
          exact Ev.forget (mLe.kp (mLe.kp (mLe.kp mLe.nl))) (hk.1 ((l2 + (1 : Int32)), M17) rfl)
      · refine ev_goT kc_255 1 (t := 29) (e := 14) (L' := [some (.ref 215), some (.int (mB l1)), some (.int l2)]) (st' := []) rfl (mB_e0t hb12) ?_
        refine ev_go kc_255 2 (i' := 4) (L' := [some (.ref 215), some (.int (mB l1)), some (.int (l2 + (1 : Int32)))]) (st' := []) (M' := M0) rfl ?_
        obtain rfl := Option.some.inj h
        exact Ev.forget (mLe.kp (mLe.kp (mLe.kp mLe.nl))) (hk.1 ((l2 + (1 : Int32)), M0) rfl)
def f_X12_oneHour_l4 (l1 : Bool) (l2 : Int32) (M0 : mM) : Option (Int32 × mM) :=
  wh 100000 (fun s : Int32 × mM => f_X12_oneHour_4 l1 s.1 s.2) (l2, M0)
theorem e_X12_oneHour_l4 {l1 : Bool} {l2 : Int32} {M0 : mM} {R : mZ} {out : (Int32 × mM)}  (h : f_X12_oneHour_l4 l1 l2 M0 = some out) (hk : R = emW eI out) : Ev (12) 255 4 [some (.ref 215), some (.int (mB l1)), some (.int l2)] [] M0 R := by
  unfold f_X12_oneHour_l4 at h
  exact wh_ev (P := fun s : Int32 × mM => Ev (12) 255 4 [some (.ref 215), some (.int (mB l1)), some (.int s.1)] [] s.2 R) (Q := fun e : (Int32 × mM) => R = emW eI e) (fun s o hb h1 h2 => e_X12_oneHour_4  hb ⟨h1, h2⟩) 100000 _ _ h hk
def f_X12_oneHour (p1 : Bool) (M0 : mM) : Option (Int32 × mM) :=
  b2 (f_X12_tires M0) (fun v19 M19 => f_X12_oneHour_l4 p1 (0 : Int32) M19)
set_option maxRecDepth 8000 in
theorem c_X12_oneHour {p1 : Bool} {M0 : mM} {out : (Int32 × mM)} (h : f_X12_oneHour p1 M0 = some out) : Cs (12) 255 [.ref 215, .int (mB p1)] M0 (emW eI out) := by
  generalize hk : emW eI out = R
  replace hk := hk.symm
  unfold f_X12_oneHour at h
  show Ev (12) 255 0 [some (.ref 215), some (.int (mB p1)), none] [] M0 R
  refine ev_go kc_255 1 (i' := 1) (L' := [some (.ref 215), some (.int (mB p1)), none]) (st' := [.ref 215]) (M' := M0) rfl ?_
  obtain ⟨v19, M19, hc19, h⟩ := o_b2 h
  refine ev_cl0 (ins := .invokevirtual 341) kc_255 rfl rfl (a := 254) (as := [.ref 215]) (rest := []) rfl rfl (Cs.deep (c_X12_tires hc19) (by decide)) ?_
  refine ev_go kc_255 2 (i' := 4) (L' := [some (.ref 215), some (.int (mB p1)), some (.int (0 : Int32))]) (st' := []) (M' := M19) rfl ?_
  exact Ev.forget (mLe.kp (mLe.kp (mLe.kp mLe.nl))) (e_X12_oneHour_l4  h hk)
/-- WakeTowerModel.goesOn(IZ)I: 256, W -/
theorem kc_256 : mKc 256 = k_X12_goesOn := rfl
def f_X12_goesOn_4 (l1 : Int32) (l2 : Bool) (l3 : Int32) (l4 : Int32) (M0 : mM) : Option ((Int32 × mM) ⊕ (Int32 × Int32 × mM)) :=
  bif decide (l1 ≤ l4) then (some (.inl (l3, M0))) else (b2 (f_X12_oneHour l2 M0) (fun v2 M2 => some (.inr ((l3 + v2), (l4 + (1 : Int32)), M2))))
set_option maxRecDepth 8000 in
theorem e_X12_goesOn_4 {l1 : Int32} {l2 : Bool} {l3 : Int32} {l4 : Int32} {M0 : mM} {R : mZ} {out : ((Int32 × mM) ⊕ (Int32 × Int32 × mM))}  (h : f_X12_goesOn_4 l1 l2 l3 l4 M0 = some out) (hk : (∀ s' : Int32 × Int32 × mM, out = .inr s' → Ev (13) 256 4 [some (.ref 215), some (.int l1), some (.int (mB l2)), some (.int s'.1), some (.int s'.2.1)] [] (s'.2.2) R) ∧ (∀ e1 : (Int32 × mM), out = .inl e1 → R = emW eI e1)) : Ev (13) 256 4 [some (.ref 215), some (.int l1), some (.int (mB l2)), some (.int l3), some (.int l4)] [] M0 R := by
  unfold f_X12_goesOn_4 at h
  rcases o_bif h with ⟨hb1, h⟩ | ⟨hb1, h⟩
  · refine ev_goT kc_256 3 (t := 15) (e := 7) (L' := [some (.ref 215), some (.int l1), some (.int (mB l2)), some (.int l3), some (.int l4)]) (st' := []) rfl hb1 ?_
    refine ev_go kc_256 1 (i' := 16) (L' := [some (.ref 215), some (.int l1), some (.int (mB l2)), some (.int l3), some (.int l4)]) (st' := [.int l3]) (M' := M0) rfl ?_
    obtain rfl := Option.some.inj h
    rw [show _ from (hk.2 _ rfl)]
    exact ev_ret kc_256 rfl rfl rfl
  · refine ev_goF kc_256 3 (t := 15) (e := 7) (L' := [some (.ref 215), some (.int l1), some (.int (mB l2)), some (.int l3), some (.int l4)]) (st' := []) rfl hb1 ?_
    refine ev_go kc_256 3 (i' := 10) (L' := [some (.ref 215), some (.int l1), some (.int (mB l2)), some (.int l3), some (.int l4)]) (st' := [.int (mB l2), .ref 215, .int l3]) (M' := M0) rfl ?_
    obtain ⟨v2, M2, hc2, h⟩ := o_b2 h
    refine ev_cl0 (ins := .invokevirtual 350) kc_256 rfl rfl (a := 255) (as := [.ref 215, .int (mB l2)]) (rest := [.int l3]) rfl rfl (Cs.deep (c_X12_oneHour hc2) (by decide)) ?_
    refine ev_go kc_256 4 (i' := 4) (L' := [some (.ref 215), some (.int l1), some (.int (mB l2)), some (.int (l3 + v2)), some (.int (l4 + (1 : Int32)))]) (st' := []) (M' := M2) rfl ?_
    obtain rfl := Option.some.inj h
    exact Ev.forget (mLe.kp (mLe.kp (mLe.kp (mLe.kp (mLe.kp mLe.nl))))) (hk.1 ((l3 + v2), (l4 + (1 : Int32)), M2) rfl)
def f_X12_goesOn_l4 (l1 : Int32) (l2 : Bool) (l3 : Int32) (l4 : Int32) (M0 : mM) : Option (Int32 × mM) :=
  wh 100000 (fun s : Int32 × Int32 × mM => f_X12_goesOn_4 l1 l2 s.1 s.2.1 s.2.2) (l3, l4, M0)
theorem e_X12_goesOn_l4 {l1 : Int32} {l2 : Bool} {l3 : Int32} {l4 : Int32} {M0 : mM} {R : mZ} {out : (Int32 × mM)}  (h : f_X12_goesOn_l4 l1 l2 l3 l4 M0 = some out) (hk : R = emW eI out) : Ev (13) 256 4 [some (.ref 215), some (.int l1), some (.int (mB l2)), some (.int l3), some (.int l4)] [] M0 R := by
  unfold f_X12_goesOn_l4 at h
  exact wh_ev (P := fun s : Int32 × Int32 × mM => Ev (13) 256 4 [some (.ref 215), some (.int l1), some (.int (mB l2)), some (.int s.1), some (.int s.2.1)] [] s.2.2 R) (Q := fun e : (Int32 × mM) => R = emW eI e) (fun s o hb h1 h2 => e_X12_goesOn_4  hb ⟨h1, h2⟩) 100000 _ _ h hk
def f_X12_goesOn (p1 : Int32) (p2 : Bool) (M0 : mM) : Option (Int32 × mM) :=
  f_X12_goesOn_l4 p1 p2 (0 : Int32) (0 : Int32) M0
set_option maxRecDepth 8000 in
theorem c_X12_goesOn {p1 : Int32} {p2 : Bool} {M0 : mM} {out : (Int32 × mM)} (h : f_X12_goesOn p1 p2 M0 = some out) : Cs (13) 256 [.ref 215, .int p1, .int (mB p2)] M0 (emW eI out) := by
  generalize hk : emW eI out = R
  replace hk := hk.symm
  unfold f_X12_goesOn at h
  show Ev (13) 256 0 [some (.ref 215), some (.int p1), some (.int (mB p2)), none, none] [] M0 R
  refine ev_go kc_256 4 (i' := 4) (L' := [some (.ref 215), some (.int p1), some (.int (mB p2)), some (.int (0 : Int32)), some (.int (0 : Int32))]) (st' := []) (M' := M0) rfl ?_
  exact Ev.forget (mLe.kp (mLe.kp (mLe.kp (mLe.kp (mLe.kp mLe.nl))))) (e_X12_goesOn_l4  h hk)
/-- WakeTowerModel.hours(I)I: 257, W -/
theorem kc_257 : mKc 257 = k_X12_hours := rfl
def f_X12_hours_12 (l1 : Int32) (s1 : Bool) (M0 : mM) : Option (Int32 × mM) :=
  b2 (f_X12_throwsIf s1 (1 : Int32) M0) (fun v1 M1 => bif v1 then (some ((0 : Int32), M1)) else (b2 (f_X12_keepsAll M1) (fun v3 M3 => b2 (f_X12_remembers M3) (fun v4 M4 => b2 (f_X12_goesOn l1 false M4) (fun v5 M5 => some (v5, M5))))))
set_option maxRecDepth 8000 in
theorem e_X12_hours_12 {l1 : Int32} {s1 : Bool} {M0 : mM} {R : mZ} {out : (Int32 × mM)}  (h : f_X12_hours_12 l1 s1 M0 = some out) (hk : R = emW eI out) : Ev (14) 257 12 [some (.ref 215), some (.int l1)] [.int (mB s1), .ref 215] M0 R := by
  unfold f_X12_hours_12 at h
  refine ev_go kc_257 1 (i' := 13) (L' := [some (.ref 215), some (.int l1)]) (st' := [.int (1 : Int32), .int (mB s1), .ref 215]) (M' := M0) rfl ?_
  obtain ⟨v1, M1, hc1, h⟩ := o_b2 h
  refine ev_cl0 (ins := .invokevirtual 304) kc_257 rfl rfl (a := 181) (as := [.ref 215, .int (mB s1), .int (1 : Int32)]) (rest := []) rfl rfl (Cs.deep (c_X12_throwsIf hc1) (by decide)) ?_
  rcases o_bif h with ⟨hb2, h⟩ | ⟨hb2, h⟩
  · refine ev_goF kc_257 1 (t := 17) (e := 15) (L' := [some (.ref 215), some (.int l1)]) (st' := []) rfl (mB_e0f hb2) ?_
    refine ev_go kc_257 1 (i' := 16) (L' := [some (.ref 215), some (.int l1)]) (st' := [.int (0 : Int32)]) (M' := M1) rfl ?_
    obtain rfl := Option.some.inj h
    rw [hk]
    exact ev_ret kc_257 rfl rfl rfl
  · refine ev_goT kc_257 1 (t := 17) (e := 15) (L' := [some (.ref 215), some (.int l1)]) (st' := []) rfl (mB_e0t hb2) ?_
    refine ev_go kc_257 1 (i' := 18) (L' := [some (.ref 215), some (.int l1)]) (st' := [.ref 215]) (M' := M1) rfl ?_
    obtain ⟨v3, M3, hc3, h⟩ := o_b2 h
    refine ev_cl0 (ins := .invokevirtual 353) kc_257 rfl rfl (a := 188) (as := [.ref 215]) (rest := []) rfl rfl (Cs.deep (c_X12_keepsAll hc3) (by decide)) ?_
    refine ev_go kc_257 1 (i' := 20) (L' := [some (.ref 215), some (.int l1)]) (st' := [.ref 215]) (M' := M3) rfl ?_
    obtain ⟨v4, M4, hc4, h⟩ := o_b2 h
    refine ev_cl0 (ins := .invokevirtual 356) kc_257 rfl rfl (a := 186) (as := [.ref 215]) (rest := []) rfl rfl (Cs.deep (c_X12_remembers hc4) (by decide)) ?_
    refine ev_go kc_257 3 (i' := 24) (L' := [some (.ref 215), some (.int l1)]) (st' := [.int (0 : Int32), .int l1, .ref 215]) (M' := M4) rfl ?_
    obtain ⟨v5, M5, hc5, h⟩ := o_b2 h
    refine ev_cl0 (ins := .invokevirtual 359) kc_257 rfl rfl (a := 256) (as := [.ref 215, .int l1, .int (mB false)]) (rest := []) rfl rfl (Cs.deep (c_X12_goesOn hc5) (by decide)) ?_
    obtain rfl := Option.some.inj h
    rw [hk]
    exact ev_ret kc_257 rfl rfl rfl
def f_X12_hours (p1 : Int32) (M0 : mM) : Option (Int32 × mM) :=
  wr (mst M0 215 0 (0 : Int32)) (fun M6 => bif (f_X12_in p1 (1 : Int32) (60 : Int32)) then (f_X12_hours_12 p1 false M6) else (f_X12_hours_12 p1 true M6))
set_option maxRecDepth 8000 in
theorem c_X12_hours {p1 : Int32} {M0 : mM} {out : (Int32 × mM)} (h : f_X12_hours p1 M0 = some out) : Cs (14) 257 [.ref 215, .int p1] M0 (emW eI out) := by
  generalize hk : emW eI out = R
  replace hk := hk.symm
  unfold f_X12_hours at h
  show Ev (14) 257 0 [some (.ref 215), some (.int p1)] [] M0 R
  refine ev_go kc_257 2 (i' := 2) (L' := [some (.ref 215), some (.int p1)]) (st' := [.int (0 : Int32), .ref 215]) (M' := M0) rfl ?_
  obtain ⟨M6, hM6, h⟩ := o_wr h
  refine ev_pf kc_257 rfl rfl rfl rfl (fun hc => absurd hc (by decide)) hM6 ?_
  refine ev_go kc_257 4 (i' := 7) (L' := [some (.ref 215), some (.int p1)]) (st' := [.int (60 : Int32), .int (1 : Int32), .int p1, .ref 215]) (M' := M6) rfl ?_
  refine ev_cl0 (ins := .invokestatic 92) kc_257 rfl rfl (a := 182) (as := [.int p1, .int (1 : Int32), .int (60 : Int32)]) (rest := [.ref 215]) rfl rfl (Cs.deep (c_X12_in (M0 := M6)) (by decide)) ?_
  rcases o_bif h with ⟨hb8, h⟩ | ⟨hb8, h⟩
  · refine ev_goT kc_257 1 (t := 11) (e := 9) (L' := [some (.ref 215), some (.int p1)]) (st' := [.ref 215]) rfl (mB_n0t hb8) ?_
    refine ev_go kc_257 1 (i' := 12) (L' := [some (.ref 215), some (.int p1)]) (st' := [.int (0 : Int32), .ref 215]) (M' := M6) rfl ?_
    exact Ev.forget (mLe.kp (mLe.kp mLe.nl)) (e_X12_hours_12  h hk)
  · refine ev_goF kc_257 1 (t := 11) (e := 9) (L' := [some (.ref 215), some (.int p1)]) (st' := [.ref 215]) rfl (mB_n0f hb8) ?_
    refine ev_go kc_257 2 (i' := 12) (L' := [some (.ref 215), some (.int p1)]) (st' := [.int (1 : Int32), .ref 215]) (M' := M6) rfl ?_
    exact Ev.forget (mLe.kp (mLe.kp mLe.nl)) (e_X12_hours_12  h hk)
/-- WakeTowerModel.cannot()Z: 258, W -/
theorem kc_258 : mKc 258 = k_X12_cannot := rfl
def f_X12_cannot_10 (l1 : Bool) (M0 : mM) : Option (Bool × mM) :=
  bif l1 then (some (false, M0)) else (some (true, M0))
set_option maxRecDepth 8000 in
theorem e_X12_cannot_10 {l1 : Bool} {M0 : mM} {R : mZ} {out : (Bool × mM)}  (h : f_X12_cannot_10 l1 M0 = some out) (hk : R = emW eB out) : Ev (9) 258 10 [none, some (.int (mB l1))] [] M0 R := by
  unfold f_X12_cannot_10 at h
  rcases o_bif h with ⟨hb1, h⟩ | ⟨hb1, h⟩
  · refine ev_goT kc_258 2 (t := 14) (e := 12) (L' := [none, some (.int (mB l1))]) (st' := []) rfl (mB_n0t hb1) ?_
    refine ev_go kc_258 1 (i' := 15) (L' := [none, some (.int (mB l1))]) (st' := [.int (0 : Int32)]) (M' := M0) rfl ?_
    obtain rfl := Option.some.inj h
    rw [hk]
    exact ev_ret kc_258 rfl rfl rfl
  · refine ev_goF kc_258 2 (t := 14) (e := 12) (L' := [none, some (.int (mB l1))]) (st' := []) rfl (mB_n0f hb1) ?_
    refine ev_go kc_258 2 (i' := 15) (L' := [none, some (.int (mB l1))]) (st' := [.int (1 : Int32)]) (M' := M0) rfl ?_
    obtain rfl := Option.some.inj h
    rw [hk]
    exact ev_ret kc_258 rfl rfl rfl
def f_X12_cannot  (M0 : mM) : Option (Bool × mM) :=
  b2 (f_X12_stands M0) (fun v2 M2 => bif v2 then (b2 (f_X12_remembers M2) (fun v4 M4 => f_X12_cannot_10 v2 M4)) else (b2 (f_X12_bringsBack M2) (fun v5 M5 => f_X12_cannot_10 v2 M5)))
set_option maxRecDepth 8000 in
theorem c_X12_cannot  {M0 : mM} {out : (Bool × mM)} (h : f_X12_cannot M0 = some out) : Cs (9) 258 [.ref 215] M0 (emW eB out) := by
  generalize hk : emW eB out = R
  replace hk := hk.symm
  unfold f_X12_cannot at h
  show Ev (9) 258 0 [some (.ref 215), none] [] M0 R
  refine ev_go kc_258 1 (i' := 1) (L' := [some (.ref 215), none]) (st' := [.ref 215]) (M' := M0) rfl ?_
  obtain ⟨v2, M2, hc2, h⟩ := o_b2 h
  refine ev_cl0 (ins := .invokevirtual 140) kc_258 rfl rfl (a := 210) (as := [.ref 215]) (rest := []) rfl rfl (Cs.deep (c_X12_stands hc2) (by decide)) ?_
  rcases o_bif h with ⟨hb3, h⟩ | ⟨hb3, h⟩
  · refine ev_goF kc_258 3 (t := 8) (e := 5) (L' := [some (.ref 215), some (.int (mB v2))]) (st' := []) rfl (mB_e0f hb3) ?_
    refine ev_go kc_258 1 (i' := 6) (L' := [some (.ref 215), some (.int (mB v2))]) (st' := [.ref 215]) (M' := M2) rfl ?_
    obtain ⟨v4, M4, hc4, h⟩ := o_b2 h
    refine ev_cl0 (ins := .invokevirtual 356) kc_258 rfl rfl (a := 186) (as := [.ref 215]) (rest := []) rfl rfl (Cs.deep (c_X12_remembers hc4) (by decide)) ?_
    refine ev_go kc_258 1 (i' := 10) (L' := [some (.ref 215), some (.int (mB v2))]) (st' := []) (M' := M4) rfl ?_
    exact Ev.forget (mLe.sk (mLe.kp mLe.nl)) (e_X12_cannot_10  h hk)
  · refine ev_goT kc_258 3 (t := 8) (e := 5) (L' := [some (.ref 215), some (.int (mB v2))]) (st' := []) rfl (mB_e0t hb3) ?_
    refine ev_go kc_258 1 (i' := 9) (L' := [some (.ref 215), some (.int (mB v2))]) (st' := [.ref 215]) (M' := M2) rfl ?_
    obtain ⟨v5, M5, hc5, h⟩ := o_b2 h
    refine ev_cl0 (ins := .invokevirtual 363) kc_258 rfl rfl (a := 189) (as := [.ref 215]) (rest := []) rfl rfl (Cs.deep (c_X12_bringsBack hc5) (by decide)) ?_
    exact Ev.forget (mLe.sk (mLe.kp mLe.nl)) (e_X12_cannot_10  h hk)
/-- WakeTowerModel.wrongOn(II)Z: 259, R -/
theorem kc_259 : mKc 259 = k_X12_wrongOn := rfl
def f_X12_wrongOn (p1 : Int32) (p2 : Int32) (M0 : mM) : Option Bool :=
  bif decide (¬ p1 = 0) then (bif decide (p2 = 0) then (some true) else (b1 (f_X12_those (p1 - (1 : Int32)) M0) (fun v3 => bif decide ((p2 &&& (v3 ^^^ (-1 : Int32))) = 0) then (some false) else (some true)))) else (bif decide (p2 = 0) then (some false) else (some true))
set_option maxRecDepth 8000 in
theorem c_X12_wrongOn {p1 : Int32} {p2 : Int32} {M0 : mM} {out : Bool} (h : f_X12_wrongOn p1 p2 M0 = some out) : Cs (3) 259 [.ref 215, .int p1, .int p2] M0 (emR eB M0 out) := by
  generalize hk : emR eB M0 out = R
  replace hk := hk.symm
  unfold f_X12_wrongOn at h
  show Ev (3) 259 0 [some (.ref 215), some (.int p1), some (.int p2)] [] M0 R
  rcases o_bif h with ⟨hb1, h⟩ | ⟨hb1, h⟩
  · refine ev_goT kc_259 2 (t := 8) (e := 2) (L' := [some (.ref 215), some (.int p1), some (.int p2)]) (st' := []) rfl hb1 ?_
    rcases o_bif h with ⟨hb2, h⟩ | ⟨hb2, h⟩
    · refine ev_goT kc_259 2 (t := 20) (e := 10) (L' := [some (.ref 215), some (.int p1), some (.int p2)]) (st' := []) rfl hb2 ?_
      refine ev_go kc_259 2 (i' := 23) (L' := [some (.ref 215), some (.int p1), some (.int p2)]) (st' := [.int (1 : Int32)]) (M' := M0) rfl ?_
      obtain rfl := Option.some.inj h
      rw [hk]
      exact ev_ret kc_259 rfl rfl rfl
    · refine ev_goF kc_259 2 (t := 20) (e := 10) (L' := [some (.ref 215), some (.int p1), some (.int p2)]) (st' := []) rfl hb2 ?_
      refine ev_go kc_259 5 (i' := 15) (L' := [some (.ref 215), some (.int p1), some (.int p2)]) (st' := [.int (p1 - (1 : Int32)), .ref 215, .int p2]) (M' := M0) rfl ?_
      obtain ⟨v3, hc3, h⟩ := o_b1 h
      refine ev_cl0 (ins := .invokevirtual 366) kc_259 rfl rfl (a := 200) (as := [.ref 215, .int (p1 - (1 : Int32))]) (rest := [.int p2]) rfl rfl (Cs.deep (c_X12_those (M0 := M0) hc3) (by decide)) ?_
      rcases o_bif h with ⟨hb4, h⟩ | ⟨hb4, h⟩
      · refine ev_goT kc_259 4 (t := 22) (e := 20) (L' := [some (.ref 215), some (.int p1), some (.int p2)]) (st' := []) rfl hb4 ?_
        refine ev_go kc_259 1 (i' := 23) (L' := [some (.ref 215), some (.int p1), some (.int p2)]) (st' := [.int (0 : Int32)]) (M' := M0) rfl ?_
        obtain rfl := Option.some.inj h
        rw [hk]
        exact ev_ret kc_259 rfl rfl rfl
      · refine ev_goF kc_259 4 (t := 22) (e := 20) (L' := [some (.ref 215), some (.int p1), some (.int p2)]) (st' := []) rfl hb4 ?_
        refine ev_go kc_259 2 (i' := 23) (L' := [some (.ref 215), some (.int p1), some (.int p2)]) (st' := [.int (1 : Int32)]) (M' := M0) rfl ?_
        obtain rfl := Option.some.inj h
        rw [hk]
        exact ev_ret kc_259 rfl rfl rfl
  · refine ev_goF kc_259 2 (t := 8) (e := 2) (L' := [some (.ref 215), some (.int p1), some (.int p2)]) (st' := []) rfl hb1 ?_
    rcases o_bif h with ⟨hb5, h⟩ | ⟨hb5, h⟩
    · refine ev_goT kc_259 2 (t := 6) (e := 4) (L' := [some (.ref 215), some (.int p1), some (.int p2)]) (st' := []) rfl hb5 ?_
      refine ev_go kc_259 2 (i' := 23) (L' := [some (.ref 215), some (.int p1), some (.int p2)]) (st' := [.int (0 : Int32)]) (M' := M0) rfl ?_
      obtain rfl := Option.some.inj h
      rw [hk]
      exact ev_ret kc_259 rfl rfl rfl
    · refine ev_goF kc_259 2 (t := 6) (e := 4) (L' := [some (.ref 215), some (.int p1), some (.int p2)]) (st' := []) rfl hb5 ?_
      refine ev_go kc_259 2 (i' := 23) (L' := [some (.ref 215), some (.int p1), some (.int p2)]) (st' := [.int (1 : Int32)]) (M' := M0) rfl ?_
      obtain rfl := Option.some.inj h
      rw [hk]
      exact ev_ret kc_259 rfl rfl rfl
/-- WakeTowerModel.rise(III)I: 260, W -/
theorem kc_260 : mKc 260 = k_X12_rise := rfl
def f_X12_rise_39 (l1 : Int32) (l2 : Int32) (l4 : Int32) (s1 : Bool) (M0 : mM) : Option (Int32 × mM) :=
  b2 (f_X12_throwsIf s1 (2 : Int32) M0) (fun v1 M1 => bif v1 then (some ((0 : Int32), M1)) else (b2 (f_X12_keepsAll M1) (fun v3 M3 => gd (mIn (f_X12_at l1 (5 : Int32)) 2122) (wr (mst M3 216 (ix (f_X12_at l1 (5 : Int32))) l2) (fun M5 => gd (mIn (f_X12_at l1 (6 : Int32)) 2122) (wr (mst M5 216 (ix (f_X12_at l1 (6 : Int32))) l4) (fun M8 => b2 (f_X12_cannot M8) (fun v10 M10 => b2 (f_X12_throwsIf v10 (2 : Int32) M10) (fun v11 M11 => bif v11 then (some ((0 : Int32), M11)) else (b2 (f_X12_borneByAll M11) (fun v13 M13 => some (v13, M13))))))))))))
set_option maxRecDepth 8000 in
theorem e_X12_rise_39 {l1 : Int32} {l2 : Int32} {l4 : Int32} {s1 : Bool} {M0 : mM} {R : mZ} {out : (Int32 × mM)}  (h : f_X12_rise_39 l1 l2 l4 s1 M0 = some out) (hk : R = emW eI out) : Ev (10) 260 39 [some (.ref 215), some (.int l1), some (.int l2), none, some (.int l4), none] [.int (mB s1), .ref 215] M0 R := by
  unfold f_X12_rise_39 at h
  refine ev_go kc_260 1 (i' := 40) (L' := [some (.ref 215), some (.int l1), some (.int l2), none, some (.int l4), none]) (st' := [.int (2 : Int32), .int (mB s1), .ref 215]) (M' := M0) rfl ?_
  obtain ⟨v1, M1, hc1, h⟩ := o_b2 h
  refine ev_cl0 (ins := .invokevirtual 304) kc_260 rfl rfl (a := 181) (as := [.ref 215, .int (mB s1), .int (2 : Int32)]) (rest := []) rfl rfl (Cs.deep (c_X12_throwsIf hc1) (by decide)) ?_
  rcases o_bif h with ⟨hb2, h⟩ | ⟨hb2, h⟩
  · refine ev_goF kc_260 1 (t := 44) (e := 42) (L' := [some (.ref 215), some (.int l1), some (.int l2), none, some (.int l4), none]) (st' := []) rfl (mB_e0f hb2) ?_
    refine ev_go kc_260 1 (i' := 43) (L' := [some (.ref 215), some (.int l1), some (.int l2), none, some (.int l4), none]) (st' := [.int (0 : Int32)]) (M' := M1) rfl ?_
    obtain rfl := Option.some.inj h
    rw [hk]
    exact ev_ret kc_260 rfl rfl rfl
  · refine ev_goT kc_260 1 (t := 44) (e := 42) (L' := [some (.ref 215), some (.int l1), some (.int l2), none, some (.int l4), none]) (st' := []) rfl (mB_e0t hb2) ?_
    refine ev_go kc_260 1 (i' := 45) (L' := [some (.ref 215), some (.int l1), some (.int l2), none, some (.int l4), none]) (st' := [.ref 215]) (M' := M1) rfl ?_
    obtain ⟨v3, M3, hc3, h⟩ := o_b2 h
    refine ev_cl0 (ins := .invokevirtual 353) kc_260 rfl rfl (a := 188) (as := [.ref 215]) (rest := []) rfl rfl (Cs.deep (c_X12_keepsAll hc3) (by decide)) ?_
    refine ev_go kc_260 4 (i' := 50) (L' := [some (.ref 215), some (.int l1), some (.int l2), none, some (.int l4), none]) (st' := [.int (5 : Int32), .int l1, .ref 216]) (M' := M3) rfl ?_
    refine ev_cl0 (ins := .invokestatic 75) kc_260 rfl rfl (a := 192) (as := [.int l1, .int (5 : Int32)]) (rest := [.ref 216]) rfl rfl (Cs.deep (c_X12_at (M0 := M3)) (by decide)) ?_
    refine ev_go kc_260 1 (i' := 52) (L' := [some (.ref 215), some (.int l1), some (.int l2), none, some (.int l4), none]) (st' := [.int l2, .int (f_X12_at l1 (5 : Int32)), .ref 216]) (M' := M3) rfl ?_
    obtain ⟨hg6, h⟩ := o_gd h
    obtain ⟨M5, hM5, h⟩ := o_wr h
    refine ev_is kc_260 rfl rfl hg6 hM5 ?_
    refine ev_go kc_260 4 (i' := 57) (L' := [some (.ref 215), some (.int l1), some (.int l2), none, some (.int l4), none]) (st' := [.int (6 : Int32), .int l1, .ref 216]) (M' := M5) rfl ?_
    refine ev_cl0 (ins := .invokestatic 75) kc_260 rfl rfl (a := 192) (as := [.int l1, .int (6 : Int32)]) (rest := [.ref 216]) rfl rfl (Cs.deep (c_X12_at (M0 := M5)) (by decide)) ?_
    refine ev_go kc_260 1 (i' := 59) (L' := [some (.ref 215), some (.int l1), some (.int l2), none, some (.int l4), none]) (st' := [.int l4, .int (f_X12_at l1 (6 : Int32)), .ref 216]) (M' := M5) rfl ?_
    obtain ⟨hg9, h⟩ := o_gd h
    obtain ⟨M8, hM8, h⟩ := o_wr h
    refine ev_is kc_260 rfl rfl hg9 hM8 ?_
    refine ev_go kc_260 1 (i' := 61) (L' := [some (.ref 215), some (.int l1), some (.int l2), none, some (.int l4), none]) (st' := [.ref 215]) (M' := M8) rfl ?_
    obtain ⟨v10, M10, hc10, h⟩ := o_b2 h
    refine ev_cl0 (ins := .invokevirtual 375) kc_260 rfl rfl (a := 258) (as := [.ref 215]) (rest := []) rfl rfl (Cs.deep (c_X12_cannot hc10) (by decide)) ?_
    refine ev_go kc_260 4 (i' := 66) (L' := [some (.ref 215), some (.int l1), some (.int l2), none, some (.int l4), some (.int (mB v10))]) (st' := [.int (2 : Int32), .int (mB v10), .ref 215]) (M' := M10) rfl ?_
    obtain ⟨v11, M11, hc11, h⟩ := o_b2 h
    refine ev_cl0 (ins := .invokevirtual 304) kc_260 rfl rfl (a := 181) (as := [.ref 215, .int (mB v10), .int (2 : Int32)]) (rest := []) rfl rfl (Cs.deep (c_X12_throwsIf hc11) (by decide)) ?_
    rcases o_bif h with ⟨hb12, h⟩ | ⟨hb12, h⟩
    · refine ev_goF kc_260 1 (t := 70) (e := 68) (L' := [some (.ref 215), some (.int l1), some (.int l2), none, some (.int l4), some (.int (mB v10))]) (st' := []) rfl (mB_e0f hb12) ?_
      refine ev_go kc_260 2 (i' := 72) (L' := [some (.ref 215), some (.int l1), some (.int l2), none, some (.int l4), some (.int (mB v10))]) (st' := [.int (0 : Int32)]) (M' := M11) rfl ?_
      obtain rfl := Option.some.inj h
      rw [hk]
      exact ev_ret kc_260 rfl rfl rfl
    · refine ev_goT kc_260 1 (t := 70) (e := 68) (L' := [some (.ref 215), some (.int l1), some (.int l2), none, some (.int l4), some (.int (mB v10))]) (st' := []) rfl (mB_e0t hb12) ?_
      refine ev_go kc_260 1 (i' := 71) (L' := [some (.ref 215), some (.int l1), some (.int l2), none, some (.int l4), some (.int (mB v10))]) (st' := [.ref 215]) (M' := M11) rfl ?_
      obtain ⟨v13, M13, hc13, h⟩ := o_b2 h
      refine ev_cl0 (ins := .invokevirtual 326) kc_260 rfl rfl (a := 206) (as := [.ref 215]) (rest := []) rfl rfl (Cs.deep (c_X12_borneByAll hc13) (by decide)) ?_
      obtain rfl := Option.some.inj h
      rw [hk]
      exact ev_ret kc_260 rfl rfl rfl
def f_X12_rise_36 (l1 : Int32) (l2 : Int32) (l4 : Int32) (M0 : mM) : Option (Int32 × mM) :=
  f_X12_rise_39 l1 l2 l4 true M0
set_option maxRecDepth 8000 in
theorem e_X12_rise_36 {l1 : Int32} {l2 : Int32} {l4 : Int32} {M0 : mM} {R : mZ} {out : (Int32 × mM)}  (h : f_X12_rise_36 l1 l2 l4 M0 = some out) (hk : R = emW eI out) : Ev (10) 260 36 [some (.ref 215), some (.int l1), some (.int l2), none, some (.int l4), none] [.ref 215] M0 R := by
  unfold f_X12_rise_36 at h
  refine ev_go kc_260 2 (i' := 39) (L' := [some (.ref 215), some (.int l1), some (.int l2), none, some (.int l4), none]) (st' := [.int (1 : Int32), .ref 215]) (M' := M0) rfl ?_
  exact Ev.forget (mLe.kp (mLe.kp (mLe.kp (mLe.sk (mLe.kp (mLe.sk mLe.nl)))))) (e_X12_rise_39  h hk)
def f_X12_rise_16 (l1 : Int32) (l2 : Int32) (l3 : Int32) (s1 : Bool) (M0 : mM) : Option (Int32 × mM) :=
  b2 (f_X12_throwsIf s1 (1 : Int32) M0) (fun v14 M14 => bif v14 then (some ((0 : Int32), M14)) else (b1 (f_X12_everybody M14) (fun v16 => b1 (f_X12_isUp l1 M14) (fun v17 => bif v17 then (f_X12_rise_36 l1 l2 (l3 &&& v16) M14) else (b1 (f_X12_wrongOn l2 (l3 &&& v16) M14) (fun v19 => bif v19 then (f_X12_rise_36 l1 l2 (l3 &&& v16) M14) else (f_X12_rise_39 l1 l2 (l3 &&& v16) false M14)))))))
set_option maxRecDepth 8000 in
theorem e_X12_rise_16 {l1 : Int32} {l2 : Int32} {l3 : Int32} {s1 : Bool} {M0 : mM} {R : mZ} {out : (Int32 × mM)}  (h : f_X12_rise_16 l1 l2 l3 s1 M0 = some out) (hk : R = emW eI out) : Ev (10) 260 16 [some (.ref 215), some (.int l1), some (.int l2), some (.int l3), none, none] [.int (mB s1), .ref 215] M0 R := by
  unfold f_X12_rise_16 at h
  refine ev_go kc_260 1 (i' := 17) (L' := [some (.ref 215), some (.int l1), some (.int l2), some (.int l3), none, none]) (st' := [.int (1 : Int32), .int (mB s1), .ref 215]) (M' := M0) rfl ?_
  obtain ⟨v14, M14, hc14, h⟩ := o_b2 h
  refine ev_cl0 (ins := .invokevirtual 304) kc_260 rfl rfl (a := 181) (as := [.ref 215, .int (mB s1), .int (1 : Int32)]) (rest := []) rfl rfl (Cs.deep (c_X12_throwsIf hc14) (by decide)) ?_
  rcases o_bif h with ⟨hb15, h⟩ | ⟨hb15, h⟩
  · refine ev_goF kc_260 1 (t := 21) (e := 19) (L' := [some (.ref 215), some (.int l1), some (.int l2), some (.int l3), none, none]) (st' := []) rfl (mB_e0f hb15) ?_
    refine ev_go kc_260 1 (i' := 20) (L' := [some (.ref 215), some (.int l1), some (.int l2), some (.int l3), none, none]) (st' := [.int (0 : Int32)]) (M' := M14) rfl ?_
    obtain rfl := Option.some.inj h
    rw [hk]
    exact ev_ret kc_260 rfl rfl rfl
  · refine ev_goT kc_260 1 (t := 21) (e := 19) (L' := [some (.ref 215), some (.int l1), some (.int l2), some (.int l3), none, none]) (st' := []) rfl (mB_e0t hb15) ?_
    refine ev_go kc_260 2 (i' := 23) (L' := [some (.ref 215), some (.int l1), some (.int l2), some (.int l3), none, none]) (st' := [.ref 215, .int l3]) (M' := M14) rfl ?_
    obtain ⟨v16, hc16, h⟩ := o_b1 h
    refine ev_cl0 (ins := .invokevirtual 369) kc_260 rfl rfl (a := 191) (as := [.ref 215]) (rest := [.int l3]) rfl rfl (Cs.deep (c_X12_everybody (M0 := M14) hc16) (by decide)) ?_
    refine ev_go kc_260 5 (i' := 29) (L' := [some (.ref 215), some (.int l1), some (.int l2), some (.int l3), some (.int (l3 &&& v16)), none]) (st' := [.int l1, .ref 215, .ref 215]) (M' := M14) rfl ?_
    obtain ⟨v17, hc17, h⟩ := o_b1 h
    refine ev_cl0 (ins := .invokevirtual 82) kc_260 rfl rfl (a := 194) (as := [.ref 215, .int l1]) (rest := [.ref 215]) rfl rfl (Cs.deep (c_X12_isUp (M0 := M14) hc17) (by decide)) ?_
    rcases o_bif h with ⟨hb18, h⟩ | ⟨hb18, h⟩
    · refine ev_goT kc_260 1 (t := 36) (e := 31) (L' := [some (.ref 215), some (.int l1), some (.int l2), some (.int l3), some (.int (l3 &&& v16)), none]) (st' := [.ref 215]) rfl (mB_n0t hb18) ?_
      exact Ev.forget (mLe.kp (mLe.kp (mLe.kp (mLe.sk (mLe.kp (mLe.sk mLe.nl)))))) (e_X12_rise_36  h hk)
    · refine ev_goF kc_260 1 (t := 36) (e := 31) (L' := [some (.ref 215), some (.int l1), some (.int l2), some (.int l3), some (.int (l3 &&& v16)), none]) (st' := [.ref 215]) rfl (mB_n0f hb18) ?_
      refine ev_go kc_260 3 (i' := 34) (L' := [some (.ref 215), some (.int l1), some (.int l2), some (.int l3), some (.int (l3 &&& v16)), none]) (st' := [.int (l3 &&& v16), .int l2, .ref 215, .ref 215]) (M' := M14) rfl ?_
      obtain ⟨v19, hc19, h⟩ := o_b1 h
      refine ev_cl0 (ins := .invokevirtual 372) kc_260 rfl rfl (a := 259) (as := [.ref 215, .int l2, .int (l3 &&& v16)]) (rest := [.ref 215]) rfl rfl (Cs.deep (c_X12_wrongOn (M0 := M14) hc19) (by decide)) ?_
      rcases o_bif h with ⟨hb20, h⟩ | ⟨hb20, h⟩
      · refine ev_goF kc_260 1 (t := 38) (e := 36) (L' := [some (.ref 215), some (.int l1), some (.int l2), some (.int l3), some (.int (l3 &&& v16)), none]) (st' := [.ref 215]) rfl (mB_e0f hb20) ?_
        exact Ev.forget (mLe.kp (mLe.kp (mLe.kp (mLe.sk (mLe.kp (mLe.sk mLe.nl)))))) (e_X12_rise_36  h hk)
      · refine ev_goT kc_260 1 (t := 38) (e := 36) (L' := [some (.ref 215), some (.int l1), some (.int l2), some (.int l3), some (.int (l3 &&& v16)), none]) (st' := [.ref 215]) rfl (mB_e0t hb20) ?_
        refine ev_go kc_260 1 (i' := 39) (L' := [some (.ref 215), some (.int l1), some (.int l2), some (.int l3), some (.int (l3 &&& v16)), none]) (st' := [.int (0 : Int32), .ref 215]) (M' := M14) rfl ?_
        exact Ev.forget (mLe.kp (mLe.kp (mLe.kp (mLe.sk (mLe.kp (mLe.sk mLe.nl)))))) (e_X12_rise_39  h hk)
def f_X12_rise_13 (l1 : Int32) (l2 : Int32) (l3 : Int32) (M0 : mM) : Option (Int32 × mM) :=
  f_X12_rise_16 l1 l2 l3 true M0
set_option maxRecDepth 8000 in
theorem e_X12_rise_13 {l1 : Int32} {l2 : Int32} {l3 : Int32} {M0 : mM} {R : mZ} {out : (Int32 × mM)}  (h : f_X12_rise_13 l1 l2 l3 M0 = some out) (hk : R = emW eI out) : Ev (10) 260 13 [some (.ref 215), some (.int l1), some (.int l2), some (.int l3), none, none] [.ref 215] M0 R := by
  unfold f_X12_rise_13 at h
  refine ev_go kc_260 2 (i' := 16) (L' := [some (.ref 215), some (.int l1), some (.int l2), some (.int l3), none, none]) (st' := [.int (1 : Int32), .ref 215]) (M' := M0) rfl ?_
  exact Ev.forget (mLe.kp (mLe.kp (mLe.kp (mLe.kp (mLe.sk (mLe.sk mLe.nl)))))) (e_X12_rise_16  h hk)
def f_X12_rise (p1 : Int32) (p2 : Int32) (p3 : Int32) (M0 : mM) : Option (Int32 × mM) :=
  wr (mst M0 215 0 (0 : Int32)) (fun M21 => b1 (f_X12_nobody p1 M21) (fun v22 => bif v22 then (f_X12_rise_13 p1 p2 p3 M21) else (bif (f_X12_in p2 (0 : Int32) (4 : Int32)) then (f_X12_rise_16 p1 p2 p3 false M21) else (f_X12_rise_13 p1 p2 p3 M21))))
set_option maxRecDepth 8000 in
theorem c_X12_rise {p1 : Int32} {p2 : Int32} {p3 : Int32} {M0 : mM} {out : (Int32 × mM)} (h : f_X12_rise p1 p2 p3 M0 = some out) : Cs (10) 260 [.ref 215, .int p1, .int p2, .int p3] M0 (emW eI out) := by
  generalize hk : emW eI out = R
  replace hk := hk.symm
  unfold f_X12_rise at h
  show Ev (10) 260 0 [some (.ref 215), some (.int p1), some (.int p2), some (.int p3), none, none] [] M0 R
  refine ev_go kc_260 2 (i' := 2) (L' := [some (.ref 215), some (.int p1), some (.int p2), some (.int p3), none, none]) (st' := [.int (0 : Int32), .ref 215]) (M' := M0) rfl ?_
  obtain ⟨M21, hM21, h⟩ := o_wr h
  refine ev_pf kc_260 rfl rfl rfl rfl (fun hc => absurd hc (by decide)) hM21 ?_
  refine ev_go kc_260 3 (i' := 6) (L' := [some (.ref 215), some (.int p1), some (.int p2), some (.int p3), none, none]) (st' := [.int p1, .ref 215, .ref 215]) (M' := M21) rfl ?_
  obtain ⟨v22, hc22, h⟩ := o_b1 h
  refine ev_cl0 (ins := .invokevirtual 329) kc_260 rfl rfl (a := 201) (as := [.ref 215, .int p1]) (rest := [.ref 215]) rfl rfl (Cs.deep (c_X12_nobody (M0 := M21) hc22) (by decide)) ?_
  rcases o_bif h with ⟨hb23, h⟩ | ⟨hb23, h⟩
  · refine ev_goT kc_260 1 (t := 13) (e := 8) (L' := [some (.ref 215), some (.int p1), some (.int p2), some (.int p3), none, none]) (st' := [.ref 215]) rfl (mB_n0t hb23) ?_
    exact Ev.forget (mLe.kp (mLe.kp (mLe.kp (mLe.kp (mLe.sk (mLe.sk mLe.nl)))))) (e_X12_rise_13  h hk)
  · refine ev_goF kc_260 1 (t := 13) (e := 8) (L' := [some (.ref 215), some (.int p1), some (.int p2), some (.int p3), none, none]) (st' := [.ref 215]) rfl (mB_n0f hb23) ?_
    refine ev_go kc_260 3 (i' := 11) (L' := [some (.ref 215), some (.int p1), some (.int p2), some (.int p3), none, none]) (st' := [.int (4 : Int32), .int (0 : Int32), .int p2, .ref 215]) (M' := M21) rfl ?_
    refine ev_cl0 (ins := .invokestatic 92) kc_260 rfl rfl (a := 182) (as := [.int p2, .int (0 : Int32), .int (4 : Int32)]) (rest := [.ref 215]) rfl rfl (Cs.deep (c_X12_in (M0 := M21)) (by decide)) ?_
    rcases o_bif h with ⟨hb25, h⟩ | ⟨hb25, h⟩
    · refine ev_goT kc_260 1 (t := 15) (e := 13) (L' := [some (.ref 215), some (.int p1), some (.int p2), some (.int p3), none, none]) (st' := [.ref 215]) rfl (mB_n0t hb25) ?_
      refine ev_go kc_260 1 (i' := 16) (L' := [some (.ref 215), some (.int p1), some (.int p2), some (.int p3), none, none]) (st' := [.int (0 : Int32), .ref 215]) (M' := M21) rfl ?_
      exact Ev.forget (mLe.kp (mLe.kp (mLe.kp (mLe.kp (mLe.sk (mLe.sk mLe.nl)))))) (e_X12_rise_16  h hk)
    · refine ev_goF kc_260 1 (t := 15) (e := 13) (L' := [some (.ref 215), some (.int p1), some (.int p2), some (.int p3), none, none]) (st' := [.ref 215]) rfl (mB_n0f hb25) ?_
      exact Ev.forget (mLe.kp (mLe.kp (mLe.kp (mLe.kp (mLe.sk (mLe.sk mLe.nl)))))) (e_X12_rise_13  h hk)
/-- WakeTowerModel.out(I)I: 261, W -/
theorem kc_261 : mKc 261 = k_X12_out := rfl
def f_X12_out_18 (l1 : Int32) (s1 : Bool) (M0 : mM) : Option (Int32 × mM) :=
  b2 (f_X12_throwsIf s1 (2 : Int32) M0) (fun v1 M1 => bif v1 then (some ((0 : Int32), M1)) else (b2 (f_X12_keepsAll M1) (fun v3 M3 => b2 (f_X12_comesOut l1 M3) (fun v4 M4 => b2 (f_X12_cannot M4) (fun v5 M5 => b2 (f_X12_throwsIf v5 (2 : Int32) M5) (fun v6 M6 => bif v6 then (some ((0 : Int32), M6)) else (b2 (f_X12_borneByAll M6) (fun v8 M8 => some (v8, M8)))))))))
set_option maxRecDepth 8000 in
theorem e_X12_out_18 {l1 : Int32} {s1 : Bool} {M0 : mM} {R : mZ} {out : (Int32 × mM)}  (h : f_X12_out_18 l1 s1 M0 = some out) (hk : R = emW eI out) : Ev (10) 261 18 [some (.ref 215), some (.int l1), none] [.int (mB s1), .ref 215] M0 R := by
  unfold f_X12_out_18 at h
  refine ev_go kc_261 1 (i' := 19) (L' := [some (.ref 215), some (.int l1), none]) (st' := [.int (2 : Int32), .int (mB s1), .ref 215]) (M' := M0) rfl ?_
  obtain ⟨v1, M1, hc1, h⟩ := o_b2 h
  refine ev_cl0 (ins := .invokevirtual 304) kc_261 rfl rfl (a := 181) (as := [.ref 215, .int (mB s1), .int (2 : Int32)]) (rest := []) rfl rfl (Cs.deep (c_X12_throwsIf hc1) (by decide)) ?_
  rcases o_bif h with ⟨hb2, h⟩ | ⟨hb2, h⟩
  · refine ev_goF kc_261 1 (t := 23) (e := 21) (L' := [some (.ref 215), some (.int l1), none]) (st' := []) rfl (mB_e0f hb2) ?_
    refine ev_go kc_261 1 (i' := 22) (L' := [some (.ref 215), some (.int l1), none]) (st' := [.int (0 : Int32)]) (M' := M1) rfl ?_
    obtain rfl := Option.some.inj h
    rw [hk]
    exact ev_ret kc_261 rfl rfl rfl
  · refine ev_goT kc_261 1 (t := 23) (e := 21) (L' := [some (.ref 215), some (.int l1), none]) (st' := []) rfl (mB_e0t hb2) ?_
    refine ev_go kc_261 1 (i' := 24) (L' := [some (.ref 215), some (.int l1), none]) (st' := [.ref 215]) (M' := M1) rfl ?_
    obtain ⟨v3, M3, hc3, h⟩ := o_b2 h
    refine ev_cl0 (ins := .invokevirtual 353) kc_261 rfl rfl (a := 188) (as := [.ref 215]) (rest := []) rfl rfl (Cs.deep (c_X12_keepsAll hc3) (by decide)) ?_
    refine ev_go kc_261 2 (i' := 27) (L' := [some (.ref 215), some (.int l1), none]) (st' := [.int l1, .ref 215]) (M' := M3) rfl ?_
    obtain ⟨v4, M4, hc4, h⟩ := o_b2 h
    refine ev_cl0 (ins := .invokevirtual 126) kc_261 rfl rfl (a := 211) (as := [.ref 215, .int l1]) (rest := []) rfl rfl (Cs.deep (c_X12_comesOut hc4) (by decide)) ?_
    refine ev_go kc_261 1 (i' := 29) (L' := [some (.ref 215), some (.int l1), none]) (st' := [.ref 215]) (M' := M4) rfl ?_
    obtain ⟨v5, M5, hc5, h⟩ := o_b2 h
    refine ev_cl0 (ins := .invokevirtual 375) kc_261 rfl rfl (a := 258) (as := [.ref 215]) (rest := []) rfl rfl (Cs.deep (c_X12_cannot hc5) (by decide)) ?_
    refine ev_go kc_261 4 (i' := 34) (L' := [some (.ref 215), some (.int l1), some (.int (mB v5))]) (st' := [.int (2 : Int32), .int (mB v5), .ref 215]) (M' := M5) rfl ?_
    obtain ⟨v6, M6, hc6, h⟩ := o_b2 h
    refine ev_cl0 (ins := .invokevirtual 304) kc_261 rfl rfl (a := 181) (as := [.ref 215, .int (mB v5), .int (2 : Int32)]) (rest := []) rfl rfl (Cs.deep (c_X12_throwsIf hc6) (by decide)) ?_
    rcases o_bif h with ⟨hb7, h⟩ | ⟨hb7, h⟩
    · refine ev_goF kc_261 1 (t := 38) (e := 36) (L' := [some (.ref 215), some (.int l1), some (.int (mB v5))]) (st' := []) rfl (mB_e0f hb7) ?_
      refine ev_go kc_261 2 (i' := 40) (L' := [some (.ref 215), some (.int l1), some (.int (mB v5))]) (st' := [.int (0 : Int32)]) (M' := M6) rfl ?_
      obtain rfl := Option.some.inj h
      rw [hk]
      exact ev_ret kc_261 rfl rfl rfl
    · refine ev_goT kc_261 1 (t := 38) (e := 36) (L' := [some (.ref 215), some (.int l1), some (.int (mB v5))]) (st' := []) rfl (mB_e0t hb7) ?_
      refine ev_go kc_261 1 (i' := 39) (L' := [some (.ref 215), some (.int l1), some (.int (mB v5))]) (st' := [.ref 215]) (M' := M6) rfl ?_
      obtain ⟨v8, M8, hc8, h⟩ := o_b2 h
      refine ev_cl0 (ins := .invokevirtual 326) kc_261 rfl rfl (a := 206) (as := [.ref 215]) (rest := []) rfl rfl (Cs.deep (c_X12_borneByAll hc8) (by decide)) ?_
      obtain rfl := Option.some.inj h
      rw [hk]
      exact ev_ret kc_261 rfl rfl rfl
def f_X12_out (p1 : Int32) (M0 : mM) : Option (Int32 × mM) :=
  wr (mst M0 215 0 (0 : Int32)) (fun M9 => b1 (f_X12_nobody p1 M9) (fun v10 => b2 (f_X12_throwsIf v10 (1 : Int32) M9) (fun v11 M11 => bif v11 then (some ((0 : Int32), M11)) else (b1 (f_X12_isUp p1 M11) (fun v13 => bif v13 then (f_X12_out_18 p1 false M11) else (f_X12_out_18 p1 true M11))))))
set_option maxRecDepth 8000 in
theorem c_X12_out {p1 : Int32} {M0 : mM} {out : (Int32 × mM)} (h : f_X12_out p1 M0 = some out) : Cs (10) 261 [.ref 215, .int p1] M0 (emW eI out) := by
  generalize hk : emW eI out = R
  replace hk := hk.symm
  unfold f_X12_out at h
  show Ev (10) 261 0 [some (.ref 215), some (.int p1), none] [] M0 R
  refine ev_go kc_261 2 (i' := 2) (L' := [some (.ref 215), some (.int p1), none]) (st' := [.int (0 : Int32), .ref 215]) (M' := M0) rfl ?_
  obtain ⟨M9, hM9, h⟩ := o_wr h
  refine ev_pf kc_261 rfl rfl rfl rfl (fun hc => absurd hc (by decide)) hM9 ?_
  refine ev_go kc_261 3 (i' := 6) (L' := [some (.ref 215), some (.int p1), none]) (st' := [.int p1, .ref 215, .ref 215]) (M' := M9) rfl ?_
  obtain ⟨v10, hc10, h⟩ := o_b1 h
  refine ev_cl0 (ins := .invokevirtual 329) kc_261 rfl rfl (a := 201) (as := [.ref 215, .int p1]) (rest := [.ref 215]) rfl rfl (Cs.deep (c_X12_nobody (M0 := M9) hc10) (by decide)) ?_
  refine ev_go kc_261 1 (i' := 8) (L' := [some (.ref 215), some (.int p1), none]) (st' := [.int (1 : Int32), .int (mB v10), .ref 215]) (M' := M9) rfl ?_
  obtain ⟨v11, M11, hc11, h⟩ := o_b2 h
  refine ev_cl0 (ins := .invokevirtual 304) kc_261 rfl rfl (a := 181) (as := [.ref 215, .int (mB v10), .int (1 : Int32)]) (rest := []) rfl rfl (Cs.deep (c_X12_throwsIf hc11) (by decide)) ?_
  rcases o_bif h with ⟨hb12, h⟩ | ⟨hb12, h⟩
  · refine ev_goT kc_261 1 (t := 21) (e := 10) (L' := [some (.ref 215), some (.int p1), none]) (st' := []) rfl (mB_n0t hb12) ?_
    refine ev_go kc_261 1 (i' := 22) (L' := [some (.ref 215), some (.int p1), none]) (st' := [.int (0 : Int32)]) (M' := M11) rfl ?_
    obtain rfl := Option.some.inj h
    rw [hk]
    exact ev_ret kc_261 rfl rfl rfl
  · refine ev_goF kc_261 1 (t := 21) (e := 10) (L' := [some (.ref 215), some (.int p1), none]) (st' := []) rfl (mB_n0f hb12) ?_
    refine ev_go kc_261 3 (i' := 13) (L' := [some (.ref 215), some (.int p1), none]) (st' := [.int p1, .ref 215, .ref 215]) (M' := M11) rfl ?_
    obtain ⟨v13, hc13, h⟩ := o_b1 h
    refine ev_cl0 (ins := .invokevirtual 82) kc_261 rfl rfl (a := 194) (as := [.ref 215, .int p1]) (rest := [.ref 215]) rfl rfl (Cs.deep (c_X12_isUp (M0 := M11) hc13) (by decide)) ?_
    rcases o_bif h with ⟨hb14, h⟩ | ⟨hb14, h⟩
    · refine ev_goT kc_261 1 (t := 17) (e := 15) (L' := [some (.ref 215), some (.int p1), none]) (st' := [.ref 215]) rfl (mB_n0t hb14) ?_
      refine ev_go kc_261 1 (i' := 18) (L' := [some (.ref 215), some (.int p1), none]) (st' := [.int (0 : Int32), .ref 215]) (M' := M11) rfl ?_
      exact Ev.forget (mLe.kp (mLe.kp (mLe.sk mLe.nl))) (e_X12_out_18  h hk)
    · refine ev_goF kc_261 1 (t := 17) (e := 15) (L' := [some (.ref 215), some (.int p1), none]) (st' := [.ref 215]) rfl (mB_n0f hb14) ?_
      refine ev_go kc_261 2 (i' := 18) (L' := [some (.ref 215), some (.int p1), none]) (st' := [.int (1 : Int32), .ref 215]) (M' := M11) rfl ?_
      exact Ev.forget (mLe.kp (mLe.kp (mLe.sk mLe.nl))) (e_X12_out_18  h hk)
/-- WakeTowerModel.changes(II)V: 262, W -/
theorem kc_262 : mKc 262 = k_X12_changes := rfl
def f_X12_changes_22 (l1 : Int32) (l2 : Int32) (l3 : Int32) (M0 : mM) : Option ((Unit × mM) ⊕ (Int32 × mM)) :=
  b1 (f_X12_people M0) (fun v1 => bif decide (v1 ≤ l3) then (b2 (f_X12_comesOut l1 M0) (fun v3 M3 => some (.inl ((), M3)))) else (b1 (f_X12_of l3 (6 : Int32) M0) (fun v4 => bif (f_X12_has v4 l1) then (gd (mIn (f_X12_at l3 (6 : Int32)) 2122) (gd (mIn (f_X12_at l3 (6 : Int32)) 2122) (wr (mst M0 216 (ix (f_X12_at l3 (6 : Int32))) ((M0 216 (ix (f_X12_at l3 (6 : Int32)))) ||| ((1 : Int32) <<< (l2 &&& (31 : Int32))))) (fun M9 => some (.inr ((l3 + (1 : Int32)), M9)))))) else (some (.inr ((l3 + (1 : Int32)), M0))))))
set_option maxRecDepth 8000 in
theorem e_X12_changes_22 {l1 : Int32} {l2 : Int32} {l3 : Int32} {M0 : mM} {R : mZ} {out : ((Unit × mM) ⊕ (Int32 × mM))}  (h : f_X12_changes_22 l1 l2 l3 M0 = some out) (hk : (∀ s' : Int32 × mM, out = .inr s' → Ev (2) 262 22 [some (.ref 215), some (.int l1), some (.int l2), some (.int s'.1)] [] (s'.2) R) ∧ (∀ e1 : (Unit × mM), out = .inl e1 → R = emW eU e1)) : Ev (2) 262 22 [some (.ref 215), some (.int l1), some (.int l2), some (.int l3)] [] M0 R := by
  unfold f_X12_changes_22 at h
  refine ev_go kc_262 2 (i' := 24) (L' := [some (.ref 215), some (.int l1), some (.int l2), some (.int l3)]) (st' := [.ref 215, .int l3]) (M' := M0) rfl ?_
  obtain ⟨v1, hc1, h⟩ := o_b1 h
  refine ev_cl0 (ins := .invokevirtual 71) kc_262 rfl rfl (a := 190) (as := [.ref 215]) (rest := [.int l3]) rfl rfl (Cs.deep (c_X12_people (M0 := M0) hc1) (by decide)) ?_
  rcases o_bif h with ⟨hb2, h⟩ | ⟨hb2, h⟩
  · refine ev_goT kc_262 1 (t := 47) (e := 26) (L' := [some (.ref 215), some (.int l1), some (.int l2), some (.int l3)]) (st' := []) rfl hb2 ?_
    refine ev_go kc_262 2 (i' := 49) (L' := [some (.ref 215), some (.int l1), some (.int l2), some (.int l3)]) (st' := [.int l1, .ref 215]) (M' := M0) rfl ?_
    obtain ⟨v3, M3, hc3, h⟩ := o_b2 h
    refine ev_cl0 (ins := .invokevirtual 126) kc_262 rfl rfl (a := 211) (as := [.ref 215, .int l1]) (rest := []) rfl rfl (Cs.deep (c_X12_comesOut hc3) (by decide)) ?_
    obtain rfl := Option.some.inj h
    rw [show _ from (hk.2 _ rfl)]
    exact ev_vret kc_262 rfl rfl rfl
  · refine ev_goF kc_262 1 (t := 47) (e := 26) (L' := [some (.ref 215), some (.int l1), some (.int l2), some (.int l3)]) (st' := []) rfl hb2 ?_
    refine ev_go kc_262 3 (i' := 29) (L' := [some (.ref 215), some (.int l1), some (.int l2), some (.int l3)]) (st' := [.int (6 : Int32), .int l3, .ref 215]) (M' := M0) rfl ?_
    obtain ⟨v4, hc4, h⟩ := o_b1 h
    refine ev_cl0 (ins := .invokevirtual 79) kc_262 rfl rfl (a := 193) (as := [.ref 215, .int l3, .int (6 : Int32)]) (rest := []) rfl rfl (Cs.deep (c_X12_of (M0 := M0) hc4) (by decide)) ?_
    refine ev_go kc_262 1 (i' := 31) (L' := [some (.ref 215), some (.int l1), some (.int l2), some (.int l3)]) (st' := [.int l1, .int v4]) (M' := M0) rfl ?_
    refine ev_cl0 (ins := .invokestatic 106) kc_262 rfl rfl (a := 183) (as := [.int v4, .int l1]) (rest := []) rfl rfl (Cs.deep (c_X12_has (M0 := M0)) (by decide)) ?_
    rcases o_bif h with ⟨hb6, h⟩ | ⟨hb6, h⟩
    · refine ev_goF kc_262 1 (t := 45) (e := 33) (L' := [some (.ref 215), some (.int l1), some (.int l2), some (.int l3)]) (st' := []) rfl (mB_e0f hb6) ?_
      refine ev_go kc_262 4 (i' := 37) (L' := [some (.ref 215), some (.int l1), some (.int l2), some (.int l3)]) (st' := [.int (6 : Int32), .int l3, .ref 216]) (M' := M0) rfl ?_
      refine ev_cl0 (ins := .invokestatic 75) kc_262 rfl rfl (a := 192) (as := [.int l3, .int (6 : Int32)]) (rest := [.ref 216]) rfl rfl (Cs.deep (c_X12_at (M0 := M0)) (by decide)) ?_
      refine ev_go kc_262 1 (i' := 39) (L' := [some (.ref 215), some (.int l1), some (.int l2), some (.int l3)]) (st' := [.int (f_X12_at l3 (6 : Int32)), .ref 216, .int (f_X12_at l3 (6 : Int32)), .ref 216]) (M' := M0) rfl ?_
      obtain ⟨hg8, h⟩ := o_gd h
      refine ev_ia kc_262 rfl rfl hg8 ?_
      refine ev_go kc_262 4 (i' := 44) (L' := [some (.ref 215), some (.int l1), some (.int l2), some (.int l3)]) (st' := [.int ((M0 216 (ix (f_X12_at l3 (6 : Int32)))) ||| ((1 : Int32) <<< (l2 &&& (31 : Int32)))), .int (f_X12_at l3 (6 : Int32)), .ref 216]) (M' := M0) rfl ?_
      obtain ⟨hg10, h⟩ := o_gd h
      obtain ⟨M9, hM9, h⟩ := o_wr h
      refine ev_is kc_262 rfl rfl hg10 hM9 ?_
      refine ev_go kc_262 2 (i' := 22) (L' := [some (.ref 215), some (.int l1), some (.int l2), some (.int (l3 + (1 : Int32)))]) (st' := []) (M' := M9) rfl ?_
      obtain rfl := Option.some.inj h
      exact Ev.forget (mLe.kp (mLe.kp (mLe.kp (mLe.kp mLe.nl)))) (hk.1 ((l3 + (1 : Int32)), M9) rfl)
    · refine ev_goT kc_262 1 (t := 45) (e := 33) (L' := [some (.ref 215), some (.int l1), some (.int l2), some (.int l3)]) (st' := []) rfl (mB_e0t hb6) ?_
      refine ev_go kc_262 2 (i' := 22) (L' := [some (.ref 215), some (.int l1), some (.int l2), some (.int (l3 + (1 : Int32)))]) (st' := []) (M' := M0) rfl ?_
      obtain rfl := Option.some.inj h
      exact Ev.forget (mLe.kp (mLe.kp (mLe.kp (mLe.kp mLe.nl)))) (hk.1 ((l3 + (1 : Int32)), M0) rfl)
def f_X12_changes_l22 (l1 : Int32) (l2 : Int32) (l3 : Int32) (M0 : mM) : Option (Unit × mM) :=
  wh 100000 (fun s : Int32 × mM => f_X12_changes_22 l1 l2 s.1 s.2) (l3, M0)
theorem e_X12_changes_l22 {l1 : Int32} {l2 : Int32} {l3 : Int32} {M0 : mM} {R : mZ} {out : (Unit × mM)}  (h : f_X12_changes_l22 l1 l2 l3 M0 = some out) (hk : R = emW eU out) : Ev (2) 262 22 [some (.ref 215), some (.int l1), some (.int l2), some (.int l3)] [] M0 R := by
  unfold f_X12_changes_l22 at h
  exact wh_ev (P := fun s : Int32 × mM => Ev (2) 262 22 [some (.ref 215), some (.int l1), some (.int l2), some (.int s.1)] [] s.2 R) (Q := fun e : (Unit × mM) => R = emW eU e) (fun s o hb h1 h2 => e_X12_changes_22  hb ⟨h1, h2⟩) 100000 _ _ h hk
def f_X12_changes (p1 : Int32) (p2 : Int32) (M0 : mM) : Option (Unit × mM) :=
  b1 (f_X12_of p1 (5 : Int32) M0) (fun v12 => gd (mIn (f_X12_at p2 (5 : Int32)) 2122) (wr (mst M0 216 (ix (f_X12_at p2 (5 : Int32))) v12) (fun M13 => b1 (f_X12_of p1 (6 : Int32) M13) (fun v16 => gd (mIn (f_X12_at p2 (6 : Int32)) 2122) (wr (mst M13 216 (ix (f_X12_at p2 (6 : Int32))) v16) (fun M17 => f_X12_changes_l22 p1 p2 (0 : Int32) M17))))))
set_option maxRecDepth 8000 in
theorem c_X12_changes {p1 : Int32} {p2 : Int32} {M0 : mM} {out : (Unit × mM)} (h : f_X12_changes p1 p2 M0 = some out) : Cs (2) 262 [.ref 215, .int p1, .int p2] M0 (emW eU out) := by
  generalize hk : emW eU out = R
  replace hk := hk.symm
  unfold f_X12_changes at h
  show Ev (2) 262 0 [some (.ref 215), some (.int p1), some (.int p2), none] [] M0 R
  refine ev_go kc_262 4 (i' := 4) (L' := [some (.ref 215), some (.int p1), some (.int p2), none]) (st' := [.int (5 : Int32), .int p2, .ref 216]) (M' := M0) rfl ?_
  refine ev_cl0 (ins := .invokestatic 75) kc_262 rfl rfl (a := 192) (as := [.int p2, .int (5 : Int32)]) (rest := [.ref 216]) rfl rfl (Cs.deep (c_X12_at (M0 := M0)) (by decide)) ?_
  refine ev_go kc_262 3 (i' := 8) (L' := [some (.ref 215), some (.int p1), some (.int p2), none]) (st' := [.int (5 : Int32), .int p1, .ref 215, .int (f_X12_at p2 (5 : Int32)), .ref 216]) (M' := M0) rfl ?_
  obtain ⟨v12, hc12, h⟩ := o_b1 h
  refine ev_cl0 (ins := .invokevirtual 79) kc_262 rfl rfl (a := 193) (as := [.ref 215, .int p1, .int (5 : Int32)]) (rest := [.int (f_X12_at p2 (5 : Int32)), .ref 216]) rfl rfl (Cs.deep (c_X12_of (M0 := M0) hc12) (by decide)) ?_
  obtain ⟨hg14, h⟩ := o_gd h
  obtain ⟨M13, hM13, h⟩ := o_wr h
  refine ev_is kc_262 rfl rfl hg14 hM13 ?_
  refine ev_go kc_262 4 (i' := 14) (L' := [some (.ref 215), some (.int p1), some (.int p2), none]) (st' := [.int (6 : Int32), .int p2, .ref 216]) (M' := M13) rfl ?_
  refine ev_cl0 (ins := .invokestatic 75) kc_262 rfl rfl (a := 192) (as := [.int p2, .int (6 : Int32)]) (rest := [.ref 216]) rfl rfl (Cs.deep (c_X12_at (M0 := M13)) (by decide)) ?_
  refine ev_go kc_262 3 (i' := 18) (L' := [some (.ref 215), some (.int p1), some (.int p2), none]) (st' := [.int (6 : Int32), .int p1, .ref 215, .int (f_X12_at p2 (6 : Int32)), .ref 216]) (M' := M13) rfl ?_
  obtain ⟨v16, hc16, h⟩ := o_b1 h
  refine ev_cl0 (ins := .invokevirtual 79) kc_262 rfl rfl (a := 193) (as := [.ref 215, .int p1, .int (6 : Int32)]) (rest := [.int (f_X12_at p2 (6 : Int32)), .ref 216]) rfl rfl (Cs.deep (c_X12_of (M0 := M13) hc16) (by decide)) ?_
  obtain ⟨hg18, h⟩ := o_gd h
  obtain ⟨M17, hM17, h⟩ := o_wr h
  refine ev_is kc_262 rfl rfl hg18 hM17 ?_
  refine ev_go kc_262 2 (i' := 22) (L' := [some (.ref 215), some (.int p1), some (.int p2), some (.int (0 : Int32))]) (st' := []) (M' := M17) rfl ?_
  exact Ev.forget (mLe.kp (mLe.kp (mLe.kp (mLe.kp mLe.nl)))) (e_X12_changes_l22  h hk)
/-- WakeTowerModel.relieve(II)I: 263, W -/
theorem kc_263 : mKc 263 = k_X12_relieve := rfl
def f_X12_relieve_40 (l1 : Int32) (l2 : Int32) (s1 : Bool) (M0 : mM) : Option (Int32 × mM) :=
  b2 (f_X12_throwsIf s1 (3 : Int32) M0) (fun v1 M1 => bif v1 then (some ((0 : Int32), M1)) else (b2 (f_X12_keepsAll M1) (fun v3 M3 => b2 (f_X12_changes l1 l2 M3) (fun v4 M4 => b2 (f_X12_cannot M4) (fun v5 M5 => b2 (f_X12_throwsIf v5 (3 : Int32) M5) (fun v6 M6 => bif v6 then (some ((0 : Int32), M6)) else (b2 (f_X12_borneBy l2 M6) (fun v8 M8 => some (v8, M8)))))))))
set_option maxRecDepth 8000 in
theorem e_X12_relieve_40 {l1 : Int32} {l2 : Int32} {s1 : Bool} {M0 : mM} {R : mZ} {out : (Int32 × mM)}  (h : f_X12_relieve_40 l1 l2 s1 M0 = some out) (hk : R = emW eI out) : Ev (10) 263 40 [some (.ref 215), some (.int l1), some (.int l2), none] [.int (mB s1), .ref 215] M0 R := by
  unfold f_X12_relieve_40 at h
  refine ev_go kc_263 1 (i' := 41) (L' := [some (.ref 215), some (.int l1), some (.int l2), none]) (st' := [.int (3 : Int32), .int (mB s1), .ref 215]) (M' := M0) rfl ?_
  obtain ⟨v1, M1, hc1, h⟩ := o_b2 h
  refine ev_cl0 (ins := .invokevirtual 304) kc_263 rfl rfl (a := 181) (as := [.ref 215, .int (mB s1), .int (3 : Int32)]) (rest := []) rfl rfl (Cs.deep (c_X12_throwsIf hc1) (by decide)) ?_
  rcases o_bif h with ⟨hb2, h⟩ | ⟨hb2, h⟩
  · refine ev_goF kc_263 1 (t := 45) (e := 43) (L' := [some (.ref 215), some (.int l1), some (.int l2), none]) (st' := []) rfl (mB_e0f hb2) ?_
    refine ev_go kc_263 1 (i' := 44) (L' := [some (.ref 215), some (.int l1), some (.int l2), none]) (st' := [.int (0 : Int32)]) (M' := M1) rfl ?_
    obtain rfl := Option.some.inj h
    rw [hk]
    exact ev_ret kc_263 rfl rfl rfl
  · refine ev_goT kc_263 1 (t := 45) (e := 43) (L' := [some (.ref 215), some (.int l1), some (.int l2), none]) (st' := []) rfl (mB_e0t hb2) ?_
    refine ev_go kc_263 1 (i' := 46) (L' := [some (.ref 215), some (.int l1), some (.int l2), none]) (st' := [.ref 215]) (M' := M1) rfl ?_
    obtain ⟨v3, M3, hc3, h⟩ := o_b2 h
    refine ev_cl0 (ins := .invokevirtual 353) kc_263 rfl rfl (a := 188) (as := [.ref 215]) (rest := []) rfl rfl (Cs.deep (c_X12_keepsAll hc3) (by decide)) ?_
    refine ev_go kc_263 3 (i' := 50) (L' := [some (.ref 215), some (.int l1), some (.int l2), none]) (st' := [.int l2, .int l1, .ref 215]) (M' := M3) rfl ?_
    obtain ⟨v4, M4, hc4, h⟩ := o_b2 h
    refine ev_cl0 (ins := .invokevirtual 378) kc_263 rfl rfl (a := 262) (as := [.ref 215, .int l1, .int l2]) (rest := []) rfl rfl (Cs.deep (c_X12_changes hc4) (by decide)) ?_
    refine ev_go kc_263 1 (i' := 52) (L' := [some (.ref 215), some (.int l1), some (.int l2), none]) (st' := [.ref 215]) (M' := M4) rfl ?_
    obtain ⟨v5, M5, hc5, h⟩ := o_b2 h
    refine ev_cl0 (ins := .invokevirtual 375) kc_263 rfl rfl (a := 258) (as := [.ref 215]) (rest := []) rfl rfl (Cs.deep (c_X12_cannot hc5) (by decide)) ?_
    refine ev_go kc_263 4 (i' := 57) (L' := [some (.ref 215), some (.int l1), some (.int l2), some (.int (mB v5))]) (st' := [.int (3 : Int32), .int (mB v5), .ref 215]) (M' := M5) rfl ?_
    obtain ⟨v6, M6, hc6, h⟩ := o_b2 h
    refine ev_cl0 (ins := .invokevirtual 304) kc_263 rfl rfl (a := 181) (as := [.ref 215, .int (mB v5), .int (3 : Int32)]) (rest := []) rfl rfl (Cs.deep (c_X12_throwsIf hc6) (by decide)) ?_
    rcases o_bif h with ⟨hb7, h⟩ | ⟨hb7, h⟩
    · refine ev_goF kc_263 1 (t := 61) (e := 59) (L' := [some (.ref 215), some (.int l1), some (.int l2), some (.int (mB v5))]) (st' := []) rfl (mB_e0f hb7) ?_
      refine ev_go kc_263 2 (i' := 64) (L' := [some (.ref 215), some (.int l1), some (.int l2), some (.int (mB v5))]) (st' := [.int (0 : Int32)]) (M' := M6) rfl ?_
      obtain rfl := Option.some.inj h
      rw [hk]
      exact ev_ret kc_263 rfl rfl rfl
    · refine ev_goT kc_263 1 (t := 61) (e := 59) (L' := [some (.ref 215), some (.int l1), some (.int l2), some (.int (mB v5))]) (st' := []) rfl (mB_e0t hb7) ?_
      refine ev_go kc_263 2 (i' := 63) (L' := [some (.ref 215), some (.int l1), some (.int l2), some (.int (mB v5))]) (st' := [.int l2, .ref 215]) (M' := M6) rfl ?_
      obtain ⟨v8, M8, hc8, h⟩ := o_b2 h
      refine ev_cl0 (ins := .invokevirtual 323) kc_263 rfl rfl (a := 205) (as := [.ref 215, .int l2]) (rest := []) rfl rfl (Cs.deep (c_X12_borneBy hc8) (by decide)) ?_
      obtain rfl := Option.some.inj h
      rw [hk]
      exact ev_ret kc_263 rfl rfl rfl
def f_X12_relieve_37 (l1 : Int32) (l2 : Int32) (M0 : mM) : Option (Int32 × mM) :=
  f_X12_relieve_40 l1 l2 true M0
set_option maxRecDepth 8000 in
theorem e_X12_relieve_37 {l1 : Int32} {l2 : Int32} {M0 : mM} {R : mZ} {out : (Int32 × mM)}  (h : f_X12_relieve_37 l1 l2 M0 = some out) (hk : R = emW eI out) : Ev (10) 263 37 [some (.ref 215), some (.int l1), some (.int l2), none] [.ref 215] M0 R := by
  unfold f_X12_relieve_37 at h
  refine ev_go kc_263 2 (i' := 40) (L' := [some (.ref 215), some (.int l1), some (.int l2), none]) (st' := [.int (1 : Int32), .ref 215]) (M' := M0) rfl ?_
  exact Ev.forget (mLe.kp (mLe.kp (mLe.kp (mLe.sk mLe.nl)))) (e_X12_relieve_40  h hk)
def f_X12_relieve_25 (l1 : Int32) (l2 : Int32) (s1 : Bool) (M0 : mM) : Option (Int32 × mM) :=
  b2 (f_X12_throwsIf s1 (2 : Int32) M0) (fun v9 M9 => bif v9 then (some ((0 : Int32), M9)) else (b1 (f_X12_isUp l1 M9) (fun v11 => bif v11 then (b1 (f_X12_isUp l2 M9) (fun v13 => bif v13 then (f_X12_relieve_37 l1 l2 M9) else (f_X12_relieve_40 l1 l2 false M9))) else (f_X12_relieve_37 l1 l2 M9))))
set_option maxRecDepth 8000 in
theorem e_X12_relieve_25 {l1 : Int32} {l2 : Int32} {s1 : Bool} {M0 : mM} {R : mZ} {out : (Int32 × mM)}  (h : f_X12_relieve_25 l1 l2 s1 M0 = some out) (hk : R = emW eI out) : Ev (10) 263 25 [some (.ref 215), some (.int l1), some (.int l2), none] [.int (mB s1), .ref 215] M0 R := by
  unfold f_X12_relieve_25 at h
  refine ev_go kc_263 1 (i' := 26) (L' := [some (.ref 215), some (.int l1), some (.int l2), none]) (st' := [.int (2 : Int32), .int (mB s1), .ref 215]) (M' := M0) rfl ?_
  obtain ⟨v9, M9, hc9, h⟩ := o_b2 h
  refine ev_cl0 (ins := .invokevirtual 304) kc_263 rfl rfl (a := 181) (as := [.ref 215, .int (mB s1), .int (2 : Int32)]) (rest := []) rfl rfl (Cs.deep (c_X12_throwsIf hc9) (by decide)) ?_
  rcases o_bif h with ⟨hb10, h⟩ | ⟨hb10, h⟩
  · refine ev_goT kc_263 1 (t := 43) (e := 28) (L' := [some (.ref 215), some (.int l1), some (.int l2), none]) (st' := []) rfl (mB_n0t hb10) ?_
    refine ev_go kc_263 1 (i' := 44) (L' := [some (.ref 215), some (.int l1), some (.int l2), none]) (st' := [.int (0 : Int32)]) (M' := M9) rfl ?_
    obtain rfl := Option.some.inj h
    rw [hk]
    exact ev_ret kc_263 rfl rfl rfl
  · refine ev_goF kc_263 1 (t := 43) (e := 28) (L' := [some (.ref 215), some (.int l1), some (.int l2), none]) (st' := []) rfl (mB_n0f hb10) ?_
    refine ev_go kc_263 3 (i' := 31) (L' := [some (.ref 215), some (.int l1), some (.int l2), none]) (st' := [.int l1, .ref 215, .ref 215]) (M' := M9) rfl ?_
    obtain ⟨v11, hc11, h⟩ := o_b1 h
    refine ev_cl0 (ins := .invokevirtual 82) kc_263 rfl rfl (a := 194) (as := [.ref 215, .int l1]) (rest := [.ref 215]) rfl rfl (Cs.deep (c_X12_isUp (M0 := M9) hc11) (by decide)) ?_
    rcases o_bif h with ⟨hb12, h⟩ | ⟨hb12, h⟩
    · refine ev_goF kc_263 1 (t := 37) (e := 33) (L' := [some (.ref 215), some (.int l1), some (.int l2), none]) (st' := [.ref 215]) rfl (mB_e0f hb12) ?_
      refine ev_go kc_263 2 (i' := 35) (L' := [some (.ref 215), some (.int l1), some (.int l2), none]) (st' := [.int l2, .ref 215, .ref 215]) (M' := M9) rfl ?_
      obtain ⟨v13, hc13, h⟩ := o_b1 h
      refine ev_cl0 (ins := .invokevirtual 82) kc_263 rfl rfl (a := 194) (as := [.ref 215, .int l2]) (rest := [.ref 215]) rfl rfl (Cs.deep (c_X12_isUp (M0 := M9) hc13) (by decide)) ?_
      rcases o_bif h with ⟨hb14, h⟩ | ⟨hb14, h⟩
      · refine ev_goF kc_263 1 (t := 39) (e := 37) (L' := [some (.ref 215), some (.int l1), some (.int l2), none]) (st' := [.ref 215]) rfl (mB_e0f hb14) ?_
        exact Ev.forget (mLe.kp (mLe.kp (mLe.kp (mLe.sk mLe.nl)))) (e_X12_relieve_37  h hk)
      · refine ev_goT kc_263 1 (t := 39) (e := 37) (L' := [some (.ref 215), some (.int l1), some (.int l2), none]) (st' := [.ref 215]) rfl (mB_e0t hb14) ?_
        refine ev_go kc_263 1 (i' := 40) (L' := [some (.ref 215), some (.int l1), some (.int l2), none]) (st' := [.int (0 : Int32), .ref 215]) (M' := M9) rfl ?_
        exact Ev.forget (mLe.kp (mLe.kp (mLe.kp (mLe.sk mLe.nl)))) (e_X12_relieve_40  h hk)
    · refine ev_goT kc_263 1 (t := 37) (e := 33) (L' := [some (.ref 215), some (.int l1), some (.int l2), none]) (st' := [.ref 215]) rfl (mB_e0t hb12) ?_
      exact Ev.forget (mLe.kp (mLe.kp (mLe.kp (mLe.sk mLe.nl)))) (e_X12_relieve_37  h hk)
def f_X12_relieve_15 (l1 : Int32) (l2 : Int32) (s1 : Bool) (M0 : mM) : Option (Int32 × mM) :=
  b2 (f_X12_throwsIf s1 (1 : Int32) M0) (fun v15 M15 => bif v15 then (some ((0 : Int32), M15)) else (bif decide (¬ l1 = l2) then (f_X12_relieve_25 l1 l2 false M15) else (f_X12_relieve_25 l1 l2 true M15)))
set_option maxRecDepth 8000 in
theorem e_X12_relieve_15 {l1 : Int32} {l2 : Int32} {s1 : Bool} {M0 : mM} {R : mZ} {out : (Int32 × mM)}  (h : f_X12_relieve_15 l1 l2 s1 M0 = some out) (hk : R = emW eI out) : Ev (10) 263 15 [some (.ref 215), some (.int l1), some (.int l2), none] [.int (mB s1), .ref 215] M0 R := by
  unfold f_X12_relieve_15 at h
  refine ev_go kc_263 1 (i' := 16) (L' := [some (.ref 215), some (.int l1), some (.int l2), none]) (st' := [.int (1 : Int32), .int (mB s1), .ref 215]) (M' := M0) rfl ?_
  obtain ⟨v15, M15, hc15, h⟩ := o_b2 h
  refine ev_cl0 (ins := .invokevirtual 304) kc_263 rfl rfl (a := 181) (as := [.ref 215, .int (mB s1), .int (1 : Int32)]) (rest := []) rfl rfl (Cs.deep (c_X12_throwsIf hc15) (by decide)) ?_
  rcases o_bif h with ⟨hb16, h⟩ | ⟨hb16, h⟩
  · refine ev_goT kc_263 1 (t := 43) (e := 18) (L' := [some (.ref 215), some (.int l1), some (.int l2), none]) (st' := []) rfl (mB_n0t hb16) ?_
    refine ev_go kc_263 1 (i' := 44) (L' := [some (.ref 215), some (.int l1), some (.int l2), none]) (st' := [.int (0 : Int32)]) (M' := M15) rfl ?_
    obtain rfl := Option.some.inj h
    rw [hk]
    exact ev_ret kc_263 rfl rfl rfl
  · refine ev_goF kc_263 1 (t := 43) (e := 18) (L' := [some (.ref 215), some (.int l1), some (.int l2), none]) (st' := []) rfl (mB_n0f hb16) ?_
    rcases o_bif h with ⟨hb17, h⟩ | ⟨hb17, h⟩
    · refine ev_goT kc_263 4 (t := 24) (e := 22) (L' := [some (.ref 215), some (.int l1), some (.int l2), none]) (st' := [.ref 215]) rfl hb17 ?_
      refine ev_go kc_263 1 (i' := 25) (L' := [some (.ref 215), some (.int l1), some (.int l2), none]) (st' := [.int (0 : Int32), .ref 215]) (M' := M15) rfl ?_
      exact Ev.forget (mLe.kp (mLe.kp (mLe.kp (mLe.sk mLe.nl)))) (e_X12_relieve_25  h hk)
    · refine ev_goF kc_263 4 (t := 24) (e := 22) (L' := [some (.ref 215), some (.int l1), some (.int l2), none]) (st' := [.ref 215]) rfl hb17 ?_
      refine ev_go kc_263 2 (i' := 25) (L' := [some (.ref 215), some (.int l1), some (.int l2), none]) (st' := [.int (1 : Int32), .ref 215]) (M' := M15) rfl ?_
      exact Ev.forget (mLe.kp (mLe.kp (mLe.kp (mLe.sk mLe.nl)))) (e_X12_relieve_25  h hk)
def f_X12_relieve_12 (l1 : Int32) (l2 : Int32) (M0 : mM) : Option (Int32 × mM) :=
  f_X12_relieve_15 l1 l2 true M0
set_option maxRecDepth 8000 in
theorem e_X12_relieve_12 {l1 : Int32} {l2 : Int32} {M0 : mM} {R : mZ} {out : (Int32 × mM)}  (h : f_X12_relieve_12 l1 l2 M0 = some out) (hk : R = emW eI out) : Ev (10) 263 12 [some (.ref 215), some (.int l1), some (.int l2), none] [.ref 215] M0 R := by
  unfold f_X12_relieve_12 at h
  refine ev_go kc_263 2 (i' := 15) (L' := [some (.ref 215), some (.int l1), some (.int l2), none]) (st' := [.int (1 : Int32), .ref 215]) (M' := M0) rfl ?_
  exact Ev.forget (mLe.kp (mLe.kp (mLe.kp (mLe.sk mLe.nl)))) (e_X12_relieve_15  h hk)
def f_X12_relieve (p1 : Int32) (p2 : Int32) (M0 : mM) : Option (Int32 × mM) :=
  wr (mst M0 215 0 (0 : Int32)) (fun M18 => b1 (f_X12_nobody p1 M18) (fun v19 => bif v19 then (f_X12_relieve_12 p1 p2 M18) else (b1 (f_X12_nobody p2 M18) (fun v21 => bif v21 then (f_X12_relieve_12 p1 p2 M18) else (f_X12_relieve_15 p1 p2 false M18)))))
set_option maxRecDepth 8000 in
theorem c_X12_relieve {p1 : Int32} {p2 : Int32} {M0 : mM} {out : (Int32 × mM)} (h : f_X12_relieve p1 p2 M0 = some out) : Cs (10) 263 [.ref 215, .int p1, .int p2] M0 (emW eI out) := by
  generalize hk : emW eI out = R
  replace hk := hk.symm
  unfold f_X12_relieve at h
  show Ev (10) 263 0 [some (.ref 215), some (.int p1), some (.int p2), none] [] M0 R
  refine ev_go kc_263 2 (i' := 2) (L' := [some (.ref 215), some (.int p1), some (.int p2), none]) (st' := [.int (0 : Int32), .ref 215]) (M' := M0) rfl ?_
  obtain ⟨M18, hM18, h⟩ := o_wr h
  refine ev_pf kc_263 rfl rfl rfl rfl (fun hc => absurd hc (by decide)) hM18 ?_
  refine ev_go kc_263 3 (i' := 6) (L' := [some (.ref 215), some (.int p1), some (.int p2), none]) (st' := [.int p1, .ref 215, .ref 215]) (M' := M18) rfl ?_
  obtain ⟨v19, hc19, h⟩ := o_b1 h
  refine ev_cl0 (ins := .invokevirtual 329) kc_263 rfl rfl (a := 201) (as := [.ref 215, .int p1]) (rest := [.ref 215]) rfl rfl (Cs.deep (c_X12_nobody (M0 := M18) hc19) (by decide)) ?_
  rcases o_bif h with ⟨hb20, h⟩ | ⟨hb20, h⟩
  · refine ev_goT kc_263 1 (t := 12) (e := 8) (L' := [some (.ref 215), some (.int p1), some (.int p2), none]) (st' := [.ref 215]) rfl (mB_n0t hb20) ?_
    exact Ev.forget (mLe.kp (mLe.kp (mLe.kp (mLe.sk mLe.nl)))) (e_X12_relieve_12  h hk)
  · refine ev_goF kc_263 1 (t := 12) (e := 8) (L' := [some (.ref 215), some (.int p1), some (.int p2), none]) (st' := [.ref 215]) rfl (mB_n0f hb20) ?_
    refine ev_go kc_263 2 (i' := 10) (L' := [some (.ref 215), some (.int p1), some (.int p2), none]) (st' := [.int p2, .ref 215, .ref 215]) (M' := M18) rfl ?_
    obtain ⟨v21, hc21, h⟩ := o_b1 h
    refine ev_cl0 (ins := .invokevirtual 329) kc_263 rfl rfl (a := 201) (as := [.ref 215, .int p2]) (rest := [.ref 215]) rfl rfl (Cs.deep (c_X12_nobody (M0 := M18) hc21) (by decide)) ?_
    rcases o_bif h with ⟨hb22, h⟩ | ⟨hb22, h⟩
    · refine ev_goF kc_263 1 (t := 14) (e := 12) (L' := [some (.ref 215), some (.int p1), some (.int p2), none]) (st' := [.ref 215]) rfl (mB_e0f hb22) ?_
      exact Ev.forget (mLe.kp (mLe.kp (mLe.kp (mLe.sk mLe.nl)))) (e_X12_relieve_12  h hk)
    · refine ev_goT kc_263 1 (t := 14) (e := 12) (L' := [some (.ref 215), some (.int p1), some (.int p2), none]) (st' := [.ref 215]) rfl (mB_e0t hb22) ?_
      refine ev_go kc_263 1 (i' := 15) (L' := [some (.ref 215), some (.int p1), some (.int p2), none]) (st' := [.int (0 : Int32), .ref 215]) (M' := M18) rfl ?_
      exact Ev.forget (mLe.kp (mLe.kp (mLe.kp (mLe.sk mLe.nl)))) (e_X12_relieve_15  h hk)
/-- WakeTowerModel.lean(II)I: 264, W -/
theorem kc_264 : mKc 264 = k_X12_lean := rfl
def f_X12_lean_35 (l1 : Int32) (l3 : Int32) (s1 : Bool) (M0 : mM) : Option (Int32 × mM) :=
  b2 (f_X12_throwsIf s1 (2 : Int32) M0) (fun v1 M1 => bif v1 then (some ((0 : Int32), M1)) else (b2 (f_X12_keepsAll M1) (fun v3 M3 => b1 (f_X12_of l1 (6 : Int32) M3) (fun v4 => gd (mIn (f_X12_at l1 (6 : Int32)) 2122) (wr (mst M3 216 (ix (f_X12_at l1 (6 : Int32))) l3) (fun M6 => b2 (f_X12_cannot M6) (fun v8 M8 => b2 (f_X12_throwsIf v8 (2 : Int32) M8) (fun v9 M9 => bif v9 then (some ((0 : Int32), M9)) else (some (v4, M9))))))))))
set_option maxRecDepth 8000 in
theorem e_X12_lean_35 {l1 : Int32} {l3 : Int32} {s1 : Bool} {M0 : mM} {R : mZ} {out : (Int32 × mM)}  (h : f_X12_lean_35 l1 l3 s1 M0 = some out) (hk : R = emW eI out) : Ev (10) 264 35 [some (.ref 215), some (.int l1), none, some (.int l3), none, none] [.int (mB s1), .ref 215] M0 R := by
  unfold f_X12_lean_35 at h
  refine ev_go kc_264 1 (i' := 36) (L' := [some (.ref 215), some (.int l1), none, some (.int l3), none, none]) (st' := [.int (2 : Int32), .int (mB s1), .ref 215]) (M' := M0) rfl ?_
  obtain ⟨v1, M1, hc1, h⟩ := o_b2 h
  refine ev_cl0 (ins := .invokevirtual 304) kc_264 rfl rfl (a := 181) (as := [.ref 215, .int (mB s1), .int (2 : Int32)]) (rest := []) rfl rfl (Cs.deep (c_X12_throwsIf hc1) (by decide)) ?_
  rcases o_bif h with ⟨hb2, h⟩ | ⟨hb2, h⟩
  · refine ev_goF kc_264 1 (t := 40) (e := 38) (L' := [some (.ref 215), some (.int l1), none, some (.int l3), none, none]) (st' := []) rfl (mB_e0f hb2) ?_
    refine ev_go kc_264 1 (i' := 39) (L' := [some (.ref 215), some (.int l1), none, some (.int l3), none, none]) (st' := [.int (0 : Int32)]) (M' := M1) rfl ?_
    obtain rfl := Option.some.inj h
    rw [hk]
    exact ev_ret kc_264 rfl rfl rfl
  · refine ev_goT kc_264 1 (t := 40) (e := 38) (L' := [some (.ref 215), some (.int l1), none, some (.int l3), none, none]) (st' := []) rfl (mB_e0t hb2) ?_
    refine ev_go kc_264 1 (i' := 41) (L' := [some (.ref 215), some (.int l1), none, some (.int l3), none, none]) (st' := [.ref 215]) (M' := M1) rfl ?_
    obtain ⟨v3, M3, hc3, h⟩ := o_b2 h
    refine ev_cl0 (ins := .invokevirtual 353) kc_264 rfl rfl (a := 188) (as := [.ref 215]) (rest := []) rfl rfl (Cs.deep (c_X12_keepsAll hc3) (by decide)) ?_
    refine ev_go kc_264 3 (i' := 45) (L' := [some (.ref 215), some (.int l1), none, some (.int l3), none, none]) (st' := [.int (6 : Int32), .int l1, .ref 215]) (M' := M3) rfl ?_
    obtain ⟨v4, hc4, h⟩ := o_b1 h
    refine ev_cl0 (ins := .invokevirtual 79) kc_264 rfl rfl (a := 193) (as := [.ref 215, .int l1, .int (6 : Int32)]) (rest := []) rfl rfl (Cs.deep (c_X12_of (M0 := M3) hc4) (by decide)) ?_
    refine ev_go kc_264 5 (i' := 51) (L' := [some (.ref 215), some (.int l1), none, some (.int l3), some (.int v4), none]) (st' := [.int (6 : Int32), .int l1, .ref 216]) (M' := M3) rfl ?_
    refine ev_cl0 (ins := .invokestatic 75) kc_264 rfl rfl (a := 192) (as := [.int l1, .int (6 : Int32)]) (rest := [.ref 216]) rfl rfl (Cs.deep (c_X12_at (M0 := M3)) (by decide)) ?_
    refine ev_go kc_264 1 (i' := 53) (L' := [some (.ref 215), some (.int l1), none, some (.int l3), some (.int v4), none]) (st' := [.int l3, .int (f_X12_at l1 (6 : Int32)), .ref 216]) (M' := M3) rfl ?_
    obtain ⟨hg7, h⟩ := o_gd h
    obtain ⟨M6, hM6, h⟩ := o_wr h
    refine ev_is kc_264 rfl rfl hg7 hM6 ?_
    refine ev_go kc_264 1 (i' := 55) (L' := [some (.ref 215), some (.int l1), none, some (.int l3), some (.int v4), none]) (st' := [.ref 215]) (M' := M6) rfl ?_
    obtain ⟨v8, M8, hc8, h⟩ := o_b2 h
    refine ev_cl0 (ins := .invokevirtual 375) kc_264 rfl rfl (a := 258) (as := [.ref 215]) (rest := []) rfl rfl (Cs.deep (c_X12_cannot hc8) (by decide)) ?_
    refine ev_go kc_264 4 (i' := 60) (L' := [some (.ref 215), some (.int l1), none, some (.int l3), some (.int v4), some (.int (mB v8))]) (st' := [.int (2 : Int32), .int (mB v8), .ref 215]) (M' := M8) rfl ?_
    obtain ⟨v9, M9, hc9, h⟩ := o_b2 h
    refine ev_cl0 (ins := .invokevirtual 304) kc_264 rfl rfl (a := 181) (as := [.ref 215, .int (mB v8), .int (2 : Int32)]) (rest := []) rfl rfl (Cs.deep (c_X12_throwsIf hc9) (by decide)) ?_
    rcases o_bif h with ⟨hb10, h⟩ | ⟨hb10, h⟩
    · refine ev_goF kc_264 1 (t := 64) (e := 62) (L' := [some (.ref 215), some (.int l1), none, some (.int l3), some (.int v4), some (.int (mB v8))]) (st' := []) rfl (mB_e0f hb10) ?_
      refine ev_go kc_264 2 (i' := 65) (L' := [some (.ref 215), some (.int l1), none, some (.int l3), some (.int v4), some (.int (mB v8))]) (st' := [.int (0 : Int32)]) (M' := M9) rfl ?_
      obtain rfl := Option.some.inj h
      rw [hk]
      exact ev_ret kc_264 rfl rfl rfl
    · refine ev_goT kc_264 1 (t := 64) (e := 62) (L' := [some (.ref 215), some (.int l1), none, some (.int l3), some (.int v4), some (.int (mB v8))]) (st' := []) rfl (mB_e0t hb10) ?_
      refine ev_go kc_264 1 (i' := 65) (L' := [some (.ref 215), some (.int l1), none, some (.int l3), some (.int v4), some (.int (mB v8))]) (st' := [.int v4]) (M' := M9) rfl ?_
      obtain rfl := Option.some.inj h
      rw [hk]
      exact ev_ret kc_264 rfl rfl rfl
def f_X12_lean_32 (l1 : Int32) (l3 : Int32) (M0 : mM) : Option (Int32 × mM) :=
  f_X12_lean_35 l1 l3 true M0
set_option maxRecDepth 8000 in
theorem e_X12_lean_32 {l1 : Int32} {l3 : Int32} {M0 : mM} {R : mZ} {out : (Int32 × mM)}  (h : f_X12_lean_32 l1 l3 M0 = some out) (hk : R = emW eI out) : Ev (10) 264 32 [some (.ref 215), some (.int l1), none, some (.int l3), none, none] [.ref 215] M0 R := by
  unfold f_X12_lean_32 at h
  refine ev_go kc_264 2 (i' := 35) (L' := [some (.ref 215), some (.int l1), none, some (.int l3), none, none]) (st' := [.int (1 : Int32), .ref 215]) (M' := M0) rfl ?_
  exact Ev.forget (mLe.kp (mLe.kp (mLe.sk (mLe.kp (mLe.sk (mLe.sk mLe.nl)))))) (e_X12_lean_35  h hk)
def f_X12_lean (p1 : Int32) (p2 : Int32) (M0 : mM) : Option (Int32 × mM) :=
  wr (mst M0 215 0 (0 : Int32)) (fun M11 => b1 (f_X12_nobody p1 M11) (fun v12 => b2 (f_X12_throwsIf v12 (1 : Int32) M11) (fun v13 M13 => bif v13 then (some ((0 : Int32), M13)) else (b1 (f_X12_everybody M13) (fun v15 => b1 (f_X12_of p1 (5 : Int32) M13) (fun v16 => bif decide (v16 < (1 : Int32)) then (f_X12_lean_32 p1 (p2 &&& v15) M13) else (b1 (f_X12_of p1 (5 : Int32) M13) (fun v18 => b1 (f_X12_wrongOn v18 (p2 &&& v15) M13) (fun v19 => bif v19 then (f_X12_lean_32 p1 (p2 &&& v15) M13) else (f_X12_lean_35 p1 (p2 &&& v15) false M13))))))))))
set_option maxRecDepth 8000 in
theorem c_X12_lean {p1 : Int32} {p2 : Int32} {M0 : mM} {out : (Int32 × mM)} (h : f_X12_lean p1 p2 M0 = some out) : Cs (10) 264 [.ref 215, .int p1, .int p2] M0 (emW eI out) := by
  generalize hk : emW eI out = R
  replace hk := hk.symm
  unfold f_X12_lean at h
  show Ev (10) 264 0 [some (.ref 215), some (.int p1), some (.int p2), none, none, none] [] M0 R
  refine ev_go kc_264 2 (i' := 2) (L' := [some (.ref 215), some (.int p1), some (.int p2), none, none, none]) (st' := [.int (0 : Int32), .ref 215]) (M' := M0) rfl ?_
  obtain ⟨M11, hM11, h⟩ := o_wr h
  refine ev_pf kc_264 rfl rfl rfl rfl (fun hc => absurd hc (by decide)) hM11 ?_
  refine ev_go kc_264 3 (i' := 6) (L' := [some (.ref 215), some (.int p1), some (.int p2), none, none, none]) (st' := [.int p1, .ref 215, .ref 215]) (M' := M11) rfl ?_
  obtain ⟨v12, hc12, h⟩ := o_b1 h
  refine ev_cl0 (ins := .invokevirtual 329) kc_264 rfl rfl (a := 201) (as := [.ref 215, .int p1]) (rest := [.ref 215]) rfl rfl (Cs.deep (c_X12_nobody (M0 := M11) hc12) (by decide)) ?_
  refine ev_go kc_264 1 (i' := 8) (L' := [some (.ref 215), some (.int p1), some (.int p2), none, none, none]) (st' := [.int (1 : Int32), .int (mB v12), .ref 215]) (M' := M11) rfl ?_
  obtain ⟨v13, M13, hc13, h⟩ := o_b2 h
  refine ev_cl0 (ins := .invokevirtual 304) kc_264 rfl rfl (a := 181) (as := [.ref 215, .int (mB v12), .int (1 : Int32)]) (rest := []) rfl rfl (Cs.deep (c_X12_throwsIf hc13) (by decide)) ?_
  rcases o_bif h with ⟨hb14, h⟩ | ⟨hb14, h⟩
  · refine ev_goF kc_264 1 (t := 12) (e := 10) (L' := [some (.ref 215), some (.int p1), some (.int p2), none, none, none]) (st' := []) rfl (mB_e0f hb14) ?_
    refine ev_go kc_264 1 (i' := 11) (L' := [some (.ref 215), some (.int p1), some (.int p2), none, none, none]) (st' := [.int (0 : Int32)]) (M' := M13) rfl ?_
    obtain rfl := Option.some.inj h
    rw [hk]
    exact ev_ret kc_264 rfl rfl rfl
  · refine ev_goT kc_264 1 (t := 12) (e := 10) (L' := [some (.ref 215), some (.int p1), some (.int p2), none, none, none]) (st' := []) rfl (mB_e0t hb14) ?_
    refine ev_go kc_264 2 (i' := 14) (L' := [some (.ref 215), some (.int p1), some (.int p2), none, none, none]) (st' := [.ref 215, .int p2]) (M' := M13) rfl ?_
    obtain ⟨v15, hc15, h⟩ := o_b1 h
    refine ev_cl0 (ins := .invokevirtual 369) kc_264 rfl rfl (a := 191) (as := [.ref 215]) (rest := [.int p2]) rfl rfl (Cs.deep (c_X12_everybody (M0 := M13) hc15) (by decide)) ?_
    refine ev_go kc_264 6 (i' := 21) (L' := [some (.ref 215), some (.int p1), some (.int p2), some (.int (p2 &&& v15)), none, none]) (st' := [.int (5 : Int32), .int p1, .ref 215, .ref 215]) (M' := M13) rfl ?_
    obtain ⟨v16, hc16, h⟩ := o_b1 h
    refine ev_cl0 (ins := .invokevirtual 79) kc_264 rfl rfl (a := 193) (as := [.ref 215, .int p1, .int (5 : Int32)]) (rest := [.ref 215]) rfl rfl (Cs.deep (c_X12_of (M0 := M13) hc16) (by decide)) ?_
    rcases o_bif h with ⟨hb17, h⟩ | ⟨hb17, h⟩
    · refine ev_goT kc_264 2 (t := 32) (e := 24) (L' := [some (.ref 215), some (.int p1), some (.int p2), some (.int (p2 &&& v15)), none, none]) (st' := [.ref 215]) rfl hb17 ?_
      exact Ev.forget (mLe.kp (mLe.kp (mLe.sk (mLe.kp (mLe.sk (mLe.sk mLe.nl)))))) (e_X12_lean_32  h hk)
    · refine ev_goF kc_264 2 (t := 32) (e := 24) (L' := [some (.ref 215), some (.int p1), some (.int p2), some (.int (p2 &&& v15)), none, none]) (st' := [.ref 215]) rfl hb17 ?_
      refine ev_go kc_264 4 (i' := 28) (L' := [some (.ref 215), some (.int p1), some (.int p2), some (.int (p2 &&& v15)), none, none]) (st' := [.int (5 : Int32), .int p1, .ref 215, .ref 215, .ref 215]) (M' := M13) rfl ?_
      obtain ⟨v18, hc18, h⟩ := o_b1 h
      refine ev_cl0 (ins := .invokevirtual 79) kc_264 rfl rfl (a := 193) (as := [.ref 215, .int p1, .int (5 : Int32)]) (rest := [.ref 215, .ref 215]) rfl rfl (Cs.deep (c_X12_of (M0 := M13) hc18) (by decide)) ?_
      refine ev_go kc_264 1 (i' := 30) (L' := [some (.ref 215), some (.int p1), some (.int p2), some (.int (p2 &&& v15)), none, none]) (st' := [.int (p2 &&& v15), .int v18, .ref 215, .ref 215]) (M' := M13) rfl ?_
      obtain ⟨v19, hc19, h⟩ := o_b1 h
      refine ev_cl0 (ins := .invokevirtual 372) kc_264 rfl rfl (a := 259) (as := [.ref 215, .int v18, .int (p2 &&& v15)]) (rest := [.ref 215]) rfl rfl (Cs.deep (c_X12_wrongOn (M0 := M13) hc19) (by decide)) ?_
      rcases o_bif h with ⟨hb20, h⟩ | ⟨hb20, h⟩
      · refine ev_goF kc_264 1 (t := 34) (e := 32) (L' := [some (.ref 215), some (.int p1), some (.int p2), some (.int (p2 &&& v15)), none, none]) (st' := [.ref 215]) rfl (mB_e0f hb20) ?_
        exact Ev.forget (mLe.kp (mLe.kp (mLe.sk (mLe.kp (mLe.sk (mLe.sk mLe.nl)))))) (e_X12_lean_32  h hk)
      · refine ev_goT kc_264 1 (t := 34) (e := 32) (L' := [some (.ref 215), some (.int p1), some (.int p2), some (.int (p2 &&& v15)), none, none]) (st' := [.ref 215]) rfl (mB_e0t hb20) ?_
        refine ev_go kc_264 1 (i' := 35) (L' := [some (.ref 215), some (.int p1), some (.int p2), some (.int (p2 &&& v15)), none, none]) (st' := [.int (0 : Int32), .ref 215]) (M' := M13) rfl ?_
        exact Ev.forget (mLe.kp (mLe.kp (mLe.sk (mLe.kp (mLe.sk (mLe.sk mLe.nl)))))) (e_X12_lean_35  h hk)
/-- WakeTowerModel.wake(I)I: 265, W -/
theorem kc_265 : mKc 265 = k_X12_wake := rfl
def f_X12_wake_18 (l1 : Int32) (s1 : Bool) (M0 : mM) : Option (Int32 × mM) :=
  b2 (f_X12_throwsIf s1 (2 : Int32) M0) (fun v1 M1 => bif v1 then (some ((0 : Int32), M1)) else (b2 (f_X12_keepsAll M1) (fun v3 M3 => gd (mIn (f_X12_at l1 (3 : Int32)) 2122) (wr (mst M3 216 (ix (f_X12_at l1 (3 : Int32))) (0 : Int32)) (fun M5 => b2 (f_X12_cannot M5) (fun v7 M7 => b2 (f_X12_throwsIf v7 (2 : Int32) M7) (fun v8 M8 => bif v8 then (some ((0 : Int32), M8)) else (b2 (f_X12_borneBy l1 M8) (fun v10 M10 => some (v10, M10))))))))))
set_option maxRecDepth 8000 in
theorem e_X12_wake_18 {l1 : Int32} {s1 : Bool} {M0 : mM} {R : mZ} {out : (Int32 × mM)}  (h : f_X12_wake_18 l1 s1 M0 = some out) (hk : R = emW eI out) : Ev (10) 265 18 [some (.ref 215), some (.int l1), none] [.int (mB s1), .ref 215] M0 R := by
  unfold f_X12_wake_18 at h
  refine ev_go kc_265 1 (i' := 19) (L' := [some (.ref 215), some (.int l1), none]) (st' := [.int (2 : Int32), .int (mB s1), .ref 215]) (M' := M0) rfl ?_
  obtain ⟨v1, M1, hc1, h⟩ := o_b2 h
  refine ev_cl0 (ins := .invokevirtual 304) kc_265 rfl rfl (a := 181) (as := [.ref 215, .int (mB s1), .int (2 : Int32)]) (rest := []) rfl rfl (Cs.deep (c_X12_throwsIf hc1) (by decide)) ?_
  rcases o_bif h with ⟨hb2, h⟩ | ⟨hb2, h⟩
  · refine ev_goF kc_265 1 (t := 23) (e := 21) (L' := [some (.ref 215), some (.int l1), none]) (st' := []) rfl (mB_e0f hb2) ?_
    refine ev_go kc_265 1 (i' := 22) (L' := [some (.ref 215), some (.int l1), none]) (st' := [.int (0 : Int32)]) (M' := M1) rfl ?_
    obtain rfl := Option.some.inj h
    rw [hk]
    exact ev_ret kc_265 rfl rfl rfl
  · refine ev_goT kc_265 1 (t := 23) (e := 21) (L' := [some (.ref 215), some (.int l1), none]) (st' := []) rfl (mB_e0t hb2) ?_
    refine ev_go kc_265 1 (i' := 24) (L' := [some (.ref 215), some (.int l1), none]) (st' := [.ref 215]) (M' := M1) rfl ?_
    obtain ⟨v3, M3, hc3, h⟩ := o_b2 h
    refine ev_cl0 (ins := .invokevirtual 353) kc_265 rfl rfl (a := 188) (as := [.ref 215]) (rest := []) rfl rfl (Cs.deep (c_X12_keepsAll hc3) (by decide)) ?_
    refine ev_go kc_265 4 (i' := 29) (L' := [some (.ref 215), some (.int l1), none]) (st' := [.int (3 : Int32), .int l1, .ref 216]) (M' := M3) rfl ?_
    refine ev_cl0 (ins := .invokestatic 75) kc_265 rfl rfl (a := 192) (as := [.int l1, .int (3 : Int32)]) (rest := [.ref 216]) rfl rfl (Cs.deep (c_X12_at (M0 := M3)) (by decide)) ?_
    refine ev_go kc_265 1 (i' := 31) (L' := [some (.ref 215), some (.int l1), none]) (st' := [.int (0 : Int32), .int (f_X12_at l1 (3 : Int32)), .ref 216]) (M' := M3) rfl ?_
    obtain ⟨hg6, h⟩ := o_gd h
    obtain ⟨M5, hM5, h⟩ := o_wr h
    refine ev_is kc_265 rfl rfl hg6 hM5 ?_
    refine ev_go kc_265 1 (i' := 33) (L' := [some (.ref 215), some (.int l1), none]) (st' := [.ref 215]) (M' := M5) rfl ?_
    obtain ⟨v7, M7, hc7, h⟩ := o_b2 h
    refine ev_cl0 (ins := .invokevirtual 375) kc_265 rfl rfl (a := 258) (as := [.ref 215]) (rest := []) rfl rfl (Cs.deep (c_X12_cannot hc7) (by decide)) ?_
    refine ev_go kc_265 4 (i' := 38) (L' := [some (.ref 215), some (.int l1), some (.int (mB v7))]) (st' := [.int (2 : Int32), .int (mB v7), .ref 215]) (M' := M7) rfl ?_
    obtain ⟨v8, M8, hc8, h⟩ := o_b2 h
    refine ev_cl0 (ins := .invokevirtual 304) kc_265 rfl rfl (a := 181) (as := [.ref 215, .int (mB v7), .int (2 : Int32)]) (rest := []) rfl rfl (Cs.deep (c_X12_throwsIf hc8) (by decide)) ?_
    rcases o_bif h with ⟨hb9, h⟩ | ⟨hb9, h⟩
    · refine ev_goF kc_265 1 (t := 42) (e := 40) (L' := [some (.ref 215), some (.int l1), some (.int (mB v7))]) (st' := []) rfl (mB_e0f hb9) ?_
      refine ev_go kc_265 2 (i' := 45) (L' := [some (.ref 215), some (.int l1), some (.int (mB v7))]) (st' := [.int (0 : Int32)]) (M' := M8) rfl ?_
      obtain rfl := Option.some.inj h
      rw [hk]
      exact ev_ret kc_265 rfl rfl rfl
    · refine ev_goT kc_265 1 (t := 42) (e := 40) (L' := [some (.ref 215), some (.int l1), some (.int (mB v7))]) (st' := []) rfl (mB_e0t hb9) ?_
      refine ev_go kc_265 2 (i' := 44) (L' := [some (.ref 215), some (.int l1), some (.int (mB v7))]) (st' := [.int l1, .ref 215]) (M' := M8) rfl ?_
      obtain ⟨v10, M10, hc10, h⟩ := o_b2 h
      refine ev_cl0 (ins := .invokevirtual 323) kc_265 rfl rfl (a := 205) (as := [.ref 215, .int l1]) (rest := []) rfl rfl (Cs.deep (c_X12_borneBy hc10) (by decide)) ?_
      obtain rfl := Option.some.inj h
      rw [hk]
      exact ev_ret kc_265 rfl rfl rfl
def f_X12_wake (p1 : Int32) (M0 : mM) : Option (Int32 × mM) :=
  wr (mst M0 215 0 (0 : Int32)) (fun M11 => b1 (f_X12_nobody p1 M11) (fun v12 => b2 (f_X12_throwsIf v12 (1 : Int32) M11) (fun v13 M13 => bif v13 then (some ((0 : Int32), M13)) else (b1 (f_X12_isAsleep p1 M13) (fun v15 => bif v15 then (f_X12_wake_18 p1 false M13) else (f_X12_wake_18 p1 true M13))))))
set_option maxRecDepth 8000 in
theorem c_X12_wake {p1 : Int32} {M0 : mM} {out : (Int32 × mM)} (h : f_X12_wake p1 M0 = some out) : Cs (10) 265 [.ref 215, .int p1] M0 (emW eI out) := by
  generalize hk : emW eI out = R
  replace hk := hk.symm
  unfold f_X12_wake at h
  show Ev (10) 265 0 [some (.ref 215), some (.int p1), none] [] M0 R
  refine ev_go kc_265 2 (i' := 2) (L' := [some (.ref 215), some (.int p1), none]) (st' := [.int (0 : Int32), .ref 215]) (M' := M0) rfl ?_
  obtain ⟨M11, hM11, h⟩ := o_wr h
  refine ev_pf kc_265 rfl rfl rfl rfl (fun hc => absurd hc (by decide)) hM11 ?_
  refine ev_go kc_265 3 (i' := 6) (L' := [some (.ref 215), some (.int p1), none]) (st' := [.int p1, .ref 215, .ref 215]) (M' := M11) rfl ?_
  obtain ⟨v12, hc12, h⟩ := o_b1 h
  refine ev_cl0 (ins := .invokevirtual 329) kc_265 rfl rfl (a := 201) (as := [.ref 215, .int p1]) (rest := [.ref 215]) rfl rfl (Cs.deep (c_X12_nobody (M0 := M11) hc12) (by decide)) ?_
  refine ev_go kc_265 1 (i' := 8) (L' := [some (.ref 215), some (.int p1), none]) (st' := [.int (1 : Int32), .int (mB v12), .ref 215]) (M' := M11) rfl ?_
  obtain ⟨v13, M13, hc13, h⟩ := o_b2 h
  refine ev_cl0 (ins := .invokevirtual 304) kc_265 rfl rfl (a := 181) (as := [.ref 215, .int (mB v12), .int (1 : Int32)]) (rest := []) rfl rfl (Cs.deep (c_X12_throwsIf hc13) (by decide)) ?_
  rcases o_bif h with ⟨hb14, h⟩ | ⟨hb14, h⟩
  · refine ev_goT kc_265 1 (t := 21) (e := 10) (L' := [some (.ref 215), some (.int p1), none]) (st' := []) rfl (mB_n0t hb14) ?_
    refine ev_go kc_265 1 (i' := 22) (L' := [some (.ref 215), some (.int p1), none]) (st' := [.int (0 : Int32)]) (M' := M13) rfl ?_
    obtain rfl := Option.some.inj h
    rw [hk]
    exact ev_ret kc_265 rfl rfl rfl
  · refine ev_goF kc_265 1 (t := 21) (e := 10) (L' := [some (.ref 215), some (.int p1), none]) (st' := []) rfl (mB_n0f hb14) ?_
    refine ev_go kc_265 3 (i' := 13) (L' := [some (.ref 215), some (.int p1), none]) (st' := [.int p1, .ref 215, .ref 215]) (M' := M13) rfl ?_
    obtain ⟨v15, hc15, h⟩ := o_b1 h
    refine ev_cl0 (ins := .invokevirtual 86) kc_265 rfl rfl (a := 195) (as := [.ref 215, .int p1]) (rest := [.ref 215]) rfl rfl (Cs.deep (c_X12_isAsleep (M0 := M13) hc15) (by decide)) ?_
    rcases o_bif h with ⟨hb16, h⟩ | ⟨hb16, h⟩
    · refine ev_goT kc_265 1 (t := 17) (e := 15) (L' := [some (.ref 215), some (.int p1), none]) (st' := [.ref 215]) rfl (mB_n0t hb16) ?_
      refine ev_go kc_265 1 (i' := 18) (L' := [some (.ref 215), some (.int p1), none]) (st' := [.int (0 : Int32), .ref 215]) (M' := M13) rfl ?_
      exact Ev.forget (mLe.kp (mLe.kp (mLe.sk mLe.nl))) (e_X12_wake_18  h hk)
    · refine ev_goF kc_265 1 (t := 17) (e := 15) (L' := [some (.ref 215), some (.int p1), none]) (st' := [.ref 215]) rfl (mB_n0f hb16) ?_
      refine ev_go kc_265 2 (i' := 18) (L' := [some (.ref 215), some (.int p1), none]) (st' := [.int (1 : Int32), .ref 215]) (M' := M13) rfl ?_
      exact Ev.forget (mLe.kp (mLe.kp (mLe.sk mLe.nl))) (e_X12_wake_18  h hk)
/-- WakeTowerModel.sleep(I)I: 266, W -/
theorem kc_266 : mKc 266 = k_X12_sleep := rfl
def f_X12_sleep (p1 : Int32) (M0 : mM) : Option (Int32 × mM) :=
  wr (mst M0 215 0 (0 : Int32)) (fun M1 => b1 (f_X12_nobody p1 M1) (fun v2 => b2 (f_X12_throwsIf v2 (1 : Int32) M1) (fun v3 M3 => bif v3 then (some ((0 : Int32), M3)) else (b1 (f_X12_isAsleep p1 M3) (fun v5 => b2 (f_X12_throwsIf v5 (2 : Int32) M3) (fun v6 M6 => bif v6 then (some ((0 : Int32), M6)) else (b2 (f_X12_keepsAll M6) (fun v8 M8 => gd (mIn (f_X12_at p1 (3 : Int32)) 2122) (wr (mst M8 216 (ix (f_X12_at p1 (3 : Int32))) (1 : Int32)) (fun M10 => b2 (f_X12_cannot M10) (fun v12 M12 => b2 (f_X12_throwsIf v12 (2 : Int32) M12) (fun v13 M13 => bif v13 then (some ((0 : Int32), M13)) else (b2 (f_X12_borneByAll M13) (fun v15 M15 => some (v15, M15)))))))))))))))
set_option maxRecDepth 8000 in
theorem c_X12_sleep {p1 : Int32} {M0 : mM} {out : (Int32 × mM)} (h : f_X12_sleep p1 M0 = some out) : Cs (10) 266 [.ref 215, .int p1] M0 (emW eI out) := by
  generalize hk : emW eI out = R
  replace hk := hk.symm
  unfold f_X12_sleep at h
  show Ev (10) 266 0 [some (.ref 215), some (.int p1), none] [] M0 R
  refine ev_go kc_266 2 (i' := 2) (L' := [some (.ref 215), some (.int p1), none]) (st' := [.int (0 : Int32), .ref 215]) (M' := M0) rfl ?_
  obtain ⟨M1, hM1, h⟩ := o_wr h
  refine ev_pf kc_266 rfl rfl rfl rfl (fun hc => absurd hc (by decide)) hM1 ?_
  refine ev_go kc_266 3 (i' := 6) (L' := [some (.ref 215), some (.int p1), none]) (st' := [.int p1, .ref 215, .ref 215]) (M' := M1) rfl ?_
  obtain ⟨v2, hc2, h⟩ := o_b1 h
  refine ev_cl0 (ins := .invokevirtual 329) kc_266 rfl rfl (a := 201) (as := [.ref 215, .int p1]) (rest := [.ref 215]) rfl rfl (Cs.deep (c_X12_nobody (M0 := M1) hc2) (by decide)) ?_
  refine ev_go kc_266 1 (i' := 8) (L' := [some (.ref 215), some (.int p1), none]) (st' := [.int (1 : Int32), .int (mB v2), .ref 215]) (M' := M1) rfl ?_
  obtain ⟨v3, M3, hc3, h⟩ := o_b2 h
  refine ev_cl0 (ins := .invokevirtual 304) kc_266 rfl rfl (a := 181) (as := [.ref 215, .int (mB v2), .int (1 : Int32)]) (rest := []) rfl rfl (Cs.deep (c_X12_throwsIf hc3) (by decide)) ?_
  rcases o_bif h with ⟨hb4, h⟩ | ⟨hb4, h⟩
  · refine ev_goT kc_266 1 (t := 17) (e := 10) (L' := [some (.ref 215), some (.int p1), none]) (st' := []) rfl (mB_n0t hb4) ?_
    refine ev_go kc_266 1 (i' := 18) (L' := [some (.ref 215), some (.int p1), none]) (st' := [.int (0 : Int32)]) (M' := M3) rfl ?_
    obtain rfl := Option.some.inj h
    rw [hk]
    exact ev_ret kc_266 rfl rfl rfl
  · refine ev_goF kc_266 1 (t := 17) (e := 10) (L' := [some (.ref 215), some (.int p1), none]) (st' := []) rfl (mB_n0f hb4) ?_
    refine ev_go kc_266 3 (i' := 13) (L' := [some (.ref 215), some (.int p1), none]) (st' := [.int p1, .ref 215, .ref 215]) (M' := M3) rfl ?_
    obtain ⟨v5, hc5, h⟩ := o_b1 h
    refine ev_cl0 (ins := .invokevirtual 86) kc_266 rfl rfl (a := 195) (as := [.ref 215, .int p1]) (rest := [.ref 215]) rfl rfl (Cs.deep (c_X12_isAsleep (M0 := M3) hc5) (by decide)) ?_
    refine ev_go kc_266 1 (i' := 15) (L' := [some (.ref 215), some (.int p1), none]) (st' := [.int (2 : Int32), .int (mB v5), .ref 215]) (M' := M3) rfl ?_
    obtain ⟨v6, M6, hc6, h⟩ := o_b2 h
    refine ev_cl0 (ins := .invokevirtual 304) kc_266 rfl rfl (a := 181) (as := [.ref 215, .int (mB v5), .int (2 : Int32)]) (rest := []) rfl rfl (Cs.deep (c_X12_throwsIf hc6) (by decide)) ?_
    rcases o_bif h with ⟨hb7, h⟩ | ⟨hb7, h⟩
    · refine ev_goF kc_266 1 (t := 19) (e := 17) (L' := [some (.ref 215), some (.int p1), none]) (st' := []) rfl (mB_e0f hb7) ?_
      refine ev_go kc_266 1 (i' := 18) (L' := [some (.ref 215), some (.int p1), none]) (st' := [.int (0 : Int32)]) (M' := M6) rfl ?_
      obtain rfl := Option.some.inj h
      rw [hk]
      exact ev_ret kc_266 rfl rfl rfl
    · refine ev_goT kc_266 1 (t := 19) (e := 17) (L' := [some (.ref 215), some (.int p1), none]) (st' := []) rfl (mB_e0t hb7) ?_
      refine ev_go kc_266 1 (i' := 20) (L' := [some (.ref 215), some (.int p1), none]) (st' := [.ref 215]) (M' := M6) rfl ?_
      obtain ⟨v8, M8, hc8, h⟩ := o_b2 h
      refine ev_cl0 (ins := .invokevirtual 353) kc_266 rfl rfl (a := 188) (as := [.ref 215]) (rest := []) rfl rfl (Cs.deep (c_X12_keepsAll hc8) (by decide)) ?_
      refine ev_go kc_266 4 (i' := 25) (L' := [some (.ref 215), some (.int p1), none]) (st' := [.int (3 : Int32), .int p1, .ref 216]) (M' := M8) rfl ?_
      refine ev_cl0 (ins := .invokestatic 75) kc_266 rfl rfl (a := 192) (as := [.int p1, .int (3 : Int32)]) (rest := [.ref 216]) rfl rfl (Cs.deep (c_X12_at (M0 := M8)) (by decide)) ?_
      refine ev_go kc_266 1 (i' := 27) (L' := [some (.ref 215), some (.int p1), none]) (st' := [.int (1 : Int32), .int (f_X12_at p1 (3 : Int32)), .ref 216]) (M' := M8) rfl ?_
      obtain ⟨hg11, h⟩ := o_gd h
      obtain ⟨M10, hM10, h⟩ := o_wr h
      refine ev_is kc_266 rfl rfl hg11 hM10 ?_
      refine ev_go kc_266 1 (i' := 29) (L' := [some (.ref 215), some (.int p1), none]) (st' := [.ref 215]) (M' := M10) rfl ?_
      obtain ⟨v12, M12, hc12, h⟩ := o_b2 h
      refine ev_cl0 (ins := .invokevirtual 375) kc_266 rfl rfl (a := 258) (as := [.ref 215]) (rest := []) rfl rfl (Cs.deep (c_X12_cannot hc12) (by decide)) ?_
      refine ev_go kc_266 4 (i' := 34) (L' := [some (.ref 215), some (.int p1), some (.int (mB v12))]) (st' := [.int (2 : Int32), .int (mB v12), .ref 215]) (M' := M12) rfl ?_
      obtain ⟨v13, M13, hc13, h⟩ := o_b2 h
      refine ev_cl0 (ins := .invokevirtual 304) kc_266 rfl rfl (a := 181) (as := [.ref 215, .int (mB v12), .int (2 : Int32)]) (rest := []) rfl rfl (Cs.deep (c_X12_throwsIf hc13) (by decide)) ?_
      rcases o_bif h with ⟨hb14, h⟩ | ⟨hb14, h⟩
      · refine ev_goF kc_266 1 (t := 38) (e := 36) (L' := [some (.ref 215), some (.int p1), some (.int (mB v12))]) (st' := []) rfl (mB_e0f hb14) ?_
        refine ev_go kc_266 2 (i' := 40) (L' := [some (.ref 215), some (.int p1), some (.int (mB v12))]) (st' := [.int (0 : Int32)]) (M' := M13) rfl ?_
        obtain rfl := Option.some.inj h
        rw [hk]
        exact ev_ret kc_266 rfl rfl rfl
      · refine ev_goT kc_266 1 (t := 38) (e := 36) (L' := [some (.ref 215), some (.int p1), some (.int (mB v12))]) (st' := []) rfl (mB_e0t hb14) ?_
        refine ev_go kc_266 1 (i' := 39) (L' := [some (.ref 215), some (.int p1), some (.int (mB v12))]) (st' := [.ref 215]) (M' := M13) rfl ?_
        obtain ⟨v15, M15, hc15, h⟩ := o_b2 h
        refine ev_cl0 (ins := .invokevirtual 326) kc_266 rfl rfl (a := 206) (as := [.ref 215]) (rest := []) rfl rfl (Cs.deep (c_X12_borneByAll hc15) (by decide)) ?_
        obtain rfl := Option.some.inj h
        rw [hk]
        exact ev_ret kc_266 rfl rfl rfl
/-- WakeTowerModel.need(I)I: 267, W -/
theorem kc_267 : mKc 267 = k_X12_need := rfl
def f_X12_need_12 (l1 : Int32) (s1 : Bool) (M0 : mM) : Option (Int32 × mM) :=
  b2 (f_X12_throwsIf s1 (1 : Int32) M0) (fun v1 M1 => bif v1 then (some ((0 : Int32), M1)) else (b2 (f_X12_keepsAll M1) (fun v3 M3 => b2 (f_X12_remembers M3) (fun v4 M4 => wr (mst M4 216 (ix (5 : Int32)) l1) (fun M5 => some ((M4 216 (ix (5 : Int32))), M5))))))
set_option maxRecDepth 8000 in
theorem e_X12_need_12 {l1 : Int32} {s1 : Bool} {M0 : mM} {R : mZ} {out : (Int32 × mM)}  (h : f_X12_need_12 l1 s1 M0 = some out) (hk : R = emW eI out) : Ev (1) 267 12 [some (.ref 215), some (.int l1), none] [.int (mB s1), .ref 215] M0 R := by
  unfold f_X12_need_12 at h
  refine ev_go kc_267 1 (i' := 13) (L' := [some (.ref 215), some (.int l1), none]) (st' := [.int (1 : Int32), .int (mB s1), .ref 215]) (M' := M0) rfl ?_
  obtain ⟨v1, M1, hc1, h⟩ := o_b2 h
  refine ev_cl0 (ins := .invokevirtual 304) kc_267 rfl rfl (a := 181) (as := [.ref 215, .int (mB s1), .int (1 : Int32)]) (rest := []) rfl rfl (Cs.deep (c_X12_throwsIf hc1) (by decide)) ?_
  rcases o_bif h with ⟨hb2, h⟩ | ⟨hb2, h⟩
  · refine ev_goF kc_267 1 (t := 17) (e := 15) (L' := [some (.ref 215), some (.int l1), none]) (st' := []) rfl (mB_e0f hb2) ?_
    refine ev_go kc_267 1 (i' := 16) (L' := [some (.ref 215), some (.int l1), none]) (st' := [.int (0 : Int32)]) (M' := M1) rfl ?_
    obtain rfl := Option.some.inj h
    rw [hk]
    exact ev_ret kc_267 rfl rfl rfl
  · refine ev_goT kc_267 1 (t := 17) (e := 15) (L' := [some (.ref 215), some (.int l1), none]) (st' := []) rfl (mB_e0t hb2) ?_
    refine ev_go kc_267 1 (i' := 18) (L' := [some (.ref 215), some (.int l1), none]) (st' := [.ref 215]) (M' := M1) rfl ?_
    obtain ⟨v3, M3, hc3, h⟩ := o_b2 h
    refine ev_cl0 (ins := .invokevirtual 353) kc_267 rfl rfl (a := 188) (as := [.ref 215]) (rest := []) rfl rfl (Cs.deep (c_X12_keepsAll hc3) (by decide)) ?_
    refine ev_go kc_267 1 (i' := 20) (L' := [some (.ref 215), some (.int l1), none]) (st' := [.ref 215]) (M' := M3) rfl ?_
    obtain ⟨v4, M4, hc4, h⟩ := o_b2 h
    refine ev_cl0 (ins := .invokevirtual 356) kc_267 rfl rfl (a := 186) (as := [.ref 215]) (rest := []) rfl rfl (Cs.deep (c_X12_remembers hc4) (by decide)) ?_
    refine ev_go kc_267 3 (i' := 24) (L' := [some (.ref 215), some (.int l1), none]) (st' := [.int (5 : Int32), .ref 216]) (M' := M4) rfl ?_
    refine ev_ia kc_267 rfl rfl rfl ?_
    refine ev_go kc_267 5 (i' := 30) (L' := [some (.ref 215), some (.int l1), some (.int (M4 216 (ix (5 : Int32))))]) (st' := [.int l1, .int (5 : Int32), .ref 216]) (M' := M4) rfl ?_
    obtain ⟨M5, hM5, h⟩ := o_wr h
    refine ev_is kc_267 rfl rfl rfl hM5 ?_
    refine ev_go kc_267 1 (i' := 32) (L' := [some (.ref 215), some (.int l1), some (.int (M4 216 (ix (5 : Int32))))]) (st' := [.int (M4 216 (ix (5 : Int32)))]) (M' := M5) rfl ?_
    obtain rfl := Option.some.inj h
    rw [hk]
    exact ev_ret kc_267 rfl rfl rfl
def f_X12_need (p1 : Int32) (M0 : mM) : Option (Int32 × mM) :=
  wr (mst M0 215 0 (0 : Int32)) (fun M6 => bif (f_X12_in p1 (0 : Int32) (8 : Int32)) then (f_X12_need_12 p1 false M6) else (f_X12_need_12 p1 true M6))
set_option maxRecDepth 8000 in
theorem c_X12_need {p1 : Int32} {M0 : mM} {out : (Int32 × mM)} (h : f_X12_need p1 M0 = some out) : Cs (1) 267 [.ref 215, .int p1] M0 (emW eI out) := by
  generalize hk : emW eI out = R
  replace hk := hk.symm
  unfold f_X12_need at h
  show Ev (1) 267 0 [some (.ref 215), some (.int p1), none] [] M0 R
  refine ev_go kc_267 2 (i' := 2) (L' := [some (.ref 215), some (.int p1), none]) (st' := [.int (0 : Int32), .ref 215]) (M' := M0) rfl ?_
  obtain ⟨M6, hM6, h⟩ := o_wr h
  refine ev_pf kc_267 rfl rfl rfl rfl (fun hc => absurd hc (by decide)) hM6 ?_
  refine ev_go kc_267 4 (i' := 7) (L' := [some (.ref 215), some (.int p1), none]) (st' := [.int (8 : Int32), .int (0 : Int32), .int p1, .ref 215]) (M' := M6) rfl ?_
  refine ev_cl0 (ins := .invokestatic 92) kc_267 rfl rfl (a := 182) (as := [.int p1, .int (0 : Int32), .int (8 : Int32)]) (rest := [.ref 215]) rfl rfl (Cs.deep (c_X12_in (M0 := M6)) (by decide)) ?_
  rcases o_bif h with ⟨hb8, h⟩ | ⟨hb8, h⟩
  · refine ev_goT kc_267 1 (t := 11) (e := 9) (L' := [some (.ref 215), some (.int p1), none]) (st' := [.ref 215]) rfl (mB_n0t hb8) ?_
    refine ev_go kc_267 1 (i' := 12) (L' := [some (.ref 215), some (.int p1), none]) (st' := [.int (0 : Int32), .ref 215]) (M' := M6) rfl ?_
    exact Ev.forget (mLe.kp (mLe.kp (mLe.sk mLe.nl))) (e_X12_need_12  h hk)
  · refine ev_goF kc_267 1 (t := 11) (e := 9) (L' := [some (.ref 215), some (.int p1), none]) (st' := [.ref 215]) rfl (mB_n0f hb8) ?_
    refine ev_go kc_267 2 (i' := 12) (L' := [some (.ref 215), some (.int p1), none]) (st' := [.int (1 : Int32), .ref 215]) (M' := M6) rfl ?_
    exact Ev.forget (mLe.kp (mLe.kp (mLe.sk mLe.nl))) (e_X12_need_12  h hk)
/-- WakeTowerModel.total()I: 268, W -/
theorem kc_268 : mKc 268 = k_X12_total := rfl
def f_X12_total_7 (l1 : Int32) (l2 : Int32) (M0 : mM) : Option ((Int32 × mM) ⊕ (Int32 × Int32)) :=
  b1 (f_X12_people M0) (fun v1 => bif decide (v1 ≤ l2) then (some (.inl (l1, M0))) else (b1 (f_X12_isUp l2 M0) (fun v3 => bif v3 then (b1 (f_X12_of l2 (0 : Int32) M0) (fun v5 => some (.inr ((l1 + v5), (l2 + (1 : Int32)))))) else (some (.inr ((l1 + (0 : Int32)), (l2 + (1 : Int32))))))))
set_option maxRecDepth 8000 in
theorem e_X12_total_7 {l1 : Int32} {l2 : Int32} {M0 : mM} {R : mZ} {out : ((Int32 × mM) ⊕ (Int32 × Int32))}  (h : f_X12_total_7 l1 l2 M0 = some out) (hk : (∀ s' : Int32 × Int32, out = .inr s' → Ev (3) 268 7 [some (.ref 215), some (.int s'.1), some (.int s'.2)] [] M0 R) ∧ (∀ e1 : (Int32 × mM), out = .inl e1 → R = emW eI e1)) : Ev (3) 268 7 [some (.ref 215), some (.int l1), some (.int l2)] [] M0 R := by
  unfold f_X12_total_7 at h
  refine ev_go kc_268 2 (i' := 9) (L' := [some (.ref 215), some (.int l1), some (.int l2)]) (st' := [.ref 215, .int l2]) (M' := M0) rfl ?_
  obtain ⟨v1, hc1, h⟩ := o_b1 h
  refine ev_cl0 (ins := .invokevirtual 71) kc_268 rfl rfl (a := 190) (as := [.ref 215]) (rest := [.int l2]) rfl rfl (Cs.deep (c_X12_people (M0 := M0) hc1) (by decide)) ?_
  rcases o_bif h with ⟨hb2, h⟩ | ⟨hb2, h⟩
  · refine ev_goT kc_268 1 (t := 26) (e := 11) (L' := [some (.ref 215), some (.int l1), some (.int l2)]) (st' := []) rfl hb2 ?_
    refine ev_go kc_268 1 (i' := 27) (L' := [some (.ref 215), some (.int l1), some (.int l2)]) (st' := [.int l1]) (M' := M0) rfl ?_
    obtain rfl := Option.some.inj h
    rw [show _ from (hk.2 _ rfl)]
    exact ev_ret kc_268 rfl rfl rfl
  · refine ev_goF kc_268 1 (t := 26) (e := 11) (L' := [some (.ref 215), some (.int l1), some (.int l2)]) (st' := []) rfl hb2 ?_
    refine ev_go kc_268 3 (i' := 14) (L' := [some (.ref 215), some (.int l1), some (.int l2)]) (st' := [.int l2, .ref 215, .int l1]) (M' := M0) rfl ?_
    obtain ⟨v3, hc3, h⟩ := o_b1 h
    refine ev_cl0 (ins := .invokevirtual 82) kc_268 rfl rfl (a := 194) (as := [.ref 215, .int l2]) (rest := [.int l1]) rfl rfl (Cs.deep (c_X12_isUp (M0 := M0) hc3) (by decide)) ?_
    rcases o_bif h with ⟨hb4, h⟩ | ⟨hb4, h⟩
    · refine ev_goF kc_268 1 (t := 21) (e := 16) (L' := [some (.ref 215), some (.int l1), some (.int l2)]) (st' := [.int l1]) rfl (mB_e0f hb4) ?_
      refine ev_go kc_268 3 (i' := 19) (L' := [some (.ref 215), some (.int l1), some (.int l2)]) (st' := [.int (0 : Int32), .int l2, .ref 215, .int l1]) (M' := M0) rfl ?_
      obtain ⟨v5, hc5, h⟩ := o_b1 h
      refine ev_cl0 (ins := .invokevirtual 79) kc_268 rfl rfl (a := 193) (as := [.ref 215, .int l2, .int (0 : Int32)]) (rest := [.int l1]) rfl rfl (Cs.deep (c_X12_of (M0 := M0) hc5) (by decide)) ?_
      refine ev_go kc_268 5 (i' := 7) (L' := [some (.ref 215), some (.int (l1 + v5)), some (.int (l2 + (1 : Int32)))]) (st' := []) (M' := M0) rfl ?_
      obtain rfl := Option.some.inj h
      exact Ev.forget (mLe.kp (mLe.kp (mLe.kp mLe.nl))) (hk.1 ((l1 + v5), (l2 + (1 : Int32))) rfl)
    · refine ev_goT kc_268 1 (t := 21) (e := 16) (L' := [some (.ref 215), some (.int l1), some (.int l2)]) (st' := [.int l1]) rfl (mB_e0t hb4) ?_
      refine ev_go kc_268 5 (i' := 7) (L' := [some (.ref 215), some (.int (l1 + (0 : Int32))), some (.int (l2 + (1 : Int32)))]) (st' := []) (M' := M0) rfl ?_
      obtain rfl := Option.some.inj h
      exact Ev.forget (mLe.kp (mLe.kp (mLe.kp mLe.nl))) (hk.1 ((l1 + (0 : Int32)), (l2 + (1 : Int32))) rfl)
def f_X12_total_l7 (l1 : Int32) (l2 : Int32) (M0 : mM) : Option (Int32 × mM) :=
  wh 100000 (fun s : Int32 × Int32 => f_X12_total_7 s.1 s.2 M0) (l1, l2)
theorem e_X12_total_l7 {l1 : Int32} {l2 : Int32} {M0 : mM} {R : mZ} {out : (Int32 × mM)}  (h : f_X12_total_l7 l1 l2 M0 = some out) (hk : R = emW eI out) : Ev (3) 268 7 [some (.ref 215), some (.int l1), some (.int l2)] [] M0 R := by
  unfold f_X12_total_l7 at h
  exact wh_ev (P := fun s : Int32 × Int32 => Ev (3) 268 7 [some (.ref 215), some (.int s.1), some (.int s.2)] [] M0 R) (Q := fun e : (Int32 × mM) => R = emW eI e) (fun s o hb h1 h2 => e_X12_total_7  hb ⟨h1, h2⟩) 100000 _ _ h hk
def f_X12_total  (M0 : mM) : Option (Int32 × mM) :=
  wr (mst M0 215 0 (0 : Int32)) (fun M6 => f_X12_total_l7 (0 : Int32) (0 : Int32) M6)
set_option maxRecDepth 8000 in
theorem c_X12_total  {M0 : mM} {out : (Int32 × mM)} (h : f_X12_total M0 = some out) : Cs (3) 268 [.ref 215] M0 (emW eI out) := by
  generalize hk : emW eI out = R
  replace hk := hk.symm
  unfold f_X12_total at h
  show Ev (3) 268 0 [some (.ref 215), none, none] [] M0 R
  refine ev_go kc_268 2 (i' := 2) (L' := [some (.ref 215), none, none]) (st' := [.int (0 : Int32), .ref 215]) (M' := M0) rfl ?_
  obtain ⟨M6, hM6, h⟩ := o_wr h
  refine ev_pf kc_268 rfl rfl rfl rfl (fun hc => absurd hc (by decide)) hM6 ?_
  refine ev_go kc_268 4 (i' := 7) (L' := [some (.ref 215), some (.int (0 : Int32)), some (.int (0 : Int32))]) (st' := []) (M' := M6) rfl ?_
  exact Ev.forget (mLe.kp (mLe.kp (mLe.kp mLe.nl))) (e_X12_total_l7  h hk)
