/-! the methods, by program -/
/-- WakeTowerModel.ground()I: 269, W -/
theorem kc_269 : mKc 269 = k_X12_ground := rfl
def f_X12_ground_9 (l1 : Int32) (l2 : Int32) (M0 : mM) : Option ((Int32 × mM) ⊕ (Int32 × Int32)) :=
  b1 (f_X12_people M0) (fun v1 => bif decide (v1 ≤ l2) then (some (.inl (l1, M0))) else (b1 (f_X12_of l2 (5 : Int32) M0) (fun v3 => bif decide (¬ v3 = 0) then (some (.inr ((l1 + (0 : Int32)), (l2 + (1 : Int32))))) else (b1 (f_X12_of l2 (0 : Int32) M0) (fun v5 => gd (mIn l2 8) (some (.inr ((l1 + (v5 + (M0 221 (ix l2)))), (l2 + (1 : Int32))))))))))
set_option maxRecDepth 8000 in
theorem e_X12_ground_9 {l1 : Int32} {l2 : Int32} {M0 : mM} {R : mZ} {out : ((Int32 × mM) ⊕ (Int32 × Int32))}  (h : f_X12_ground_9 l1 l2 M0 = some out) (hk : (∀ s' : Int32 × Int32, out = .inr s' → Ev (7) 269 9 [some (.ref 215), some (.int s'.1), some (.int s'.2)] [] M0 R) ∧ (∀ e1 : (Int32 × mM), out = .inl e1 → R = emW eI e1)) : Ev (7) 269 9 [some (.ref 215), some (.int l1), some (.int l2)] [] M0 R := by
  unfold f_X12_ground_9 at h
  refine ev_go kc_269 2 (i' := 11) (L' := [some (.ref 215), some (.int l1), some (.int l2)]) (st' := [.ref 215, .int l2]) (M' := M0) rfl ?_
  obtain ⟨v1, hc1, h⟩ := o_b1 h
  refine ev_cl0 (ins := .invokevirtual 71) kc_269 rfl rfl (a := 190) (as := [.ref 215]) (rest := [.int l2]) rfl rfl (Cs.deep (c_X12_people (M0 := M0) hc1) (by decide)) ?_
  rcases o_bif h with ⟨hb2, h⟩ | ⟨hb2, h⟩
  · refine ev_goT kc_269 1 (t := 34) (e := 13) (L' := [some (.ref 215), some (.int l1), some (.int l2)]) (st' := []) rfl hb2 ?_
    refine ev_go kc_269 1 (i' := 35) (L' := [some (.ref 215), some (.int l1), some (.int l2)]) (st' := [.int l1]) (M' := M0) rfl ?_
    obtain rfl := Option.some.inj h
    rw [show _ from (hk.2 _ rfl)]
    exact ev_ret kc_269 rfl rfl rfl
  · refine ev_goF kc_269 1 (t := 34) (e := 13) (L' := [some (.ref 215), some (.int l1), some (.int l2)]) (st' := []) rfl hb2 ?_
    refine ev_go kc_269 4 (i' := 17) (L' := [some (.ref 215), some (.int l1), some (.int l2)]) (st' := [.int (5 : Int32), .int l2, .ref 215, .int l1]) (M' := M0) rfl ?_
    obtain ⟨v3, hc3, h⟩ := o_b1 h
    refine ev_cl0 (ins := .invokevirtual 79) kc_269 rfl rfl (a := 193) (as := [.ref 215, .int l2, .int (5 : Int32)]) (rest := [.int l1]) rfl rfl (Cs.deep (c_X12_of (M0 := M0) hc3) (by decide)) ?_
    rcases o_bif h with ⟨hb4, h⟩ | ⟨hb4, h⟩
    · refine ev_goT kc_269 1 (t := 29) (e := 19) (L' := [some (.ref 215), some (.int l1), some (.int l2)]) (st' := [.int l1]) rfl hb4 ?_
      refine ev_go kc_269 5 (i' := 9) (L' := [some (.ref 215), some (.int (l1 + (0 : Int32))), some (.int (l2 + (1 : Int32)))]) (st' := []) (M' := M0) rfl ?_
      obtain rfl := Option.some.inj h
      exact Ev.forget (mLe.kp (mLe.kp (mLe.kp mLe.nl))) (hk.1 ((l1 + (0 : Int32)), (l2 + (1 : Int32))) rfl)
    · refine ev_goF kc_269 1 (t := 29) (e := 19) (L' := [some (.ref 215), some (.int l1), some (.int l2)]) (st' := [.int l1]) rfl hb4 ?_
      refine ev_go kc_269 3 (i' := 22) (L' := [some (.ref 215), some (.int l1), some (.int l2)]) (st' := [.int (0 : Int32), .int l2, .ref 215, .int l1]) (M' := M0) rfl ?_
      obtain ⟨v5, hc5, h⟩ := o_b1 h
      refine ev_cl0 (ins := .invokevirtual 79) kc_269 rfl rfl (a := 193) (as := [.ref 215, .int l2, .int (0 : Int32)]) (rest := [.int l1]) rfl rfl (Cs.deep (c_X12_of (M0 := M0) hc5) (by decide)) ?_
      refine ev_go kc_269 3 (i' := 26) (L' := [some (.ref 215), some (.int l1), some (.int l2)]) (st' := [.int l2, .ref 221, .int v5, .int l1]) (M' := M0) rfl ?_
      obtain ⟨hg6, h⟩ := o_gd h
      refine ev_ia kc_269 rfl rfl hg6 ?_
      refine ev_go kc_269 6 (i' := 9) (L' := [some (.ref 215), some (.int (l1 + (v5 + (M0 221 (ix l2))))), some (.int (l2 + (1 : Int32)))]) (st' := []) (M' := M0) rfl ?_
      obtain rfl := Option.some.inj h
      exact Ev.forget (mLe.kp (mLe.kp (mLe.kp mLe.nl))) (hk.1 ((l1 + (v5 + (M0 221 (ix l2)))), (l2 + (1 : Int32))) rfl)
def f_X12_ground_l9 (l1 : Int32) (l2 : Int32) (M0 : mM) : Option (Int32 × mM) :=
  wh 100000 (fun s : Int32 × Int32 => f_X12_ground_9 s.1 s.2 M0) (l1, l2)
theorem e_X12_ground_l9 {l1 : Int32} {l2 : Int32} {M0 : mM} {R : mZ} {out : (Int32 × mM)}  (h : f_X12_ground_l9 l1 l2 M0 = some out) (hk : R = emW eI out) : Ev (7) 269 9 [some (.ref 215), some (.int l1), some (.int l2)] [] M0 R := by
  unfold f_X12_ground_l9 at h
  exact wh_ev (P := fun s : Int32 × Int32 => Ev (7) 269 9 [some (.ref 215), some (.int s.1), some (.int s.2)] [] M0 R) (Q := fun e : (Int32 × mM) => R = emW eI e) (fun s o hb h1 h2 => e_X12_ground_9  hb ⟨h1, h2⟩) 100000 _ _ h hk
def f_X12_ground  (M0 : mM) : Option (Int32 × mM) :=
  wr (mst M0 215 0 (0 : Int32)) (fun M7 => b2 (f_X12_lays M7) (fun v8 M8 => f_X12_ground_l9 (0 : Int32) (0 : Int32) M8))
set_option maxRecDepth 8000 in
theorem c_X12_ground  {M0 : mM} {out : (Int32 × mM)} (h : f_X12_ground M0 = some out) : Cs (7) 269 [.ref 215] M0 (emW eI out) := by
  generalize hk : emW eI out = R
  replace hk := hk.symm
  unfold f_X12_ground at h
  show Ev (7) 269 0 [some (.ref 215), none, none] [] M0 R
  refine ev_go kc_269 2 (i' := 2) (L' := [some (.ref 215), none, none]) (st' := [.int (0 : Int32), .ref 215]) (M' := M0) rfl ?_
  obtain ⟨M7, hM7, h⟩ := o_wr h
  refine ev_pf kc_269 rfl rfl rfl rfl (fun hc => absurd hc (by decide)) hM7 ?_
  refine ev_go kc_269 1 (i' := 4) (L' := [some (.ref 215), none, none]) (st' := [.ref 215]) (M' := M7) rfl ?_
  obtain ⟨v8, M8, hc8, h⟩ := o_b2 h
  refine ev_cl0 (ins := .invokevirtual 114) kc_269 rfl rfl (a := 204) (as := [.ref 215]) (rest := []) rfl rfl (Cs.deep (c_X12_lays hc8) (by decide)) ?_
  refine ev_go kc_269 4 (i' := 9) (L' := [some (.ref 215), some (.int (0 : Int32)), some (.int (0 : Int32))]) (st' := []) (M' := M8) rfl ?_
  exact Ev.forget (mLe.kp (mLe.kp (mLe.kp mLe.nl))) (e_X12_ground_l9  h hk)
/-- WakeTowerModel.height()I: 270, W -/
theorem kc_270 : mKc 270 = k_X12_height := rfl
def f_X12_height_7 (l1 : Int32) (l2 : Int32) (M0 : mM) : Option ((Int32 × mM) ⊕ (Int32 × Int32)) :=
  bif decide ((5 : Int32) ≤ l2) then (some (.inl (l1, M0))) else (b1 (f_X12_those l2 M0) (fun v2 => bif decide (v2 = 0) then (some (.inr ((l1 + (0 : Int32)), (l2 + (1 : Int32))))) else (some (.inr ((l1 + (1 : Int32)), (l2 + (1 : Int32)))))))
set_option maxRecDepth 8000 in
theorem e_X12_height_7 {l1 : Int32} {l2 : Int32} {M0 : mM} {R : mZ} {out : ((Int32 × mM) ⊕ (Int32 × Int32))}  (h : f_X12_height_7 l1 l2 M0 = some out) (hk : (∀ s' : Int32 × Int32, out = .inr s' → Ev (3) 270 7 [some (.ref 215), some (.int s'.1), some (.int s'.2)] [] M0 R) ∧ (∀ e1 : (Int32 × mM), out = .inl e1 → R = emW eI e1)) : Ev (3) 270 7 [some (.ref 215), some (.int l1), some (.int l2)] [] M0 R := by
  unfold f_X12_height_7 at h
  rcases o_bif h with ⟨hb1, h⟩ | ⟨hb1, h⟩
  · refine ev_goT kc_270 3 (t := 22) (e := 10) (L' := [some (.ref 215), some (.int l1), some (.int l2)]) (st' := []) rfl hb1 ?_
    refine ev_go kc_270 1 (i' := 23) (L' := [some (.ref 215), some (.int l1), some (.int l2)]) (st' := [.int l1]) (M' := M0) rfl ?_
    obtain rfl := Option.some.inj h
    rw [show _ from (hk.2 _ rfl)]
    exact ev_ret kc_270 rfl rfl rfl
  · refine ev_goF kc_270 3 (t := 22) (e := 10) (L' := [some (.ref 215), some (.int l1), some (.int l2)]) (st' := []) rfl hb1 ?_
    refine ev_go kc_270 3 (i' := 13) (L' := [some (.ref 215), some (.int l1), some (.int l2)]) (st' := [.int l2, .ref 215, .int l1]) (M' := M0) rfl ?_
    obtain ⟨v2, hc2, h⟩ := o_b1 h
    refine ev_cl0 (ins := .invokevirtual 366) kc_270 rfl rfl (a := 200) (as := [.ref 215, .int l2]) (rest := [.int l1]) rfl rfl (Cs.deep (c_X12_those (M0 := M0) hc2) (by decide)) ?_
    rcases o_bif h with ⟨hb3, h⟩ | ⟨hb3, h⟩
    · refine ev_goT kc_270 1 (t := 17) (e := 15) (L' := [some (.ref 215), some (.int l1), some (.int l2)]) (st' := [.int l1]) rfl hb3 ?_
      refine ev_go kc_270 5 (i' := 7) (L' := [some (.ref 215), some (.int (l1 + (0 : Int32))), some (.int (l2 + (1 : Int32)))]) (st' := []) (M' := M0) rfl ?_
      obtain rfl := Option.some.inj h
      exact Ev.forget (mLe.kp (mLe.kp (mLe.kp mLe.nl))) (hk.1 ((l1 + (0 : Int32)), (l2 + (1 : Int32))) rfl)
    · refine ev_goF kc_270 1 (t := 17) (e := 15) (L' := [some (.ref 215), some (.int l1), some (.int l2)]) (st' := [.int l1]) rfl hb3 ?_
      refine ev_go kc_270 6 (i' := 7) (L' := [some (.ref 215), some (.int (l1 + (1 : Int32))), some (.int (l2 + (1 : Int32)))]) (st' := []) (M' := M0) rfl ?_
      obtain rfl := Option.some.inj h
      exact Ev.forget (mLe.kp (mLe.kp (mLe.kp mLe.nl))) (hk.1 ((l1 + (1 : Int32)), (l2 + (1 : Int32))) rfl)
def f_X12_height_l7 (l1 : Int32) (l2 : Int32) (M0 : mM) : Option (Int32 × mM) :=
  wh 100000 (fun s : Int32 × Int32 => f_X12_height_7 s.1 s.2 M0) (l1, l2)
theorem e_X12_height_l7 {l1 : Int32} {l2 : Int32} {M0 : mM} {R : mZ} {out : (Int32 × mM)}  (h : f_X12_height_l7 l1 l2 M0 = some out) (hk : R = emW eI out) : Ev (3) 270 7 [some (.ref 215), some (.int l1), some (.int l2)] [] M0 R := by
  unfold f_X12_height_l7 at h
  exact wh_ev (P := fun s : Int32 × Int32 => Ev (3) 270 7 [some (.ref 215), some (.int s.1), some (.int s.2)] [] M0 R) (Q := fun e : (Int32 × mM) => R = emW eI e) (fun s o hb h1 h2 => e_X12_height_7  hb ⟨h1, h2⟩) 100000 _ _ h hk
def f_X12_height  (M0 : mM) : Option (Int32 × mM) :=
  wr (mst M0 215 0 (0 : Int32)) (fun M4 => f_X12_height_l7 (0 : Int32) (0 : Int32) M4)
set_option maxRecDepth 8000 in
theorem c_X12_height  {M0 : mM} {out : (Int32 × mM)} (h : f_X12_height M0 = some out) : Cs (3) 270 [.ref 215] M0 (emW eI out) := by
  generalize hk : emW eI out = R
  replace hk := hk.symm
  unfold f_X12_height at h
  show Ev (3) 270 0 [some (.ref 215), none, none] [] M0 R
  refine ev_go kc_270 2 (i' := 2) (L' := [some (.ref 215), none, none]) (st' := [.int (0 : Int32), .ref 215]) (M' := M0) rfl ?_
  obtain ⟨M4, hM4, h⟩ := o_wr h
  refine ev_pf kc_270 rfl rfl rfl rfl (fun hc => absurd hc (by decide)) hM4 ?_
  refine ev_go kc_270 4 (i' := 7) (L' := [some (.ref 215), some (.int (0 : Int32)), some (.int (0 : Int32))]) (st' := []) (M' := M4) rfl ?_
  exact Ev.forget (mLe.kp (mLe.kp (mLe.kp mLe.nl))) (e_X12_height_l7  h hk)
/-- WakeTowerModel.weakest()I: 271, W -/
theorem kc_271 : mKc 271 = k_X12_weakest := rfl
def f_X12_weakest_29 (l2 : Int32) (l3 : Int32) (l4 : Int32) (s0 : Int32) (M0 : mM) : Option ((Int32 × mM) ⊕ (Int32 × Int32 × Int32 × mM)) :=
  some (.inr (s0, (mMin l2 l4), (l3 + (1 : Int32)), M0))
set_option maxRecDepth 8000 in
theorem e_X12_weakest_29 {l2 : Int32} {l3 : Int32} {l4 : Int32} {s0 : Int32} {M0 : mM} {R : mZ} {out : ((Int32 × mM) ⊕ (Int32 × Int32 × Int32 × mM))}  (h : f_X12_weakest_29 l2 l3 l4 s0 M0 = some out) (hk : (∀ s' : Int32 × Int32 × Int32 × mM, out = .inr s' → Ev (9) 271 9 [some (.ref 215), some (.int s'.1), some (.int s'.2.1), some (.int s'.2.2.1), none] [] (s'.2.2.2) R) ∧ (∀ e1 : (Int32 × mM), out = .inl e1 → R = emW eI e1)) : Ev (9) 271 29 [some (.ref 215), none, some (.int l2), some (.int l3), some (.int l4)] [.int s0] M0 R := by
  unfold f_X12_weakest_29 at h
  refine ev_go kc_271 3 (i' := 32) (L' := [some (.ref 215), some (.int s0), some (.int l2), some (.int l3), some (.int l4)]) (st' := [.int l4, .int l2]) (M' := M0) rfl ?_
  refine ev_pm kc_271 rfl rfl rfl rfl (as := [.int l2, .int l4]) (rest := []) rfl rfl rfl (v := some (mMin l2 l4)) rfl ?_
  refine ev_go kc_271 3 (i' := 9) (L' := [some (.ref 215), some (.int s0), some (.int (mMin l2 l4)), some (.int (l3 + (1 : Int32))), some (.int l4)]) (st' := []) (M' := M0) rfl ?_
  obtain rfl := Option.some.inj h
  exact Ev.forget (mLe.kp (mLe.kp (mLe.kp (mLe.kp (mLe.sk mLe.nl))))) (hk.1 (s0, (mMin l2 l4), (l3 + (1 : Int32)), M0) rfl)
def f_X12_weakest_22 (l1 : Int32) (l2 : Int32) (l3 : Int32) (s0 : Int32) (M0 : mM) : Option ((Int32 × mM) ⊕ (Int32 × Int32 × Int32 × mM)) :=
  bif decide (l2 ≤ s0) then (f_X12_weakest_29 l2 l3 s0 l1 M0) else (f_X12_weakest_29 l2 l3 s0 l3 M0)
set_option maxRecDepth 8000 in
theorem e_X12_weakest_22 {l1 : Int32} {l2 : Int32} {l3 : Int32} {s0 : Int32} {M0 : mM} {R : mZ} {out : ((Int32 × mM) ⊕ (Int32 × Int32 × Int32 × mM))}  (h : f_X12_weakest_22 l1 l2 l3 s0 M0 = some out) (hk : (∀ s' : Int32 × Int32 × Int32 × mM, out = .inr s' → Ev (9) 271 9 [some (.ref 215), some (.int s'.1), some (.int s'.2.1), some (.int s'.2.2.1), none] [] (s'.2.2.2) R) ∧ (∀ e1 : (Int32 × mM), out = .inl e1 → R = emW eI e1)) : Ev (9) 271 22 [some (.ref 215), some (.int l1), some (.int l2), some (.int l3), none] [.int s0] M0 R := by
  unfold f_X12_weakest_22 at h
  rcases o_bif h with ⟨hb1, h⟩ | ⟨hb1, h⟩
  · refine ev_goT kc_271 4 (t := 28) (e := 26) (L' := [some (.ref 215), some (.int l1), some (.int l2), some (.int l3), some (.int s0)]) (st' := []) rfl hb1 ?_
    refine ev_go kc_271 1 (i' := 29) (L' := [some (.ref 215), some (.int l1), some (.int l2), some (.int l3), some (.int s0)]) (st' := [.int l1]) (M' := M0) rfl ?_
    exact Ev.forget (mLe.kp (mLe.sk (mLe.kp (mLe.kp (mLe.kp mLe.nl))))) (e_X12_weakest_29  h hk)
  · refine ev_goF kc_271 4 (t := 28) (e := 26) (L' := [some (.ref 215), some (.int l1), some (.int l2), some (.int l3), some (.int s0)]) (st' := []) rfl hb1 ?_
    refine ev_go kc_271 2 (i' := 29) (L' := [some (.ref 215), some (.int l1), some (.int l2), some (.int l3), some (.int s0)]) (st' := [.int l3]) (M' := M0) rfl ?_
    exact Ev.forget (mLe.kp (mLe.sk (mLe.kp (mLe.kp (mLe.kp mLe.nl))))) (e_X12_weakest_29  h hk)
def f_X12_weakest_9 (l1 : Int32) (l2 : Int32) (l3 : Int32) (M0 : mM) : Option ((Int32 × mM) ⊕ (Int32 × Int32 × Int32 × mM)) :=
  b1 (f_X12_people M0) (fun v2 => bif decide (v2 ≤ l3) then (some (.inl (l1, M0))) else (b1 (f_X12_holds l3 M0) (fun v4 => bif v4 then (b2 (f_X12_spareOf l3 M0) (fun v6 M6 => f_X12_weakest_22 l1 l2 l3 v6 M6)) else (f_X12_weakest_22 l1 l2 l3 (1000000 : Int32) M0))))
set_option maxRecDepth 8000 in
theorem e_X12_weakest_9 {l1 : Int32} {l2 : Int32} {l3 : Int32} {M0 : mM} {R : mZ} {out : ((Int32 × mM) ⊕ (Int32 × Int32 × Int32 × mM))}  (h : f_X12_weakest_9 l1 l2 l3 M0 = some out) (hk : (∀ s' : Int32 × Int32 × Int32 × mM, out = .inr s' → Ev (9) 271 9 [some (.ref 215), some (.int s'.1), some (.int s'.2.1), some (.int s'.2.2.1), none] [] (s'.2.2.2) R) ∧ (∀ e1 : (Int32 × mM), out = .inl e1 → R = emW eI e1)) : Ev (9) 271 9 [some (.ref 215), some (.int l1), some (.int l2), some (.int l3), none] [] M0 R := by
  unfold f_X12_weakest_9 at h
  refine ev_go kc_271 2 (i' := 11) (L' := [some (.ref 215), some (.int l1), some (.int l2), some (.int l3), none]) (st' := [.ref 215, .int l3]) (M' := M0) rfl ?_
  obtain ⟨v2, hc2, h⟩ := o_b1 h
  refine ev_cl0 (ins := .invokevirtual 71) kc_271 rfl rfl (a := 190) (as := [.ref 215]) (rest := [.int l3]) rfl rfl (Cs.deep (c_X12_people (M0 := M0) hc2) (by decide)) ?_
  rcases o_bif h with ⟨hb3, h⟩ | ⟨hb3, h⟩
  · refine ev_goT kc_271 1 (t := 36) (e := 13) (L' := [some (.ref 215), some (.int l1), some (.int l2), some (.int l3), none]) (st' := []) rfl hb3 ?_
    refine ev_go kc_271 1 (i' := 37) (L' := [some (.ref 215), some (.int l1), some (.int l2), some (.int l3), none]) (st' := [.int l1]) (M' := M0) rfl ?_
    obtain rfl := Option.some.inj h
    rw [show _ from (hk.2 _ rfl)]
    exact ev_ret kc_271 rfl rfl rfl
  · refine ev_goF kc_271 1 (t := 36) (e := 13) (L' := [some (.ref 215), some (.int l1), some (.int l2), some (.int l3), none]) (st' := []) rfl hb3 ?_
    refine ev_go kc_271 2 (i' := 15) (L' := [some (.ref 215), some (.int l1), some (.int l2), some (.int l3), none]) (st' := [.int l3, .ref 215]) (M' := M0) rfl ?_
    obtain ⟨v4, hc4, h⟩ := o_b1 h
    refine ev_cl0 (ins := .invokevirtual 89) kc_271 rfl rfl (a := 196) (as := [.ref 215, .int l3]) (rest := []) rfl rfl (Cs.deep (c_X12_holds (M0 := M0) hc4) (by decide)) ?_
    rcases o_bif h with ⟨hb5, h⟩ | ⟨hb5, h⟩
    · refine ev_goF kc_271 1 (t := 21) (e := 17) (L' := [some (.ref 215), some (.int l1), some (.int l2), some (.int l3), none]) (st' := []) rfl (mB_e0f hb5) ?_
      refine ev_go kc_271 2 (i' := 19) (L' := [some (.ref 215), some (.int l1), some (.int l2), some (.int l3), none]) (st' := [.int l3, .ref 215]) (M' := M0) rfl ?_
      obtain ⟨v6, M6, hc6, h⟩ := o_b2 h
      refine ev_cl0 (ins := .invokevirtual 335) kc_271 rfl rfl (a := 251) (as := [.ref 215, .int l3]) (rest := []) rfl rfl (Cs.deep (c_X12_spareOf hc6) (by decide)) ?_
      refine ev_go kc_271 1 (i' := 22) (L' := [some (.ref 215), some (.int l1), some (.int l2), some (.int l3), none]) (st' := [.int v6]) (M' := M6) rfl ?_
      exact Ev.forget (mLe.kp (mLe.kp (mLe.kp (mLe.kp (mLe.sk mLe.nl))))) (e_X12_weakest_22  h hk)
    · refine ev_goT kc_271 1 (t := 21) (e := 17) (L' := [some (.ref 215), some (.int l1), some (.int l2), some (.int l3), none]) (st' := []) rfl (mB_e0t hb5) ?_
      refine ev_go kc_271 1 (i' := 22) (L' := [some (.ref 215), some (.int l1), some (.int l2), some (.int l3), none]) (st' := [.int (1000000 : Int32)]) (M' := M0) rfl ?_
      exact Ev.forget (mLe.kp (mLe.kp (mLe.kp (mLe.kp (mLe.sk mLe.nl))))) (e_X12_weakest_22  h hk)
def f_X12_weakest_l9 (l1 : Int32) (l2 : Int32) (l3 : Int32) (M0 : mM) : Option (Int32 × mM) :=
  wh 100000 (fun s : Int32 × Int32 × Int32 × mM => f_X12_weakest_9 s.1 s.2.1 s.2.2.1 s.2.2.2) (l1, l2, l3, M0)
theorem e_X12_weakest_l9 {l1 : Int32} {l2 : Int32} {l3 : Int32} {M0 : mM} {R : mZ} {out : (Int32 × mM)}  (h : f_X12_weakest_l9 l1 l2 l3 M0 = some out) (hk : R = emW eI out) : Ev (9) 271 9 [some (.ref 215), some (.int l1), some (.int l2), some (.int l3), none] [] M0 R := by
  unfold f_X12_weakest_l9 at h
  exact wh_ev (P := fun s : Int32 × Int32 × Int32 × mM => Ev (9) 271 9 [some (.ref 215), some (.int s.1), some (.int s.2.1), some (.int s.2.2.1), none] [] s.2.2.2 R) (Q := fun e : (Int32 × mM) => R = emW eI e) (fun s o hb h1 h2 => e_X12_weakest_9  hb ⟨h1, h2⟩) 100000 _ _ h hk
def f_X12_weakest  (M0 : mM) : Option (Int32 × mM) :=
  wr (mst M0 215 0 (0 : Int32)) (fun M7 => f_X12_weakest_l9 (-1 : Int32) (1000000 : Int32) (0 : Int32) M7)
set_option maxRecDepth 8000 in
theorem c_X12_weakest  {M0 : mM} {out : (Int32 × mM)} (h : f_X12_weakest M0 = some out) : Cs (9) 271 [.ref 215] M0 (emW eI out) := by
  generalize hk : emW eI out = R
  replace hk := hk.symm
  unfold f_X12_weakest at h
  show Ev (9) 271 0 [some (.ref 215), none, none, none, none] [] M0 R
  refine ev_go kc_271 2 (i' := 2) (L' := [some (.ref 215), none, none, none, none]) (st' := [.int (0 : Int32), .ref 215]) (M' := M0) rfl ?_
  obtain ⟨M7, hM7, h⟩ := o_wr h
  refine ev_pf kc_271 rfl rfl rfl rfl (fun hc => absurd hc (by decide)) hM7 ?_
  refine ev_go kc_271 6 (i' := 9) (L' := [some (.ref 215), some (.int (-1 : Int32)), some (.int (1000000 : Int32)), some (.int (0 : Int32)), none]) (st' := []) (M' := M7) rfl ?_
  exact Ev.forget (mLe.kp (mLe.kp (mLe.kp (mLe.kp (mLe.sk mLe.nl))))) (e_X12_weakest_l9  h hk)
/-- WakeTowerModel.bearsMore(II)Z: 272, W -/
theorem kc_272 : mKc 272 = k_X12_bearsMore := rfl
def f_X12_bearsMore_16 (l1 : Int32) (l2 : Int32) (s0 : Bool) (M0 : mM) : Option (Bool × mM) :=
  gd (mIn (f_X12_at l1 (0 : Int32)) 2122) (gd (mIn (f_X12_at l1 (0 : Int32)) 2122) (wr (mst M0 216 (ix (f_X12_at l1 (0 : Int32))) ((M0 216 (ix (f_X12_at l1 (0 : Int32)))) - l2)) (fun M3 => some (s0, M3))))
set_option maxRecDepth 8000 in
theorem e_X12_bearsMore_16 {l1 : Int32} {l2 : Int32} {s0 : Bool} {M0 : mM} {R : mZ} {out : (Bool × mM)}  (h : f_X12_bearsMore_16 l1 l2 s0 M0 = some out) (hk : R = emW eB out) : Ev (8) 272 16 [some (.ref 215), some (.int l1), some (.int l2), none] [.int (mB s0)] M0 R := by
  unfold f_X12_bearsMore_16 at h
  refine ev_go kc_272 5 (i' := 21) (L' := [some (.ref 215), some (.int l1), some (.int l2), some (.int (mB s0))]) (st' := [.int (0 : Int32), .int l1, .ref 216]) (M' := M0) rfl ?_
  refine ev_cl0 (ins := .invokestatic 75) kc_272 rfl rfl (a := 192) (as := [.int l1, .int (0 : Int32)]) (rest := [.ref 216]) rfl rfl (Cs.deep (c_X12_at (M0 := M0)) (by decide)) ?_
  refine ev_go kc_272 1 (i' := 23) (L' := [some (.ref 215), some (.int l1), some (.int l2), some (.int (mB s0))]) (st' := [.int (f_X12_at l1 (0 : Int32)), .ref 216, .int (f_X12_at l1 (0 : Int32)), .ref 216]) (M' := M0) rfl ?_
  obtain ⟨hg2, h⟩ := o_gd h
  refine ev_ia kc_272 rfl rfl hg2 ?_
  refine ev_go kc_272 2 (i' := 26) (L' := [some (.ref 215), some (.int l1), some (.int l2), some (.int (mB s0))]) (st' := [.int ((M0 216 (ix (f_X12_at l1 (0 : Int32)))) - l2), .int (f_X12_at l1 (0 : Int32)), .ref 216]) (M' := M0) rfl ?_
  obtain ⟨hg4, h⟩ := o_gd h
  obtain ⟨M3, hM3, h⟩ := o_wr h
  refine ev_is kc_272 rfl rfl hg4 hM3 ?_
  refine ev_go kc_272 1 (i' := 28) (L' := [some (.ref 215), some (.int l1), some (.int l2), some (.int (mB s0))]) (st' := [.int (mB s0)]) (M' := M3) rfl ?_
  obtain rfl := Option.some.inj h
  rw [hk]
  exact ev_ret kc_272 rfl rfl mB_rok
def f_X12_bearsMore (p1 : Int32) (p2 : Int32) (M0 : mM) : Option (Bool × mM) :=
  gd (mIn (f_X12_at p1 (0 : Int32)) 2122) (gd (mIn (f_X12_at p1 (0 : Int32)) 2122) (wr (mst M0 216 (ix (f_X12_at p1 (0 : Int32))) ((M0 216 (ix (f_X12_at p1 (0 : Int32)))) + p2)) (fun M7 => b2 (f_X12_givesWay M7) (fun v9 M9 => bif decide (¬ v9 = 0) then (f_X12_bearsMore_16 p1 p2 false M9) else (f_X12_bearsMore_16 p1 p2 true M9)))))
set_option maxRecDepth 8000 in
theorem c_X12_bearsMore {p1 : Int32} {p2 : Int32} {M0 : mM} {out : (Bool × mM)} (h : f_X12_bearsMore p1 p2 M0 = some out) : Cs (8) 272 [.ref 215, .int p1, .int p2] M0 (emW eB out) := by
  generalize hk : emW eB out = R
  replace hk := hk.symm
  unfold f_X12_bearsMore at h
  show Ev (8) 272 0 [some (.ref 215), some (.int p1), some (.int p2), none] [] M0 R
  refine ev_go kc_272 4 (i' := 4) (L' := [some (.ref 215), some (.int p1), some (.int p2), none]) (st' := [.int (0 : Int32), .int p1, .ref 216]) (M' := M0) rfl ?_
  refine ev_cl0 (ins := .invokestatic 75) kc_272 rfl rfl (a := 192) (as := [.int p1, .int (0 : Int32)]) (rest := [.ref 216]) rfl rfl (Cs.deep (c_X12_at (M0 := M0)) (by decide)) ?_
  refine ev_go kc_272 1 (i' := 6) (L' := [some (.ref 215), some (.int p1), some (.int p2), none]) (st' := [.int (f_X12_at p1 (0 : Int32)), .ref 216, .int (f_X12_at p1 (0 : Int32)), .ref 216]) (M' := M0) rfl ?_
  obtain ⟨hg6, h⟩ := o_gd h
  refine ev_ia kc_272 rfl rfl hg6 ?_
  refine ev_go kc_272 2 (i' := 9) (L' := [some (.ref 215), some (.int p1), some (.int p2), none]) (st' := [.int ((M0 216 (ix (f_X12_at p1 (0 : Int32)))) + p2), .int (f_X12_at p1 (0 : Int32)), .ref 216]) (M' := M0) rfl ?_
  obtain ⟨hg8, h⟩ := o_gd h
  obtain ⟨M7, hM7, h⟩ := o_wr h
  refine ev_is kc_272 rfl rfl hg8 hM7 ?_
  refine ev_go kc_272 1 (i' := 11) (L' := [some (.ref 215), some (.int p1), some (.int p2), none]) (st' := [.ref 215]) (M' := M7) rfl ?_
  obtain ⟨v9, M9, hc9, h⟩ := o_b2 h
  refine ev_cl0 (ins := .invokevirtual 120) kc_272 rfl rfl (a := 208) (as := [.ref 215]) (rest := []) rfl rfl (Cs.deep (c_X12_givesWay hc9) (by decide)) ?_
  rcases o_bif h with ⟨hb10, h⟩ | ⟨hb10, h⟩
  · refine ev_goT kc_272 1 (t := 15) (e := 13) (L' := [some (.ref 215), some (.int p1), some (.int p2), none]) (st' := []) rfl hb10 ?_
    refine ev_go kc_272 1 (i' := 16) (L' := [some (.ref 215), some (.int p1), some (.int p2), none]) (st' := [.int (0 : Int32)]) (M' := M9) rfl ?_
    exact Ev.forget (mLe.kp (mLe.kp (mLe.kp (mLe.sk mLe.nl)))) (e_X12_bearsMore_16  h hk)
  · refine ev_goF kc_272 1 (t := 15) (e := 13) (L' := [some (.ref 215), some (.int p1), some (.int p2), none]) (st' := []) rfl hb10 ?_
    refine ev_go kc_272 2 (i' := 16) (L' := [some (.ref 215), some (.int p1), some (.int p2), none]) (st' := [.int (1 : Int32)]) (M' := M9) rfl ?_
    exact Ev.forget (mLe.kp (mLe.kp (mLe.kp (mLe.sk mLe.nl)))) (e_X12_bearsMore_16  h hk)
/-- WakeTowerModel.more(I)I: 273, W -/
theorem kc_273 : mKc 273 = k_X12_more := rfl
def f_X12_more_27 (l1 : Int32) (l2 : Int32) (l3 : Int32) (M0 : mM) : Option ((Int32 × mM) ⊕ (Int32 × Int32 × mM)) :=
  bif decide ((99 : Int32) < l3) then (some (.inl (l2, M0))) else (b2 (f_X12_bearsMore l1 l3 M0) (fun v2 M2 => bif v2 then (some (.inr (l3, (l3 + (1 : Int32)), M2))) else (some (.inr (l2, (l3 + (1 : Int32)), M2)))))
set_option maxRecDepth 8000 in
theorem e_X12_more_27 {l1 : Int32} {l2 : Int32} {l3 : Int32} {M0 : mM} {R : mZ} {out : ((Int32 × mM) ⊕ (Int32 × Int32 × mM))}  (h : f_X12_more_27 l1 l2 l3 M0 = some out) (hk : (∀ s' : Int32 × Int32 × mM, out = .inr s' → Ev (9) 273 27 [some (.ref 215), some (.int l1), some (.int s'.1), some (.int s'.2.1)] [] (s'.2.2) R) ∧ (∀ e1 : (Int32 × mM), out = .inl e1 → R = emW eI e1)) : Ev (9) 273 27 [some (.ref 215), some (.int l1), some (.int l2), some (.int l3)] [] M0 R := by
  unfold f_X12_more_27 at h
  rcases o_bif h with ⟨hb1, h⟩ | ⟨hb1, h⟩
  · refine ev_goT kc_273 3 (t := 41) (e := 30) (L' := [some (.ref 215), some (.int l1), some (.int l2), some (.int l3)]) (st' := []) rfl hb1 ?_
    refine ev_go kc_273 1 (i' := 42) (L' := [some (.ref 215), some (.int l1), some (.int l2), some (.int l3)]) (st' := [.int l2]) (M' := M0) rfl ?_
    obtain rfl := Option.some.inj h
    rw [show _ from (hk.2 _ rfl)]
    exact ev_ret kc_273 rfl rfl rfl
  · refine ev_goF kc_273 3 (t := 41) (e := 30) (L' := [some (.ref 215), some (.int l1), some (.int l2), some (.int l3)]) (st' := []) rfl hb1 ?_
    refine ev_go kc_273 3 (i' := 33) (L' := [some (.ref 215), some (.int l1), some (.int l2), some (.int l3)]) (st' := [.int l3, .int l1, .ref 215]) (M' := M0) rfl ?_
    obtain ⟨v2, M2, hc2, h⟩ := o_b2 h
    refine ev_cl0 (ins := .invokevirtual 382) kc_273 rfl rfl (a := 272) (as := [.ref 215, .int l1, .int l3]) (rest := []) rfl rfl (Cs.deep (c_X12_bearsMore hc2) (by decide)) ?_
    rcases o_bif h with ⟨hb3, h⟩ | ⟨hb3, h⟩
    · refine ev_goF kc_273 1 (t := 37) (e := 35) (L' := [some (.ref 215), some (.int l1), some (.int l2), some (.int l3)]) (st' := []) rfl (mB_e0f hb3) ?_
      refine ev_go kc_273 5 (i' := 27) (L' := [some (.ref 215), some (.int l1), some (.int l3), some (.int (l3 + (1 : Int32)))]) (st' := []) (M' := M2) rfl ?_
      obtain rfl := Option.some.inj h
      exact Ev.forget (mLe.kp (mLe.kp (mLe.kp (mLe.kp mLe.nl)))) (hk.1 (l3, (l3 + (1 : Int32)), M2) rfl)
    · refine ev_goT kc_273 1 (t := 37) (e := 35) (L' := [some (.ref 215), some (.int l1), some (.int l2), some (.int l3)]) (st' := []) rfl (mB_e0t hb3) ?_
      refine ev_go kc_273 4 (i' := 27) (L' := [some (.ref 215), some (.int l1), some (.int l2), some (.int (l3 + (1 : Int32)))]) (st' := []) (M' := M2) rfl ?_
      obtain rfl := Option.some.inj h
      exact Ev.forget (mLe.kp (mLe.kp (mLe.kp (mLe.kp mLe.nl)))) (hk.1 (l2, (l3 + (1 : Int32)), M2) rfl)
def f_X12_more_l27 (l1 : Int32) (l2 : Int32) (l3 : Int32) (M0 : mM) : Option (Int32 × mM) :=
  wh 100000 (fun s : Int32 × Int32 × mM => f_X12_more_27 l1 s.1 s.2.1 s.2.2) (l2, l3, M0)
theorem e_X12_more_l27 {l1 : Int32} {l2 : Int32} {l3 : Int32} {M0 : mM} {R : mZ} {out : (Int32 × mM)}  (h : f_X12_more_l27 l1 l2 l3 M0 = some out) (hk : R = emW eI out) : Ev (9) 273 27 [some (.ref 215), some (.int l1), some (.int l2), some (.int l3)] [] M0 R := by
  unfold f_X12_more_l27 at h
  exact wh_ev (P := fun s : Int32 × Int32 × mM => Ev (9) 273 27 [some (.ref 215), some (.int l1), some (.int s.1), some (.int s.2.1)] [] s.2.2 R) (Q := fun e : (Int32 × mM) => R = emW eI e) (fun s o hb h1 h2 => e_X12_more_27  hb ⟨h1, h2⟩) 100000 _ _ h hk
def f_X12_more_18 (l1 : Int32) (s1 : Bool) (M0 : mM) : Option (Int32 × mM) :=
  b2 (f_X12_throwsIf s1 (2 : Int32) M0) (fun v4 M4 => bif v4 then (some ((0 : Int32), M4)) else (f_X12_more_l27 l1 (0 : Int32) (1 : Int32) M4))
set_option maxRecDepth 8000 in
theorem e_X12_more_18 {l1 : Int32} {s1 : Bool} {M0 : mM} {R : mZ} {out : (Int32 × mM)}  (h : f_X12_more_18 l1 s1 M0 = some out) (hk : R = emW eI out) : Ev (9) 273 18 [some (.ref 215), some (.int l1), none, none] [.int (mB s1), .ref 215] M0 R := by
  unfold f_X12_more_18 at h
  refine ev_go kc_273 1 (i' := 19) (L' := [some (.ref 215), some (.int l1), none, none]) (st' := [.int (2 : Int32), .int (mB s1), .ref 215]) (M' := M0) rfl ?_
  obtain ⟨v4, M4, hc4, h⟩ := o_b2 h
  refine ev_cl0 (ins := .invokevirtual 304) kc_273 rfl rfl (a := 181) (as := [.ref 215, .int (mB s1), .int (2 : Int32)]) (rest := []) rfl rfl (Cs.deep (c_X12_throwsIf hc4) (by decide)) ?_
  rcases o_bif h with ⟨hb5, h⟩ | ⟨hb5, h⟩
  · refine ev_goF kc_273 1 (t := 23) (e := 21) (L' := [some (.ref 215), some (.int l1), none, none]) (st' := []) rfl (mB_e0f hb5) ?_
    refine ev_go kc_273 1 (i' := 22) (L' := [some (.ref 215), some (.int l1), none, none]) (st' := [.int (0 : Int32)]) (M' := M4) rfl ?_
    obtain rfl := Option.some.inj h
    rw [hk]
    exact ev_ret kc_273 rfl rfl rfl
  · refine ev_goT kc_273 1 (t := 23) (e := 21) (L' := [some (.ref 215), some (.int l1), none, none]) (st' := []) rfl (mB_e0t hb5) ?_
    refine ev_go kc_273 4 (i' := 27) (L' := [some (.ref 215), some (.int l1), some (.int (0 : Int32)), some (.int (1 : Int32))]) (st' := []) (M' := M4) rfl ?_
    exact Ev.forget (mLe.kp (mLe.kp (mLe.kp (mLe.kp mLe.nl)))) (e_X12_more_l27  h hk)
def f_X12_more (p1 : Int32) (M0 : mM) : Option (Int32 × mM) :=
  wr (mst M0 215 0 (0 : Int32)) (fun M6 => b1 (f_X12_nobody p1 M6) (fun v7 => b2 (f_X12_throwsIf v7 (1 : Int32) M6) (fun v8 M8 => bif v8 then (some ((0 : Int32), M8)) else (b1 (f_X12_isUp p1 M8) (fun v10 => bif v10 then (f_X12_more_18 p1 false M8) else (f_X12_more_18 p1 true M8))))))
set_option maxRecDepth 8000 in
theorem c_X12_more {p1 : Int32} {M0 : mM} {out : (Int32 × mM)} (h : f_X12_more p1 M0 = some out) : Cs (9) 273 [.ref 215, .int p1] M0 (emW eI out) := by
  generalize hk : emW eI out = R
  replace hk := hk.symm
  unfold f_X12_more at h
  show Ev (9) 273 0 [some (.ref 215), some (.int p1), none, none] [] M0 R
  refine ev_go kc_273 2 (i' := 2) (L' := [some (.ref 215), some (.int p1), none, none]) (st' := [.int (0 : Int32), .ref 215]) (M' := M0) rfl ?_
  obtain ⟨M6, hM6, h⟩ := o_wr h
  refine ev_pf kc_273 rfl rfl rfl rfl (fun hc => absurd hc (by decide)) hM6 ?_
  refine ev_go kc_273 3 (i' := 6) (L' := [some (.ref 215), some (.int p1), none, none]) (st' := [.int p1, .ref 215, .ref 215]) (M' := M6) rfl ?_
  obtain ⟨v7, hc7, h⟩ := o_b1 h
  refine ev_cl0 (ins := .invokevirtual 329) kc_273 rfl rfl (a := 201) (as := [.ref 215, .int p1]) (rest := [.ref 215]) rfl rfl (Cs.deep (c_X12_nobody (M0 := M6) hc7) (by decide)) ?_
  refine ev_go kc_273 1 (i' := 8) (L' := [some (.ref 215), some (.int p1), none, none]) (st' := [.int (1 : Int32), .int (mB v7), .ref 215]) (M' := M6) rfl ?_
  obtain ⟨v8, M8, hc8, h⟩ := o_b2 h
  refine ev_cl0 (ins := .invokevirtual 304) kc_273 rfl rfl (a := 181) (as := [.ref 215, .int (mB v7), .int (1 : Int32)]) (rest := []) rfl rfl (Cs.deep (c_X12_throwsIf hc8) (by decide)) ?_
  rcases o_bif h with ⟨hb9, h⟩ | ⟨hb9, h⟩
  · refine ev_goT kc_273 1 (t := 21) (e := 10) (L' := [some (.ref 215), some (.int p1), none, none]) (st' := []) rfl (mB_n0t hb9) ?_
    refine ev_go kc_273 1 (i' := 22) (L' := [some (.ref 215), some (.int p1), none, none]) (st' := [.int (0 : Int32)]) (M' := M8) rfl ?_
    obtain rfl := Option.some.inj h
    rw [hk]
    exact ev_ret kc_273 rfl rfl rfl
  · refine ev_goF kc_273 1 (t := 21) (e := 10) (L' := [some (.ref 215), some (.int p1), none, none]) (st' := []) rfl (mB_n0f hb9) ?_
    refine ev_go kc_273 3 (i' := 13) (L' := [some (.ref 215), some (.int p1), none, none]) (st' := [.int p1, .ref 215, .ref 215]) (M' := M8) rfl ?_
    obtain ⟨v10, hc10, h⟩ := o_b1 h
    refine ev_cl0 (ins := .invokevirtual 82) kc_273 rfl rfl (a := 194) (as := [.ref 215, .int p1]) (rest := [.ref 215]) rfl rfl (Cs.deep (c_X12_isUp (M0 := M8) hc10) (by decide)) ?_
    rcases o_bif h with ⟨hb11, h⟩ | ⟨hb11, h⟩
    · refine ev_goT kc_273 1 (t := 17) (e := 15) (L' := [some (.ref 215), some (.int p1), none, none]) (st' := [.ref 215]) rfl (mB_n0t hb11) ?_
      refine ev_go kc_273 1 (i' := 18) (L' := [some (.ref 215), some (.int p1), none, none]) (st' := [.int (0 : Int32), .ref 215]) (M' := M8) rfl ?_
      exact Ev.forget (mLe.kp (mLe.kp (mLe.sk (mLe.sk mLe.nl)))) (e_X12_more_18  h hk)
    · refine ev_goF kc_273 1 (t := 17) (e := 15) (L' := [some (.ref 215), some (.int p1), none, none]) (st' := [.ref 215]) rfl (mB_n0f hb11) ?_
      refine ev_go kc_273 2 (i' := 18) (L' := [some (.ref 215), some (.int p1), none, none]) (st' := [.int (1 : Int32), .ref 215]) (M' := M8) rfl ?_
      exact Ev.forget (mLe.kp (mLe.kp (mLe.sk (mLe.sk mLe.nl)))) (e_X12_more_18  h hk)
/-- WakeTowerModel.couldComeOut(I)Z: 274, W -/
theorem kc_274 : mKc 274 = k_X12_couldComeOut := rfl
def f_X12_couldComeOut (p1 : Int32) (M0 : mM) : Option (Bool × mM) :=
  b2 (f_X12_keepsAll M0) (fun v1 M1 => b2 (f_X12_comesOutOf p1 M1) (fun v2 M2 => b2 (f_X12_stands M2) (fun v3 M3 => b2 (f_X12_bringsBack M3) (fun v4 M4 => some (v3, M4)))))
set_option maxRecDepth 8000 in
theorem c_X12_couldComeOut {p1 : Int32} {M0 : mM} {out : (Bool × mM)} (h : f_X12_couldComeOut p1 M0 = some out) : Cs (9) 274 [.ref 215, .int p1] M0 (emW eB out) := by
  generalize hk : emW eB out = R
  replace hk := hk.symm
  unfold f_X12_couldComeOut at h
  show Ev (9) 274 0 [some (.ref 215), some (.int p1), none] [] M0 R
  refine ev_go kc_274 1 (i' := 1) (L' := [some (.ref 215), some (.int p1), none]) (st' := [.ref 215]) (M' := M0) rfl ?_
  obtain ⟨v1, M1, hc1, h⟩ := o_b2 h
  refine ev_cl0 (ins := .invokevirtual 353) kc_274 rfl rfl (a := 188) (as := [.ref 215]) (rest := []) rfl rfl (Cs.deep (c_X12_keepsAll hc1) (by decide)) ?_
  refine ev_go kc_274 2 (i' := 4) (L' := [some (.ref 215), some (.int p1), none]) (st' := [.int p1, .ref 215]) (M' := M1) rfl ?_
  obtain ⟨v2, M2, hc2, h⟩ := o_b2 h
  refine ev_cl0 (ins := .invokevirtual 148) kc_274 rfl rfl (a := 212) (as := [.ref 215, .int p1]) (rest := []) rfl rfl (Cs.deep (c_X12_comesOutOf hc2) (by decide)) ?_
  refine ev_go kc_274 1 (i' := 6) (L' := [some (.ref 215), some (.int p1), none]) (st' := [.ref 215]) (M' := M2) rfl ?_
  obtain ⟨v3, M3, hc3, h⟩ := o_b2 h
  refine ev_cl0 (ins := .invokevirtual 140) kc_274 rfl rfl (a := 210) (as := [.ref 215]) (rest := []) rfl rfl (Cs.deep (c_X12_stands hc3) (by decide)) ?_
  refine ev_go kc_274 2 (i' := 9) (L' := [some (.ref 215), some (.int p1), some (.int (mB v3))]) (st' := [.ref 215]) (M' := M3) rfl ?_
  obtain ⟨v4, M4, hc4, h⟩ := o_b2 h
  refine ev_cl0 (ins := .invokevirtual 363) kc_274 rfl rfl (a := 189) (as := [.ref 215]) (rest := []) rfl rfl (Cs.deep (c_X12_bringsBack hc4) (by decide)) ?_
  refine ev_go kc_274 1 (i' := 11) (L' := [some (.ref 215), some (.int p1), some (.int (mB v3))]) (st' := [.int (mB v3)]) (M' := M4) rfl ?_
  obtain rfl := Option.some.inj h
  rw [hk]
  exact ev_ret kc_274 rfl rfl mB_rok
/-- WakeTowerModel.outs()I: 275, W -/
theorem kc_275 : mKc 275 = k_X12_outs := rfl
def f_X12_outs_7 (l1 : Int32) (l2 : Int32) (M0 : mM) : Option ((Int32 × mM) ⊕ (Int32 × Int32 × mM)) :=
  b1 (f_X12_people M0) (fun v1 => bif decide (v1 ≤ l2) then (some (.inl (l1, M0))) else (b1 (f_X12_isUp l2 M0) (fun v3 => bif v3 then (b2 (f_X12_couldComeOut ((1 : Int32) <<< (l2 &&& (31 : Int32))) M0) (fun v5 M5 => bif v5 then (some (.inr ((l1 ||| ((1 : Int32) <<< (l2 &&& (31 : Int32)))), (l2 + (1 : Int32)), M5))) else (some (.inr ((l1 ||| (0 : Int32)), (l2 + (1 : Int32)), M5))))) else (some (.inr ((l1 ||| (0 : Int32)), (l2 + (1 : Int32)), M0))))))
set_option maxRecDepth 8000 in
theorem e_X12_outs_7 {l1 : Int32} {l2 : Int32} {M0 : mM} {R : mZ} {out : ((Int32 × mM) ⊕ (Int32 × Int32 × mM))}  (h : f_X12_outs_7 l1 l2 M0 = some out) (hk : (∀ s' : Int32 × Int32 × mM, out = .inr s' → Ev (10) 275 7 [some (.ref 215), some (.int s'.1), some (.int s'.2.1)] [] (s'.2.2) R) ∧ (∀ e1 : (Int32 × mM), out = .inl e1 → R = emW eI e1)) : Ev (10) 275 7 [some (.ref 215), some (.int l1), some (.int l2)] [] M0 R := by
  unfold f_X12_outs_7 at h
  refine ev_go kc_275 2 (i' := 9) (L' := [some (.ref 215), some (.int l1), some (.int l2)]) (st' := [.ref 215, .int l2]) (M' := M0) rfl ?_
  obtain ⟨v1, hc1, h⟩ := o_b1 h
  refine ev_cl0 (ins := .invokevirtual 71) kc_275 rfl rfl (a := 190) (as := [.ref 215]) (rest := [.int l2]) rfl rfl (Cs.deep (c_X12_people (M0 := M0) hc1) (by decide)) ?_
  rcases o_bif h with ⟨hb2, h⟩ | ⟨hb2, h⟩
  · refine ev_goT kc_275 1 (t := 31) (e := 11) (L' := [some (.ref 215), some (.int l1), some (.int l2)]) (st' := []) rfl hb2 ?_
    refine ev_go kc_275 1 (i' := 32) (L' := [some (.ref 215), some (.int l1), some (.int l2)]) (st' := [.int l1]) (M' := M0) rfl ?_
    obtain rfl := Option.some.inj h
    rw [show _ from (hk.2 _ rfl)]
    exact ev_ret kc_275 rfl rfl rfl
  · refine ev_goF kc_275 1 (t := 31) (e := 11) (L' := [some (.ref 215), some (.int l1), some (.int l2)]) (st' := []) rfl hb2 ?_
    refine ev_go kc_275 3 (i' := 14) (L' := [some (.ref 215), some (.int l1), some (.int l2)]) (st' := [.int l2, .ref 215, .int l1]) (M' := M0) rfl ?_
    obtain ⟨v3, hc3, h⟩ := o_b1 h
    refine ev_cl0 (ins := .invokevirtual 82) kc_275 rfl rfl (a := 194) (as := [.ref 215, .int l2]) (rest := [.int l1]) rfl rfl (Cs.deep (c_X12_isUp (M0 := M0) hc3) (by decide)) ?_
    rcases o_bif h with ⟨hb4, h⟩ | ⟨hb4, h⟩
    · refine ev_goF kc_275 1 (t := 26) (e := 16) (L' := [some (.ref 215), some (.int l1), some (.int l2)]) (st' := [.int l1]) rfl (mB_e0f hb4) ?_
      refine ev_go kc_275 4 (i' := 20) (L' := [some (.ref 215), some (.int l1), some (.int l2)]) (st' := [.int ((1 : Int32) <<< (l2 &&& (31 : Int32))), .ref 215, .int l1]) (M' := M0) rfl ?_
      obtain ⟨v5, M5, hc5, h⟩ := o_b2 h
      refine ev_cl0 (ins := .invokevirtual 385) kc_275 rfl rfl (a := 274) (as := [.ref 215, .int ((1 : Int32) <<< (l2 &&& (31 : Int32)))]) (rest := [.int l1]) rfl rfl (Cs.deep (c_X12_couldComeOut hc5) (by decide)) ?_
      rcases o_bif h with ⟨hb6, h⟩ | ⟨hb6, h⟩
      · refine ev_goF kc_275 1 (t := 26) (e := 22) (L' := [some (.ref 215), some (.int l1), some (.int l2)]) (st' := [.int l1]) rfl (mB_e0f hb6) ?_
        refine ev_go kc_275 8 (i' := 7) (L' := [some (.ref 215), some (.int (l1 ||| ((1 : Int32) <<< (l2 &&& (31 : Int32))))), some (.int (l2 + (1 : Int32)))]) (st' := []) (M' := M5) rfl ?_
        obtain rfl := Option.some.inj h
        exact Ev.forget (mLe.kp (mLe.kp (mLe.kp mLe.nl))) (hk.1 ((l1 ||| ((1 : Int32) <<< (l2 &&& (31 : Int32)))), (l2 + (1 : Int32)), M5) rfl)
      · refine ev_goT kc_275 1 (t := 26) (e := 22) (L' := [some (.ref 215), some (.int l1), some (.int l2)]) (st' := [.int l1]) rfl (mB_e0t hb6) ?_
        refine ev_go kc_275 5 (i' := 7) (L' := [some (.ref 215), some (.int (l1 ||| (0 : Int32))), some (.int (l2 + (1 : Int32)))]) (st' := []) (M' := M5) rfl ?_
        obtain rfl := Option.some.inj h
        exact Ev.forget (mLe.kp (mLe.kp (mLe.kp mLe.nl))) (hk.1 ((l1 ||| (0 : Int32)), (l2 + (1 : Int32)), M5) rfl)
    · refine ev_goT kc_275 1 (t := 26) (e := 16) (L' := [some (.ref 215), some (.int l1), some (.int l2)]) (st' := [.int l1]) rfl (mB_e0t hb4) ?_
      refine ev_go kc_275 5 (i' := 7) (L' := [some (.ref 215), some (.int (l1 ||| (0 : Int32))), some (.int (l2 + (1 : Int32)))]) (st' := []) (M' := M0) rfl ?_
      obtain rfl := Option.some.inj h
      exact Ev.forget (mLe.kp (mLe.kp (mLe.kp mLe.nl))) (hk.1 ((l1 ||| (0 : Int32)), (l2 + (1 : Int32)), M0) rfl)
def f_X12_outs_l7 (l1 : Int32) (l2 : Int32) (M0 : mM) : Option (Int32 × mM) :=
  wh 100000 (fun s : Int32 × Int32 × mM => f_X12_outs_7 s.1 s.2.1 s.2.2) (l1, l2, M0)
theorem e_X12_outs_l7 {l1 : Int32} {l2 : Int32} {M0 : mM} {R : mZ} {out : (Int32 × mM)}  (h : f_X12_outs_l7 l1 l2 M0 = some out) (hk : R = emW eI out) : Ev (10) 275 7 [some (.ref 215), some (.int l1), some (.int l2)] [] M0 R := by
  unfold f_X12_outs_l7 at h
  exact wh_ev (P := fun s : Int32 × Int32 × mM => Ev (10) 275 7 [some (.ref 215), some (.int s.1), some (.int s.2.1)] [] s.2.2 R) (Q := fun e : (Int32 × mM) => R = emW eI e) (fun s o hb h1 h2 => e_X12_outs_7  hb ⟨h1, h2⟩) 100000 _ _ h hk
def f_X12_outs  (M0 : mM) : Option (Int32 × mM) :=
  wr (mst M0 215 0 (0 : Int32)) (fun M7 => f_X12_outs_l7 (0 : Int32) (0 : Int32) M7)
set_option maxRecDepth 8000 in
theorem c_X12_outs  {M0 : mM} {out : (Int32 × mM)} (h : f_X12_outs M0 = some out) : Cs (10) 275 [.ref 215] M0 (emW eI out) := by
  generalize hk : emW eI out = R
  replace hk := hk.symm
  unfold f_X12_outs at h
  show Ev (10) 275 0 [some (.ref 215), none, none] [] M0 R
  refine ev_go kc_275 2 (i' := 2) (L' := [some (.ref 215), none, none]) (st' := [.int (0 : Int32), .ref 215]) (M' := M0) rfl ?_
  obtain ⟨M7, hM7, h⟩ := o_wr h
  refine ev_pf kc_275 rfl rfl rfl rfl (fun hc => absurd hc (by decide)) hM7 ?_
  refine ev_go kc_275 4 (i' := 7) (L' := [some (.ref 215), some (.int (0 : Int32)), some (.int (0 : Int32))]) (st' := []) (M' := M7) rfl ?_
  exact Ev.forget (mLe.kp (mLe.kp (mLe.kp mLe.nl))) (e_X12_outs_l7  h hk)
/-- WakeTowerModel.sleeps()I: 276, W -/
theorem kc_276 : mKc 276 = k_X12_sleeps := rfl
def f_X12_sleeps_32 (l2 : Int32) (s0 : Int32) (s1 : Int32) (M0 : mM) : Option ((Int32 × mM) ⊕ (Int32 × Int32 × mM)) :=
  gd (mIn (f_X12_at l2 (3 : Int32)) 2122) (wr (mst M0 216 (ix (f_X12_at l2 (3 : Int32))) (0 : Int32)) (fun M2 => some (.inr ((s0 ||| s1), (l2 + (1 : Int32)), M2))))
set_option maxRecDepth 8000 in
theorem e_X12_sleeps_32 {l2 : Int32} {s0 : Int32} {s1 : Int32} {M0 : mM} {R : mZ} {out : ((Int32 × mM) ⊕ (Int32 × Int32 × mM))}  (h : f_X12_sleeps_32 l2 s0 s1 M0 = some out) (hk : (∀ s' : Int32 × Int32 × mM, out = .inr s' → Ev (9) 276 7 [some (.ref 215), some (.int s'.1), some (.int s'.2.1)] [] (s'.2.2) R) ∧ (∀ e1 : (Int32 × mM), out = .inl e1 → R = emW eI e1)) : Ev (9) 276 32 [some (.ref 215), none, some (.int l2)] [.int s1, .int s0] M0 R := by
  unfold f_X12_sleeps_32 at h
  refine ev_go kc_276 6 (i' := 38) (L' := [some (.ref 215), some (.int (s0 ||| s1)), some (.int l2)]) (st' := [.int (3 : Int32), .int l2, .ref 216]) (M' := M0) rfl ?_
  refine ev_cl0 (ins := .invokestatic 75) kc_276 rfl rfl (a := 192) (as := [.int l2, .int (3 : Int32)]) (rest := [.ref 216]) rfl rfl (Cs.deep (c_X12_at (M0 := M0)) (by decide)) ?_
  refine ev_go kc_276 1 (i' := 40) (L' := [some (.ref 215), some (.int (s0 ||| s1)), some (.int l2)]) (st' := [.int (0 : Int32), .int (f_X12_at l2 (3 : Int32)), .ref 216]) (M' := M0) rfl ?_
  obtain ⟨hg3, h⟩ := o_gd h
  obtain ⟨M2, hM2, h⟩ := o_wr h
  refine ev_is kc_276 rfl rfl hg3 hM2 ?_
  refine ev_go kc_276 2 (i' := 7) (L' := [some (.ref 215), some (.int (s0 ||| s1)), some (.int (l2 + (1 : Int32)))]) (st' := []) (M' := M2) rfl ?_
  obtain rfl := Option.some.inj h
  exact Ev.forget (mLe.kp (mLe.kp (mLe.kp mLe.nl))) (hk.1 ((s0 ||| s1), (l2 + (1 : Int32)), M2) rfl)
def f_X12_sleeps_7 (l1 : Int32) (l2 : Int32) (M0 : mM) : Option ((Int32 × mM) ⊕ (Int32 × Int32 × mM)) :=
  b1 (f_X12_people M0) (fun v4 => bif decide (v4 ≤ l2) then (some (.inl (l1, M0))) else (b1 (f_X12_holds l2 M0) (fun v6 => bif v6 then (gd (mIn (f_X12_at l2 (3 : Int32)) 2122) (wr (mst M0 216 (ix (f_X12_at l2 (3 : Int32))) (1 : Int32)) (fun M9 => b2 (f_X12_stands M9) (fun v11 M11 => bif v11 then (f_X12_sleeps_32 l2 l1 ((1 : Int32) <<< (l2 &&& (31 : Int32))) M11) else (f_X12_sleeps_32 l2 l1 (0 : Int32) M11))))) else (some (.inr (l1, (l2 + (1 : Int32)), M0))))))
set_option maxRecDepth 8000 in
theorem e_X12_sleeps_7 {l1 : Int32} {l2 : Int32} {M0 : mM} {R : mZ} {out : ((Int32 × mM) ⊕ (Int32 × Int32 × mM))}  (h : f_X12_sleeps_7 l1 l2 M0 = some out) (hk : (∀ s' : Int32 × Int32 × mM, out = .inr s' → Ev (9) 276 7 [some (.ref 215), some (.int s'.1), some (.int s'.2.1)] [] (s'.2.2) R) ∧ (∀ e1 : (Int32 × mM), out = .inl e1 → R = emW eI e1)) : Ev (9) 276 7 [some (.ref 215), some (.int l1), some (.int l2)] [] M0 R := by
  unfold f_X12_sleeps_7 at h
  refine ev_go kc_276 2 (i' := 9) (L' := [some (.ref 215), some (.int l1), some (.int l2)]) (st' := [.ref 215, .int l2]) (M' := M0) rfl ?_
  obtain ⟨v4, hc4, h⟩ := o_b1 h
  refine ev_cl0 (ins := .invokevirtual 71) kc_276 rfl rfl (a := 190) (as := [.ref 215]) (rest := [.int l2]) rfl rfl (Cs.deep (c_X12_people (M0 := M0) hc4) (by decide)) ?_
  rcases o_bif h with ⟨hb5, h⟩ | ⟨hb5, h⟩
  · refine ev_goT kc_276 1 (t := 43) (e := 11) (L' := [some (.ref 215), some (.int l1), some (.int l2)]) (st' := []) rfl hb5 ?_
    refine ev_go kc_276 1 (i' := 44) (L' := [some (.ref 215), some (.int l1), some (.int l2)]) (st' := [.int l1]) (M' := M0) rfl ?_
    obtain rfl := Option.some.inj h
    rw [show _ from (hk.2 _ rfl)]
    exact ev_ret kc_276 rfl rfl rfl
  · refine ev_goF kc_276 1 (t := 43) (e := 11) (L' := [some (.ref 215), some (.int l1), some (.int l2)]) (st' := []) rfl hb5 ?_
    refine ev_go kc_276 2 (i' := 13) (L' := [some (.ref 215), some (.int l1), some (.int l2)]) (st' := [.int l2, .ref 215]) (M' := M0) rfl ?_
    obtain ⟨v6, hc6, h⟩ := o_b1 h
    refine ev_cl0 (ins := .invokevirtual 89) kc_276 rfl rfl (a := 196) (as := [.ref 215, .int l2]) (rest := []) rfl rfl (Cs.deep (c_X12_holds (M0 := M0) hc6) (by decide)) ?_
    rcases o_bif h with ⟨hb7, h⟩ | ⟨hb7, h⟩
    · refine ev_goT kc_276 1 (t := 16) (e := 15) (L' := [some (.ref 215), some (.int l1), some (.int l2)]) (st' := []) rfl (mB_n0t hb7) ?_
      refine ev_go kc_276 4 (i' := 20) (L' := [some (.ref 215), some (.int l1), some (.int l2)]) (st' := [.int (3 : Int32), .int l2, .ref 216]) (M' := M0) rfl ?_
      refine ev_cl0 (ins := .invokestatic 75) kc_276 rfl rfl (a := 192) (as := [.int l2, .int (3 : Int32)]) (rest := [.ref 216]) rfl rfl (Cs.deep (c_X12_at (M0 := M0)) (by decide)) ?_
      refine ev_go kc_276 1 (i' := 22) (L' := [some (.ref 215), some (.int l1), some (.int l2)]) (st' := [.int (1 : Int32), .int (f_X12_at l2 (3 : Int32)), .ref 216]) (M' := M0) rfl ?_
      obtain ⟨hg10, h⟩ := o_gd h
      obtain ⟨M9, hM9, h⟩ := o_wr h
      refine ev_is kc_276 rfl rfl hg10 hM9 ?_
      refine ev_go kc_276 2 (i' := 25) (L' := [some (.ref 215), some (.int l1), some (.int l2)]) (st' := [.ref 215, .int l1]) (M' := M9) rfl ?_
      obtain ⟨v11, M11, hc11, h⟩ := o_b2 h
      refine ev_cl0 (ins := .invokevirtual 140) kc_276 rfl rfl (a := 210) (as := [.ref 215]) (rest := [.int l1]) rfl rfl (Cs.deep (c_X12_stands hc11) (by decide)) ?_
      rcases o_bif h with ⟨hb12, h⟩ | ⟨hb12, h⟩
      · refine ev_goF kc_276 1 (t := 31) (e := 27) (L' := [some (.ref 215), some (.int l1), some (.int l2)]) (st' := [.int l1]) rfl (mB_e0f hb12) ?_
        refine ev_go kc_276 4 (i' := 32) (L' := [some (.ref 215), some (.int l1), some (.int l2)]) (st' := [.int ((1 : Int32) <<< (l2 &&& (31 : Int32))), .int l1]) (M' := M11) rfl ?_
        exact Ev.forget (mLe.kp (mLe.sk (mLe.kp mLe.nl))) (e_X12_sleeps_32  h hk)
      · refine ev_goT kc_276 1 (t := 31) (e := 27) (L' := [some (.ref 215), some (.int l1), some (.int l2)]) (st' := [.int l1]) rfl (mB_e0t hb12) ?_
        refine ev_go kc_276 1 (i' := 32) (L' := [some (.ref 215), some (.int l1), some (.int l2)]) (st' := [.int (0 : Int32), .int l1]) (M' := M11) rfl ?_
        exact Ev.forget (mLe.kp (mLe.sk (mLe.kp mLe.nl))) (e_X12_sleeps_32  h hk)
    · refine ev_goF kc_276 1 (t := 16) (e := 15) (L' := [some (.ref 215), some (.int l1), some (.int l2)]) (st' := []) rfl (mB_n0f hb7) ?_
      refine ev_go kc_276 3 (i' := 7) (L' := [some (.ref 215), some (.int l1), some (.int (l2 + (1 : Int32)))]) (st' := []) (M' := M0) rfl ?_
      obtain rfl := Option.some.inj h
      exact Ev.forget (mLe.kp (mLe.kp (mLe.kp mLe.nl))) (hk.1 (l1, (l2 + (1 : Int32)), M0) rfl)
def f_X12_sleeps_l7 (l1 : Int32) (l2 : Int32) (M0 : mM) : Option (Int32 × mM) :=
  wh 100000 (fun s : Int32 × Int32 × mM => f_X12_sleeps_7 s.1 s.2.1 s.2.2) (l1, l2, M0)
theorem e_X12_sleeps_l7 {l1 : Int32} {l2 : Int32} {M0 : mM} {R : mZ} {out : (Int32 × mM)}  (h : f_X12_sleeps_l7 l1 l2 M0 = some out) (hk : R = emW eI out) : Ev (9) 276 7 [some (.ref 215), some (.int l1), some (.int l2)] [] M0 R := by
  unfold f_X12_sleeps_l7 at h
  exact wh_ev (P := fun s : Int32 × Int32 × mM => Ev (9) 276 7 [some (.ref 215), some (.int s.1), some (.int s.2.1)] [] s.2.2 R) (Q := fun e : (Int32 × mM) => R = emW eI e) (fun s o hb h1 h2 => e_X12_sleeps_7  hb ⟨h1, h2⟩) 100000 _ _ h hk
def f_X12_sleeps  (M0 : mM) : Option (Int32 × mM) :=
  wr (mst M0 215 0 (0 : Int32)) (fun M13 => f_X12_sleeps_l7 (0 : Int32) (0 : Int32) M13)
set_option maxRecDepth 8000 in
theorem c_X12_sleeps  {M0 : mM} {out : (Int32 × mM)} (h : f_X12_sleeps M0 = some out) : Cs (9) 276 [.ref 215] M0 (emW eI out) := by
  generalize hk : emW eI out = R
  replace hk := hk.symm
  unfold f_X12_sleeps at h
  show Ev (9) 276 0 [some (.ref 215), none, none] [] M0 R
  refine ev_go kc_276 2 (i' := 2) (L' := [some (.ref 215), none, none]) (st' := [.int (0 : Int32), .ref 215]) (M' := M0) rfl ?_
  obtain ⟨M13, hM13, h⟩ := o_wr h
  refine ev_pf kc_276 rfl rfl rfl rfl (fun hc => absurd hc (by decide)) hM13 ?_
  refine ev_go kc_276 4 (i' := 7) (L' := [some (.ref 215), some (.int (0 : Int32)), some (.int (0 : Int32))]) (st' := []) (M' := M13) rfl ?_
  exact Ev.forget (mLe.kp (mLe.kp (mLe.kp mLe.nl))) (e_X12_sleeps_l7  h hk)
/-- WakeTowerModel.comesDown(I)V: 277, W -/
theorem kc_277 : mKc 277 = k_X12_comesDown := rfl
def f_X12_comesDown (p1 : Int32) (M0 : mM) : Option (Unit × mM) :=
  b2 (f_X12_keepsAll M0) (fun v1 M1 => b2 (f_X12_comesOut p1 M1) (fun v2 M2 => b2 (f_X12_allFall M2) (fun v3 M3 => b2 (f_X12_bringsBack M3) (fun v4 M4 => some ((), M4)))))
set_option maxRecDepth 8000 in
theorem c_X12_comesDown {p1 : Int32} {M0 : mM} {out : (Unit × mM)} (h : f_X12_comesDown p1 M0 = some out) : Cs (10) 277 [.ref 215, .int p1] M0 (emW eU out) := by
  generalize hk : emW eU out = R
  replace hk := hk.symm
  unfold f_X12_comesDown at h
  show Ev (10) 277 0 [some (.ref 215), some (.int p1)] [] M0 R
  refine ev_go kc_277 1 (i' := 1) (L' := [some (.ref 215), some (.int p1)]) (st' := [.ref 215]) (M' := M0) rfl ?_
  obtain ⟨v1, M1, hc1, h⟩ := o_b2 h
  refine ev_cl0 (ins := .invokevirtual 353) kc_277 rfl rfl (a := 188) (as := [.ref 215]) (rest := []) rfl rfl (Cs.deep (c_X12_keepsAll hc1) (by decide)) ?_
  refine ev_go kc_277 2 (i' := 4) (L' := [some (.ref 215), some (.int p1)]) (st' := [.int p1, .ref 215]) (M' := M1) rfl ?_
  obtain ⟨v2, M2, hc2, h⟩ := o_b2 h
  refine ev_cl0 (ins := .invokevirtual 126) kc_277 rfl rfl (a := 211) (as := [.ref 215, .int p1]) (rest := []) rfl rfl (Cs.deep (c_X12_comesOut hc2) (by decide)) ?_
  refine ev_go kc_277 1 (i' := 6) (L' := [some (.ref 215), some (.int p1)]) (st' := [.ref 215]) (M' := M2) rfl ?_
  obtain ⟨v3, M3, hc3, h⟩ := o_b2 h
  refine ev_cl0 (ins := .invokevirtual 347) kc_277 rfl rfl (a := 214) (as := [.ref 215]) (rest := []) rfl rfl (Cs.deep (c_X12_allFall hc3) (by decide)) ?_
  refine ev_go kc_277 1 (i' := 8) (L' := [some (.ref 215), some (.int p1)]) (st' := [.ref 215]) (M' := M3) rfl ?_
  obtain ⟨v4, M4, hc4, h⟩ := o_b2 h
  refine ev_cl0 (ins := .invokevirtual 363) kc_277 rfl rfl (a := 189) (as := [.ref 215]) (rest := []) rfl rfl (Cs.deep (c_X12_bringsBack hc4) (by decide)) ?_
  obtain rfl := Option.some.inj h
  rw [hk]
  exact ev_vret kc_277 rfl rfl rfl
/-- WakeTowerModel.cannotFall(I)Z: 278, W -/
theorem kc_278 : mKc 278 = k_X12_cannotFall := rfl
def f_X12_cannotFall_18 (s1 : Bool) (M0 : mM) : Option (Bool × mM) :=
  b2 (f_X12_throwsIf s1 (2 : Int32) M0) (fun v1 M1 => bif v1 then (some (true, M1)) else (some (false, M1)))
set_option maxRecDepth 8000 in
theorem e_X12_cannotFall_18 {s1 : Bool} {M0 : mM} {R : mZ} {out : (Bool × mM)}  (h : f_X12_cannotFall_18 s1 M0 = some out) (hk : R = emW eB out) : Ev (3) 278 18 [none, none] [.int (mB s1), .ref 215] M0 R := by
  unfold f_X12_cannotFall_18 at h
  refine ev_go kc_278 1 (i' := 19) (L' := [none, none]) (st' := [.int (2 : Int32), .int (mB s1), .ref 215]) (M' := M0) rfl ?_
  obtain ⟨v1, M1, hc1, h⟩ := o_b2 h
  refine ev_cl0 (ins := .invokevirtual 304) kc_278 rfl rfl (a := 181) (as := [.ref 215, .int (mB s1), .int (2 : Int32)]) (rest := []) rfl rfl (Cs.deep (c_X12_throwsIf hc1) (by decide)) ?_
  rcases o_bif h with ⟨hb2, h⟩ | ⟨hb2, h⟩
  · refine ev_goF kc_278 1 (t := 23) (e := 21) (L' := [none, none]) (st' := []) rfl (mB_e0f hb2) ?_
    refine ev_go kc_278 2 (i' := 24) (L' := [none, none]) (st' := [.int (1 : Int32)]) (M' := M1) rfl ?_
    obtain rfl := Option.some.inj h
    rw [hk]
    exact ev_ret kc_278 rfl rfl rfl
  · refine ev_goT kc_278 1 (t := 23) (e := 21) (L' := [none, none]) (st' := []) rfl (mB_e0t hb2) ?_
    refine ev_go kc_278 1 (i' := 24) (L' := [none, none]) (st' := [.int (0 : Int32)]) (M' := M1) rfl ?_
    obtain rfl := Option.some.inj h
    rw [hk]
    exact ev_ret kc_278 rfl rfl rfl
def f_X12_cannotFall (p1 : Int32) (M0 : mM) : Option (Bool × mM) :=
  wr (mst M0 215 0 (0 : Int32)) (fun M3 => b1 (f_X12_nobody p1 M3) (fun v4 => b2 (f_X12_throwsIf v4 (1 : Int32) M3) (fun v5 M5 => bif v5 then (some (true, M5)) else (b1 (f_X12_isUp p1 M5) (fun v7 => bif v7 then (f_X12_cannotFall_18 false M5) else (f_X12_cannotFall_18 true M5))))))
set_option maxRecDepth 8000 in
theorem c_X12_cannotFall {p1 : Int32} {M0 : mM} {out : (Bool × mM)} (h : f_X12_cannotFall p1 M0 = some out) : Cs (3) 278 [.ref 215, .int p1] M0 (emW eB out) := by
  generalize hk : emW eB out = R
  replace hk := hk.symm
  unfold f_X12_cannotFall at h
  show Ev (3) 278 0 [some (.ref 215), some (.int p1)] [] M0 R
  refine ev_go kc_278 2 (i' := 2) (L' := [some (.ref 215), some (.int p1)]) (st' := [.int (0 : Int32), .ref 215]) (M' := M0) rfl ?_
  obtain ⟨M3, hM3, h⟩ := o_wr h
  refine ev_pf kc_278 rfl rfl rfl rfl (fun hc => absurd hc (by decide)) hM3 ?_
  refine ev_go kc_278 3 (i' := 6) (L' := [some (.ref 215), some (.int p1)]) (st' := [.int p1, .ref 215, .ref 215]) (M' := M3) rfl ?_
  obtain ⟨v4, hc4, h⟩ := o_b1 h
  refine ev_cl0 (ins := .invokevirtual 329) kc_278 rfl rfl (a := 201) (as := [.ref 215, .int p1]) (rest := [.ref 215]) rfl rfl (Cs.deep (c_X12_nobody (M0 := M3) hc4) (by decide)) ?_
  refine ev_go kc_278 1 (i' := 8) (L' := [some (.ref 215), some (.int p1)]) (st' := [.int (1 : Int32), .int (mB v4), .ref 215]) (M' := M3) rfl ?_
  obtain ⟨v5, M5, hc5, h⟩ := o_b2 h
  refine ev_cl0 (ins := .invokevirtual 304) kc_278 rfl rfl (a := 181) (as := [.ref 215, .int (mB v4), .int (1 : Int32)]) (rest := []) rfl rfl (Cs.deep (c_X12_throwsIf hc5) (by decide)) ?_
  rcases o_bif h with ⟨hb6, h⟩ | ⟨hb6, h⟩
  · refine ev_goT kc_278 1 (t := 21) (e := 10) (L' := [some (.ref 215), some (.int p1)]) (st' := []) rfl (mB_n0t hb6) ?_
    refine ev_go kc_278 2 (i' := 24) (L' := [some (.ref 215), some (.int p1)]) (st' := [.int (1 : Int32)]) (M' := M5) rfl ?_
    obtain rfl := Option.some.inj h
    rw [hk]
    exact ev_ret kc_278 rfl rfl rfl
  · refine ev_goF kc_278 1 (t := 21) (e := 10) (L' := [some (.ref 215), some (.int p1)]) (st' := []) rfl (mB_n0f hb6) ?_
    refine ev_go kc_278 3 (i' := 13) (L' := [some (.ref 215), some (.int p1)]) (st' := [.int p1, .ref 215, .ref 215]) (M' := M5) rfl ?_
    obtain ⟨v7, hc7, h⟩ := o_b1 h
    refine ev_cl0 (ins := .invokevirtual 82) kc_278 rfl rfl (a := 194) (as := [.ref 215, .int p1]) (rest := [.ref 215]) rfl rfl (Cs.deep (c_X12_isUp (M0 := M5) hc7) (by decide)) ?_
    rcases o_bif h with ⟨hb8, h⟩ | ⟨hb8, h⟩
    · refine ev_goT kc_278 1 (t := 17) (e := 15) (L' := [some (.ref 215), some (.int p1)]) (st' := [.ref 215]) rfl (mB_n0t hb8) ?_
      refine ev_go kc_278 1 (i' := 18) (L' := [some (.ref 215), some (.int p1)]) (st' := [.int (0 : Int32), .ref 215]) (M' := M5) rfl ?_
      exact Ev.forget (mLe.sk (mLe.sk mLe.nl)) (e_X12_cannotFall_18  h hk)
    · refine ev_goF kc_278 1 (t := 17) (e := 15) (L' := [some (.ref 215), some (.int p1)]) (st' := [.ref 215]) rfl (mB_n0f hb8) ?_
      refine ev_go kc_278 2 (i' := 18) (L' := [some (.ref 215), some (.int p1)]) (st' := [.int (1 : Int32), .ref 215]) (M' := M5) rfl ?_
      exact Ev.forget (mLe.sk (mLe.sk mLe.nl)) (e_X12_cannotFall_18  h hk)
/-- WakeTowerModel.falls(I)I: 279, W -/
theorem kc_279 : mKc 279 = k_X12_falls := rfl
def f_X12_falls (p1 : Int32) (M0 : mM) : Option (Int32 × mM) :=
  b2 (f_X12_cannotFall p1 M0) (fun v1 M1 => bif v1 then (some ((0 : Int32), M1)) else (b2 (f_X12_comesDown p1 M1) (fun v3 M3 => some (((M3 215 10) + (1 : Int32)), M3))))
set_option maxRecDepth 8000 in
theorem c_X12_falls {p1 : Int32} {M0 : mM} {out : (Int32 × mM)} (h : f_X12_falls p1 M0 = some out) : Cs (11) 279 [.ref 215, .int p1] M0 (emW eI out) := by
  generalize hk : emW eI out = R
  replace hk := hk.symm
  unfold f_X12_falls at h
  show Ev (11) 279 0 [some (.ref 215), some (.int p1)] [] M0 R
  refine ev_go kc_279 2 (i' := 2) (L' := [some (.ref 215), some (.int p1)]) (st' := [.int p1, .ref 215]) (M' := M0) rfl ?_
  obtain ⟨v1, M1, hc1, h⟩ := o_b2 h
  refine ev_cl0 (ins := .invokevirtual 388) kc_279 rfl rfl (a := 278) (as := [.ref 215, .int p1]) (rest := []) rfl rfl (Cs.deep (c_X12_cannotFall hc1) (by decide)) ?_
  rcases o_bif h with ⟨hb2, h⟩ | ⟨hb2, h⟩
  · refine ev_goF kc_279 1 (t := 6) (e := 4) (L' := [some (.ref 215), some (.int p1)]) (st' := []) rfl (mB_e0f hb2) ?_
    refine ev_go kc_279 1 (i' := 5) (L' := [some (.ref 215), some (.int p1)]) (st' := [.int (0 : Int32)]) (M' := M1) rfl ?_
    obtain rfl := Option.some.inj h
    rw [hk]
    exact ev_ret kc_279 rfl rfl rfl
  · refine ev_goT kc_279 1 (t := 6) (e := 4) (L' := [some (.ref 215), some (.int p1)]) (st' := []) rfl (mB_e0t hb2) ?_
    refine ev_go kc_279 2 (i' := 8) (L' := [some (.ref 215), some (.int p1)]) (st' := [.int p1, .ref 215]) (M' := M1) rfl ?_
    obtain ⟨v3, M3, hc3, h⟩ := o_b2 h
    refine ev_cl0 (ins := .invokevirtual 391) kc_279 rfl rfl (a := 277) (as := [.ref 215, .int p1]) (rest := []) rfl rfl (Cs.deep (c_X12_comesDown hc3) (by decide)) ?_
    refine ev_go kc_279 4 (i' := 13) (L' := [some (.ref 215), some (.int p1)]) (st' := [.int ((M3 215 10) + (1 : Int32))]) (M' := M3) rfl ?_
    obtain rfl := Option.some.inj h
    rw [hk]
    exact ev_ret kc_279 rfl rfl rfl
/-- WakeTowerModel.rounds(I)I: 280, W -/
theorem kc_280 : mKc 280 = k_X12_rounds := rfl
def f_X12_rounds (p1 : Int32) (M0 : mM) : Option (Int32 × mM) :=
  b2 (f_X12_cannotFall p1 M0) (fun v1 M1 => bif v1 then (some ((0 : Int32), M1)) else (b2 (f_X12_comesDown p1 M1) (fun v3 M3 => some ((M3 215 11), M3))))
set_option maxRecDepth 8000 in
theorem c_X12_rounds {p1 : Int32} {M0 : mM} {out : (Int32 × mM)} (h : f_X12_rounds p1 M0 = some out) : Cs (11) 280 [.ref 215, .int p1] M0 (emW eI out) := by
  generalize hk : emW eI out = R
  replace hk := hk.symm
  unfold f_X12_rounds at h
  show Ev (11) 280 0 [some (.ref 215), some (.int p1)] [] M0 R
  refine ev_go kc_280 2 (i' := 2) (L' := [some (.ref 215), some (.int p1)]) (st' := [.int p1, .ref 215]) (M' := M0) rfl ?_
  obtain ⟨v1, M1, hc1, h⟩ := o_b2 h
  refine ev_cl0 (ins := .invokevirtual 388) kc_280 rfl rfl (a := 278) (as := [.ref 215, .int p1]) (rest := []) rfl rfl (Cs.deep (c_X12_cannotFall hc1) (by decide)) ?_
  rcases o_bif h with ⟨hb2, h⟩ | ⟨hb2, h⟩
  · refine ev_goF kc_280 1 (t := 6) (e := 4) (L' := [some (.ref 215), some (.int p1)]) (st' := []) rfl (mB_e0f hb2) ?_
    refine ev_go kc_280 1 (i' := 5) (L' := [some (.ref 215), some (.int p1)]) (st' := [.int (0 : Int32)]) (M' := M1) rfl ?_
    obtain rfl := Option.some.inj h
    rw [hk]
    exact ev_ret kc_280 rfl rfl rfl
  · refine ev_goT kc_280 1 (t := 6) (e := 4) (L' := [some (.ref 215), some (.int p1)]) (st' := []) rfl (mB_e0t hb2) ?_
    refine ev_go kc_280 2 (i' := 8) (L' := [some (.ref 215), some (.int p1)]) (st' := [.int p1, .ref 215]) (M' := M1) rfl ?_
    obtain ⟨v3, M3, hc3, h⟩ := o_b2 h
    refine ev_cl0 (ins := .invokevirtual 391) kc_280 rfl rfl (a := 277) (as := [.ref 215, .int p1]) (rest := []) rfl rfl (Cs.deep (c_X12_comesDown hc3) (by decide)) ?_
    refine ev_go kc_280 2 (i' := 11) (L' := [some (.ref 215), some (.int p1)]) (st' := [.int (M3 215 11)]) (M' := M3) rfl ?_
    obtain rfl := Option.some.inj h
    rw [hk]
    exact ev_ret kc_280 rfl rfl rfl
/-- WakeTowerModel.fallen(II)I: 281, W -/
theorem kc_281 : mKc 281 = k_X12_fallen := rfl
def f_X12_fallen (p1 : Int32) (p2 : Int32) (M0 : mM) : Option (Int32 × mM) :=
  b2 (f_X12_cannotFall p1 M0) (fun v1 M1 => bif v1 then (some ((0 : Int32), M1)) else (b2 (f_X12_comesDown p1 M1) (fun v3 M3 => bif decide (¬ p2 = 0) then (bif (f_X12_in p2 (1 : Int32) (M3 215 10)) then (gd (mIn (p2 - (1 : Int32)) 9) (some ((M3 222 (ix (p2 - (1 : Int32)))), M3))) else (some ((-1 : Int32), M3))) else (some (p1, M3)))))
set_option maxRecDepth 8000 in
theorem c_X12_fallen {p1 : Int32} {p2 : Int32} {M0 : mM} {out : (Int32 × mM)} (h : f_X12_fallen p1 p2 M0 = some out) : Cs (11) 281 [.ref 215, .int p1, .int p2] M0 (emW eI out) := by
  generalize hk : emW eI out = R
  replace hk := hk.symm
  unfold f_X12_fallen at h
  show Ev (11) 281 0 [some (.ref 215), some (.int p1), some (.int p2)] [] M0 R
  refine ev_go kc_281 2 (i' := 2) (L' := [some (.ref 215), some (.int p1), some (.int p2)]) (st' := [.int p1, .ref 215]) (M' := M0) rfl ?_
  obtain ⟨v1, M1, hc1, h⟩ := o_b2 h
  refine ev_cl0 (ins := .invokevirtual 388) kc_281 rfl rfl (a := 278) (as := [.ref 215, .int p1]) (rest := []) rfl rfl (Cs.deep (c_X12_cannotFall hc1) (by decide)) ?_
  rcases o_bif h with ⟨hb2, h⟩ | ⟨hb2, h⟩
  · refine ev_goF kc_281 1 (t := 6) (e := 4) (L' := [some (.ref 215), some (.int p1), some (.int p2)]) (st' := []) rfl (mB_e0f hb2) ?_
    refine ev_go kc_281 1 (i' := 5) (L' := [some (.ref 215), some (.int p1), some (.int p2)]) (st' := [.int (0 : Int32)]) (M' := M1) rfl ?_
    obtain rfl := Option.some.inj h
    rw [hk]
    exact ev_ret kc_281 rfl rfl rfl
  · refine ev_goT kc_281 1 (t := 6) (e := 4) (L' := [some (.ref 215), some (.int p1), some (.int p2)]) (st' := []) rfl (mB_e0t hb2) ?_
    refine ev_go kc_281 2 (i' := 8) (L' := [some (.ref 215), some (.int p1), some (.int p2)]) (st' := [.int p1, .ref 215]) (M' := M1) rfl ?_
    obtain ⟨v3, M3, hc3, h⟩ := o_b2 h
    refine ev_cl0 (ins := .invokevirtual 391) kc_281 rfl rfl (a := 277) (as := [.ref 215, .int p1]) (rest := []) rfl rfl (Cs.deep (c_X12_comesDown hc3) (by decide)) ?_
    rcases o_bif h with ⟨hb4, h⟩ | ⟨hb4, h⟩
    · refine ev_goT kc_281 2 (t := 13) (e := 11) (L' := [some (.ref 215), some (.int p1), some (.int p2)]) (st' := []) rfl hb4 ?_
      refine ev_go kc_281 4 (i' := 17) (L' := [some (.ref 215), some (.int p1), some (.int p2)]) (st' := [.int (M3 215 10), .int (1 : Int32), .int p2]) (M' := M3) rfl ?_
      refine ev_cl0 (ins := .invokestatic 92) kc_281 rfl rfl (a := 182) (as := [.int p2, .int (1 : Int32), .int (M3 215 10)]) (rest := []) rfl rfl (Cs.deep (c_X12_in (M0 := M3)) (by decide)) ?_
      rcases o_bif h with ⟨hb6, h⟩ | ⟨hb6, h⟩
      · refine ev_goF kc_281 1 (t := 26) (e := 19) (L' := [some (.ref 215), some (.int p1), some (.int p2)]) (st' := []) rfl (mB_e0f hb6) ?_
        refine ev_go kc_281 5 (i' := 24) (L' := [some (.ref 215), some (.int p1), some (.int p2)]) (st' := [.int (p2 - (1 : Int32)), .ref 222]) (M' := M3) rfl ?_
        obtain ⟨hg7, h⟩ := o_gd h
        refine ev_ia kc_281 rfl rfl hg7 ?_
        refine ev_go kc_281 1 (i' := 27) (L' := [some (.ref 215), some (.int p1), some (.int p2)]) (st' := [.int (M3 222 (ix (p2 - (1 : Int32))))]) (M' := M3) rfl ?_
        obtain rfl := Option.some.inj h
        rw [hk]
        exact ev_ret kc_281 rfl rfl rfl
      · refine ev_goT kc_281 1 (t := 26) (e := 19) (L' := [some (.ref 215), some (.int p1), some (.int p2)]) (st' := []) rfl (mB_e0t hb6) ?_
        refine ev_go kc_281 1 (i' := 27) (L' := [some (.ref 215), some (.int p1), some (.int p2)]) (st' := [.int (-1 : Int32)]) (M' := M3) rfl ?_
        obtain rfl := Option.some.inj h
        rw [hk]
        exact ev_ret kc_281 rfl rfl rfl
    · refine ev_goF kc_281 2 (t := 13) (e := 11) (L' := [some (.ref 215), some (.int p1), some (.int p2)]) (st' := []) rfl hb4 ?_
      refine ev_go kc_281 2 (i' := 27) (L' := [some (.ref 215), some (.int p1), some (.int p2)]) (st' := [.int p1]) (M' := M3) rfl ?_
      obtain rfl := Option.some.inj h
      rw [hk]
      exact ev_ret kc_281 rfl rfl rfl
/-- WakeTowerModel.key()I: 282, W -/
theorem kc_282 : mKc 282 = k_X12_key := rfl
def f_X12_key_28 (l2 : Int32) (l3 : Int32) (s0 : Int32) (M0 : mM) : Option ((Int32 × mM) ⊕ (Int32 × Int32 × Int32 × mM)) :=
  some (.inr (s0, (mMax l2 (M0 215 10)), (l3 + (1 : Int32)), M0))
set_option maxRecDepth 8000 in
theorem e_X12_key_28 {l2 : Int32} {l3 : Int32} {s0 : Int32} {M0 : mM} {R : mZ} {out : ((Int32 × mM) ⊕ (Int32 × Int32 × Int32 × mM))}  (h : f_X12_key_28 l2 l3 s0 M0 = some out) (hk : (∀ s' : Int32 × Int32 × Int32 × mM, out = .inr s' → Ev (11) 282 9 [some (.ref 215), some (.int s'.1), some (.int s'.2.1), some (.int s'.2.2.1)] [] (s'.2.2.2) R) ∧ (∀ e1 : (Int32 × mM), out = .inl e1 → R = emW eI e1)) : Ev (11) 282 28 [some (.ref 215), none, some (.int l2), some (.int l3)] [.int s0] M0 R := by
  unfold f_X12_key_28 at h
  refine ev_go kc_282 4 (i' := 32) (L' := [some (.ref 215), some (.int s0), some (.int l2), some (.int l3)]) (st' := [.int (M0 215 10), .int l2]) (M' := M0) rfl ?_
  refine ev_pm kc_282 rfl rfl rfl rfl (as := [.int l2, .int (M0 215 10)]) (rest := []) rfl rfl rfl (v := some (mMax l2 (M0 215 10))) rfl ?_
  refine ev_go kc_282 3 (i' := 9) (L' := [some (.ref 215), some (.int s0), some (.int (mMax l2 (M0 215 10))), some (.int (l3 + (1 : Int32)))]) (st' := []) (M' := M0) rfl ?_
  obtain rfl := Option.some.inj h
  exact Ev.forget (mLe.kp (mLe.kp (mLe.kp (mLe.kp mLe.nl)))) (hk.1 (s0, (mMax l2 (M0 215 10)), (l3 + (1 : Int32)), M0) rfl)
def f_X12_key_9 (l1 : Int32) (l2 : Int32) (l3 : Int32) (M0 : mM) : Option ((Int32 × mM) ⊕ (Int32 × Int32 × Int32 × mM)) :=
  b1 (f_X12_people M0) (fun v1 => bif decide (v1 ≤ l3) then (some (.inl (l1, M0))) else (b1 (f_X12_isUp l3 M0) (fun v3 => bif v3 then (b2 (f_X12_comesDown l3 M0) (fun v5 M5 => bif decide ((M5 215 10) ≤ l2) then (f_X12_key_28 l2 l3 l1 M5) else (f_X12_key_28 l2 l3 l3 M5))) else (some (.inr (l1, l2, (l3 + (1 : Int32)), M0))))))
set_option maxRecDepth 8000 in
theorem e_X12_key_9 {l1 : Int32} {l2 : Int32} {l3 : Int32} {M0 : mM} {R : mZ} {out : ((Int32 × mM) ⊕ (Int32 × Int32 × Int32 × mM))}  (h : f_X12_key_9 l1 l2 l3 M0 = some out) (hk : (∀ s' : Int32 × Int32 × Int32 × mM, out = .inr s' → Ev (11) 282 9 [some (.ref 215), some (.int s'.1), some (.int s'.2.1), some (.int s'.2.2.1)] [] (s'.2.2.2) R) ∧ (∀ e1 : (Int32 × mM), out = .inl e1 → R = emW eI e1)) : Ev (11) 282 9 [some (.ref 215), some (.int l1), some (.int l2), some (.int l3)] [] M0 R := by
  unfold f_X12_key_9 at h
  refine ev_go kc_282 2 (i' := 11) (L' := [some (.ref 215), some (.int l1), some (.int l2), some (.int l3)]) (st' := [.ref 215, .int l3]) (M' := M0) rfl ?_
  obtain ⟨v1, hc1, h⟩ := o_b1 h
  refine ev_cl0 (ins := .invokevirtual 71) kc_282 rfl rfl (a := 190) (as := [.ref 215]) (rest := [.int l3]) rfl rfl (Cs.deep (c_X12_people (M0 := M0) hc1) (by decide)) ?_
  rcases o_bif h with ⟨hb2, h⟩ | ⟨hb2, h⟩
  · refine ev_goT kc_282 1 (t := 36) (e := 13) (L' := [some (.ref 215), some (.int l1), some (.int l2), some (.int l3)]) (st' := []) rfl hb2 ?_
    refine ev_go kc_282 1 (i' := 37) (L' := [some (.ref 215), some (.int l1), some (.int l2), some (.int l3)]) (st' := [.int l1]) (M' := M0) rfl ?_
    obtain rfl := Option.some.inj h
    rw [show _ from (hk.2 _ rfl)]
    exact ev_ret kc_282 rfl rfl rfl
  · refine ev_goF kc_282 1 (t := 36) (e := 13) (L' := [some (.ref 215), some (.int l1), some (.int l2), some (.int l3)]) (st' := []) rfl hb2 ?_
    refine ev_go kc_282 2 (i' := 15) (L' := [some (.ref 215), some (.int l1), some (.int l2), some (.int l3)]) (st' := [.int l3, .ref 215]) (M' := M0) rfl ?_
    obtain ⟨v3, hc3, h⟩ := o_b1 h
    refine ev_cl0 (ins := .invokevirtual 82) kc_282 rfl rfl (a := 194) (as := [.ref 215, .int l3]) (rest := []) rfl rfl (Cs.deep (c_X12_isUp (M0 := M0) hc3) (by decide)) ?_
    rcases o_bif h with ⟨hb4, h⟩ | ⟨hb4, h⟩
    · refine ev_goT kc_282 1 (t := 18) (e := 17) (L' := [some (.ref 215), some (.int l1), some (.int l2), some (.int l3)]) (st' := []) rfl (mB_n0t hb4) ?_
      refine ev_go kc_282 2 (i' := 20) (L' := [some (.ref 215), some (.int l1), some (.int l2), some (.int l3)]) (st' := [.int l3, .ref 215]) (M' := M0) rfl ?_
      obtain ⟨v5, M5, hc5, h⟩ := o_b2 h
      refine ev_cl0 (ins := .invokevirtual 391) kc_282 rfl rfl (a := 277) (as := [.ref 215, .int l3]) (rest := []) rfl rfl (Cs.deep (c_X12_comesDown hc5) (by decide)) ?_
      rcases o_bif h with ⟨hb6, h⟩ | ⟨hb6, h⟩
      · refine ev_goT kc_282 4 (t := 27) (e := 25) (L' := [some (.ref 215), some (.int l1), some (.int l2), some (.int l3)]) (st' := []) rfl hb6 ?_
        refine ev_go kc_282 1 (i' := 28) (L' := [some (.ref 215), some (.int l1), some (.int l2), some (.int l3)]) (st' := [.int l1]) (M' := M5) rfl ?_
        exact Ev.forget (mLe.kp (mLe.sk (mLe.kp (mLe.kp mLe.nl)))) (e_X12_key_28  h hk)
      · refine ev_goF kc_282 4 (t := 27) (e := 25) (L' := [some (.ref 215), some (.int l1), some (.int l2), some (.int l3)]) (st' := []) rfl hb6 ?_
        refine ev_go kc_282 2 (i' := 28) (L' := [some (.ref 215), some (.int l1), some (.int l2), some (.int l3)]) (st' := [.int l3]) (M' := M5) rfl ?_
        exact Ev.forget (mLe.kp (mLe.sk (mLe.kp (mLe.kp mLe.nl)))) (e_X12_key_28  h hk)
    · refine ev_goF kc_282 1 (t := 18) (e := 17) (L' := [some (.ref 215), some (.int l1), some (.int l2), some (.int l3)]) (st' := []) rfl (mB_n0f hb4) ?_
      refine ev_go kc_282 3 (i' := 9) (L' := [some (.ref 215), some (.int l1), some (.int l2), some (.int (l3 + (1 : Int32)))]) (st' := []) (M' := M0) rfl ?_
      obtain rfl := Option.some.inj h
      exact Ev.forget (mLe.kp (mLe.kp (mLe.kp (mLe.kp mLe.nl)))) (hk.1 (l1, l2, (l3 + (1 : Int32)), M0) rfl)
def f_X12_key_l9 (l1 : Int32) (l2 : Int32) (l3 : Int32) (M0 : mM) : Option (Int32 × mM) :=
  wh 100000 (fun s : Int32 × Int32 × Int32 × mM => f_X12_key_9 s.1 s.2.1 s.2.2.1 s.2.2.2) (l1, l2, l3, M0)
theorem e_X12_key_l9 {l1 : Int32} {l2 : Int32} {l3 : Int32} {M0 : mM} {R : mZ} {out : (Int32 × mM)}  (h : f_X12_key_l9 l1 l2 l3 M0 = some out) (hk : R = emW eI out) : Ev (11) 282 9 [some (.ref 215), some (.int l1), some (.int l2), some (.int l3)] [] M0 R := by
  unfold f_X12_key_l9 at h
  exact wh_ev (P := fun s : Int32 × Int32 × Int32 × mM => Ev (11) 282 9 [some (.ref 215), some (.int s.1), some (.int s.2.1), some (.int s.2.2.1)] [] s.2.2.2 R) (Q := fun e : (Int32 × mM) => R = emW eI e) (fun s o hb h1 h2 => e_X12_key_9  hb ⟨h1, h2⟩) 100000 _ _ h hk
def f_X12_key  (M0 : mM) : Option (Int32 × mM) :=
  wr (mst M0 215 0 (0 : Int32)) (fun M7 => f_X12_key_l9 (-1 : Int32) (-1 : Int32) (0 : Int32) M7)
set_option maxRecDepth 8000 in
theorem c_X12_key  {M0 : mM} {out : (Int32 × mM)} (h : f_X12_key M0 = some out) : Cs (11) 282 [.ref 215] M0 (emW eI out) := by
  generalize hk : emW eI out = R
  replace hk := hk.symm
  unfold f_X12_key at h
  show Ev (11) 282 0 [some (.ref 215), none, none, none] [] M0 R
  refine ev_go kc_282 2 (i' := 2) (L' := [some (.ref 215), none, none, none]) (st' := [.int (0 : Int32), .ref 215]) (M' := M0) rfl ?_
  obtain ⟨M7, hM7, h⟩ := o_wr h
  refine ev_pf kc_282 rfl rfl rfl rfl (fun hc => absurd hc (by decide)) hM7 ?_
  refine ev_go kc_282 6 (i' := 9) (L' := [some (.ref 215), some (.int (-1 : Int32)), some (.int (-1 : Int32)), some (.int (0 : Int32))]) (st' := []) (M' := M7) rfl ?_
  exact Ev.forget (mLe.kp (mLe.kp (mLe.kp (mLe.kp mLe.nl)))) (e_X12_key_l9  h hk)
/-- WakeTowerModel.pillars()I: 283, W -/
theorem kc_283 : mKc 283 = k_X12_pillars := rfl
def f_X12_pillars_10 (l1 : Int32) (l2 : Int32) (l3 : Int32) (M0 : mM) : Option ((Int32 × mM) ⊕ (Int32 × Int32 × mM)) :=
  bif decide (l1 < l3) then (some (.inl (l2, M0))) else (bif decide (¬ (l3 &&& (l1 ^^^ (-1 : Int32))) = 0) then (some (.inr ((l2 + (0 : Int32)), (l3 + (1 : Int32)), M0))) else (b2 (f_X12_couldComeOut l3 M0) (fun v3 M3 => bif v3 then (some (.inr ((l2 + (1 : Int32)), (l3 + (1 : Int32)), M3))) else (some (.inr ((l2 + (0 : Int32)), (l3 + (1 : Int32)), M3))))))
set_option maxRecDepth 8000 in
theorem e_X12_pillars_10 {l1 : Int32} {l2 : Int32} {l3 : Int32} {M0 : mM} {R : mZ} {out : ((Int32 × mM) ⊕ (Int32 × Int32 × mM))}  (h : f_X12_pillars_10 l1 l2 l3 M0 = some out) (hk : (∀ s' : Int32 × Int32 × mM, out = .inr s' → Ev (10) 283 10 [some (.ref 215), some (.int l1), some (.int s'.1), some (.int s'.2.1)] [] (s'.2.2) R) ∧ (∀ e1 : (Int32 × mM), out = .inl e1 → R = emW eI e1)) : Ev (10) 283 10 [some (.ref 215), some (.int l1), some (.int l2), some (.int l3)] [] M0 R := by
  unfold f_X12_pillars_10 at h
  rcases o_bif h with ⟨hb1, h⟩ | ⟨hb1, h⟩
  · refine ev_goT kc_283 3 (t := 31) (e := 13) (L' := [some (.ref 215), some (.int l1), some (.int l2), some (.int l3)]) (st' := []) rfl hb1 ?_
    refine ev_go kc_283 1 (i' := 32) (L' := [some (.ref 215), some (.int l1), some (.int l2), some (.int l3)]) (st' := [.int l2]) (M' := M0) rfl ?_
    obtain rfl := Option.some.inj h
    rw [show _ from (hk.2 _ rfl)]
    exact ev_ret kc_283 rfl rfl rfl
  · refine ev_goF kc_283 3 (t := 31) (e := 13) (L' := [some (.ref 215), some (.int l1), some (.int l2), some (.int l3)]) (st' := []) rfl hb1 ?_
    rcases o_bif h with ⟨hb2, h⟩ | ⟨hb2, h⟩
    · refine ev_goT kc_283 7 (t := 26) (e := 20) (L' := [some (.ref 215), some (.int l1), some (.int l2), some (.int l3)]) (st' := [.int l2]) rfl hb2 ?_
      refine ev_go kc_283 5 (i' := 10) (L' := [some (.ref 215), some (.int l1), some (.int (l2 + (0 : Int32))), some (.int (l3 + (1 : Int32)))]) (st' := []) (M' := M0) rfl ?_
      obtain rfl := Option.some.inj h
      exact Ev.forget (mLe.kp (mLe.kp (mLe.kp (mLe.kp mLe.nl)))) (hk.1 ((l2 + (0 : Int32)), (l3 + (1 : Int32)), M0) rfl)
    · refine ev_goF kc_283 7 (t := 26) (e := 20) (L' := [some (.ref 215), some (.int l1), some (.int l2), some (.int l3)]) (st' := [.int l2]) rfl hb2 ?_
      refine ev_go kc_283 2 (i' := 22) (L' := [some (.ref 215), some (.int l1), some (.int l2), some (.int l3)]) (st' := [.int l3, .ref 215, .int l2]) (M' := M0) rfl ?_
      obtain ⟨v3, M3, hc3, h⟩ := o_b2 h
      refine ev_cl0 (ins := .invokevirtual 385) kc_283 rfl rfl (a := 274) (as := [.ref 215, .int l3]) (rest := [.int l2]) rfl rfl (Cs.deep (c_X12_couldComeOut hc3) (by decide)) ?_
      rcases o_bif h with ⟨hb4, h⟩ | ⟨hb4, h⟩
      · refine ev_goF kc_283 1 (t := 26) (e := 24) (L' := [some (.ref 215), some (.int l1), some (.int l2), some (.int l3)]) (st' := [.int l2]) rfl (mB_e0f hb4) ?_
        refine ev_go kc_283 6 (i' := 10) (L' := [some (.ref 215), some (.int l1), some (.int (l2 + (1 : Int32))), some (.int (l3 + (1 : Int32)))]) (st' := []) (M' := M3) rfl ?_
        obtain rfl := Option.some.inj h
        exact Ev.forget (mLe.kp (mLe.kp (mLe.kp (mLe.kp mLe.nl)))) (hk.1 ((l2 + (1 : Int32)), (l3 + (1 : Int32)), M3) rfl)
      · refine ev_goT kc_283 1 (t := 26) (e := 24) (L' := [some (.ref 215), some (.int l1), some (.int l2), some (.int l3)]) (st' := [.int l2]) rfl (mB_e0t hb4) ?_
        refine ev_go kc_283 5 (i' := 10) (L' := [some (.ref 215), some (.int l1), some (.int (l2 + (0 : Int32))), some (.int (l3 + (1 : Int32)))]) (st' := []) (M' := M3) rfl ?_
        obtain rfl := Option.some.inj h
        exact Ev.forget (mLe.kp (mLe.kp (mLe.kp (mLe.kp mLe.nl)))) (hk.1 ((l2 + (0 : Int32)), (l3 + (1 : Int32)), M3) rfl)
def f_X12_pillars_l10 (l1 : Int32) (l2 : Int32) (l3 : Int32) (M0 : mM) : Option (Int32 × mM) :=
  wh 100000 (fun s : Int32 × Int32 × mM => f_X12_pillars_10 l1 s.1 s.2.1 s.2.2) (l2, l3, M0)
theorem e_X12_pillars_l10 {l1 : Int32} {l2 : Int32} {l3 : Int32} {M0 : mM} {R : mZ} {out : (Int32 × mM)}  (h : f_X12_pillars_l10 l1 l2 l3 M0 = some out) (hk : R = emW eI out) : Ev (10) 283 10 [some (.ref 215), some (.int l1), some (.int l2), some (.int l3)] [] M0 R := by
  unfold f_X12_pillars_l10 at h
  exact wh_ev (P := fun s : Int32 × Int32 × mM => Ev (10) 283 10 [some (.ref 215), some (.int l1), some (.int s.1), some (.int s.2.1)] [] s.2.2 R) (Q := fun e : (Int32 × mM) => R = emW eI e) (fun s o hb h1 h2 => e_X12_pillars_10  hb ⟨h1, h2⟩) 100000 _ _ h hk
def f_X12_pillars  (M0 : mM) : Option (Int32 × mM) :=
  wr (mst M0 215 0 (0 : Int32)) (fun M5 => b1 (f_X12_upOnes M5) (fun v6 => f_X12_pillars_l10 v6 (0 : Int32) (0 : Int32) M5))
set_option maxRecDepth 8000 in
theorem c_X12_pillars  {M0 : mM} {out : (Int32 × mM)} (h : f_X12_pillars M0 = some out) : Cs (10) 283 [.ref 215] M0 (emW eI out) := by
  generalize hk : emW eI out = R
  replace hk := hk.symm
  unfold f_X12_pillars at h
  show Ev (10) 283 0 [some (.ref 215), none, none, none] [] M0 R
  refine ev_go kc_283 2 (i' := 2) (L' := [some (.ref 215), none, none, none]) (st' := [.int (0 : Int32), .ref 215]) (M' := M0) rfl ?_
  obtain ⟨M5, hM5, h⟩ := o_wr h
  refine ev_pf kc_283 rfl rfl rfl rfl (fun hc => absurd hc (by decide)) hM5 ?_
  refine ev_go kc_283 1 (i' := 4) (L' := [some (.ref 215), none, none, none]) (st' := [.ref 215]) (M' := M5) rfl ?_
  obtain ⟨v6, hc6, h⟩ := o_b1 h
  refine ev_cl0 (ins := .invokevirtual 394) kc_283 rfl rfl (a := 197) (as := [.ref 215]) (rest := []) rfl rfl (Cs.deep (c_X12_upOnes (M0 := M5) hc6) (by decide)) ?_
  refine ev_go kc_283 5 (i' := 10) (L' := [some (.ref 215), some (.int v6), some (.int (0 : Int32)), some (.int (0 : Int32))]) (st' := []) (M' := M5) rfl ?_
  exact Ev.forget (mLe.kp (mLe.kp (mLe.kp (mLe.kp mLe.nl)))) (e_X12_pillars_l10  h hk)
/-- WakeTowerModel.uppermost()I: 284, R -/
theorem kc_284 : mKc 284 = k_X12_uppermost := rfl
def f_X12_uppermost_10 (l1 : Int32) (M0 : mM) : Option Int32 :=
  b1 (f_X12_those l1 M0) (fun v1 => some v1)
set_option maxRecDepth 8000 in
theorem e_X12_uppermost_10 {l1 : Int32} {M0 : mM} {R : mZ} {out : Int32}  (h : f_X12_uppermost_10 l1 M0 = some out) (hk : R = emR eI M0 out) : Ev (3) 284 10 [some (.ref 215), some (.int l1)] [] M0 R := by
  unfold f_X12_uppermost_10 at h
  refine ev_go kc_284 2 (i' := 12) (L' := [some (.ref 215), some (.int l1)]) (st' := [.int l1, .ref 215]) (M' := M0) rfl ?_
  obtain ⟨v1, hc1, h⟩ := o_b1 h
  refine ev_cl0 (ins := .invokevirtual 366) kc_284 rfl rfl (a := 200) (as := [.ref 215, .int l1]) (rest := []) rfl rfl (Cs.deep (c_X12_those (M0 := M0) hc1) (by decide)) ?_
  obtain rfl := Option.some.inj h
  rw [hk]
  exact ev_ret kc_284 rfl rfl rfl
def f_X12_uppermost_2 (l1 : Int32) (M0 : mM) : Option (Int32 ⊕ (Int32)) :=
  bif decide (l1 ≤ 0) then (b1 (f_X12_uppermost_10 l1 M0) (fun r3 => some (.inl r3))) else (b1 (f_X12_those l1 M0) (fun v4 => bif decide (¬ v4 = 0) then (b1 (f_X12_uppermost_10 l1 M0) (fun r6 => some (.inl r6))) else (some (.inr (l1 + (-1 : Int32))))))
set_option maxRecDepth 8000 in
theorem e_X12_uppermost_2 {l1 : Int32} {M0 : mM} {R : mZ} {out : (Int32 ⊕ (Int32))}  (h : f_X12_uppermost_2 l1 M0 = some out) (hk : (∀ s' : Int32, out = .inr s' → Ev (3) 284 2 [some (.ref 215), some (.int s')] [] M0 R) ∧ (∀ e1 : Int32, out = .inl e1 → R = emR eI M0 e1)) : Ev (3) 284 2 [some (.ref 215), some (.int l1)] [] M0 R := by
  unfold f_X12_uppermost_2 at h
  rcases o_bif h with ⟨hb2, h⟩ | ⟨hb2, h⟩
  · refine ev_goT kc_284 2 (t := 10) (e := 4) (L' := [some (.ref 215), some (.int l1)]) (st' := []) rfl hb2 ?_
    obtain ⟨r3, hr3, h⟩ := o_b1 h
    obtain rfl := Option.some.inj h
    exact Ev.forget (mLe.kp (mLe.kp mLe.nl)) (e_X12_uppermost_10  hr3 (hk.2 _ rfl))
  · refine ev_goF kc_284 2 (t := 10) (e := 4) (L' := [some (.ref 215), some (.int l1)]) (st' := []) rfl hb2 ?_
    refine ev_go kc_284 2 (i' := 6) (L' := [some (.ref 215), some (.int l1)]) (st' := [.int l1, .ref 215]) (M' := M0) rfl ?_
    obtain ⟨v4, hc4, h⟩ := o_b1 h
    refine ev_cl0 (ins := .invokevirtual 366) kc_284 rfl rfl (a := 200) (as := [.ref 215, .int l1]) (rest := []) rfl rfl (Cs.deep (c_X12_those (M0 := M0) hc4) (by decide)) ?_
    rcases o_bif h with ⟨hb5, h⟩ | ⟨hb5, h⟩
    · refine ev_goT kc_284 1 (t := 10) (e := 8) (L' := [some (.ref 215), some (.int l1)]) (st' := []) rfl hb5 ?_
      obtain ⟨r6, hr6, h⟩ := o_b1 h
      obtain rfl := Option.some.inj h
      exact Ev.forget (mLe.kp (mLe.kp mLe.nl)) (e_X12_uppermost_10  hr6 (hk.2 _ rfl))
    · refine ev_goF kc_284 1 (t := 10) (e := 8) (L' := [some (.ref 215), some (.int l1)]) (st' := []) rfl hb5 ?_
      refine ev_go kc_284 2 (i' := 2) (L' := [some (.ref 215), some (.int (l1 + (-1 : Int32)))]) (st' := []) (M' := M0) rfl ?_
      obtain rfl := Option.some.inj h
      exact Ev.forget (mLe.kp (mLe.kp mLe.nl)) (hk.1 (l1 + (-1 : Int32)) rfl)
def f_X12_uppermost_l2 (l1 : Int32) (M0 : mM) : Option Int32 :=
  wh 100000 (fun s : Int32 => f_X12_uppermost_2 s M0) l1
theorem e_X12_uppermost_l2 {l1 : Int32} {M0 : mM} {R : mZ} {out : Int32}  (h : f_X12_uppermost_l2 l1 M0 = some out) (hk : R = emR eI M0 out) : Ev (3) 284 2 [some (.ref 215), some (.int l1)] [] M0 R := by
  unfold f_X12_uppermost_l2 at h
  exact wh_ev (P := fun s : Int32 => Ev (3) 284 2 [some (.ref 215), some (.int s)] [] M0 R) (Q := fun e : Int32 => R = emR eI M0 e) (fun s o hb h1 h2 => e_X12_uppermost_2  hb ⟨h1, h2⟩) 100000 _ _ h hk
def f_X12_uppermost  (M0 : mM) : Option Int32 :=
  f_X12_uppermost_l2 (4 : Int32) M0
set_option maxRecDepth 8000 in
theorem c_X12_uppermost  {M0 : mM} {out : Int32} (h : f_X12_uppermost M0 = some out) : Cs (3) 284 [.ref 215] M0 (emR eI M0 out) := by
  generalize hk : emR eI M0 out = R
  replace hk := hk.symm
  unfold f_X12_uppermost at h
  show Ev (3) 284 0 [some (.ref 215), none] [] M0 R
  refine ev_go kc_284 2 (i' := 2) (L' := [some (.ref 215), some (.int (4 : Int32))]) (st' := []) (M' := M0) rfl ?_
  exact Ev.forget (mLe.kp (mLe.kp mLe.nl)) (e_X12_uppermost_l2  h hk)
/-- WakeTowerModel.left()I: 285, W -/
theorem kc_285 : mKc 285 = k_X12_left := rfl
def f_X12_left_10 (l1 : Int32) (l2 : Int32) (l3 : Int32) (M0 : mM) : Option ((Int32 × mM) ⊕ (Int32 × Int32 × mM)) :=
  bif decide (l3 ≤ 0) then (some (.inl (l2, M0))) else (bif decide (¬ (l3 &&& (l1 ^^^ (-1 : Int32))) = 0) then (some (.inr (l2, (l3 + (-1 : Int32)), M0))) else (b1 (f_X12_uppermost M0) (fun v3 => bif decide ((l3 &&& v3) = 0) then (some (.inr (l2, (l3 + (-1 : Int32)), M0))) else (bif decide ((f_J6_bitCount_0f7a4 l2) < (f_J6_bitCount_0f7a4 l3)) then (some (.inr (l2, (l3 + (-1 : Int32)), M0))) else (b2 (f_X12_couldComeOut (l1 &&& (l3 ^^^ (-1 : Int32))) M0) (fun v8 M8 => bif v8 then (some (.inr (l3, (l3 + (-1 : Int32)), M8))) else (some (.inr (l2, (l3 + (-1 : Int32)), M8)))))))))
set_option maxRecDepth 8000 in
theorem e_X12_left_10 {l1 : Int32} {l2 : Int32} {l3 : Int32} {M0 : mM} {R : mZ} {out : ((Int32 × mM) ⊕ (Int32 × Int32 × mM))}  (h : f_X12_left_10 l1 l2 l3 M0 = some out) (hk : (∀ s' : Int32 × Int32 × mM, out = .inr s' → Ev (10) 285 10 [some (.ref 215), some (.int l1), some (.int s'.1), some (.int s'.2.1)] [] (s'.2.2) R) ∧ (∀ e1 : (Int32 × mM), out = .inl e1 → R = emW eI e1)) : Ev (10) 285 10 [some (.ref 215), some (.int l1), some (.int l2), some (.int l3)] [] M0 R := by
  unfold f_X12_left_10 at h
  rcases o_bif h with ⟨hb1, h⟩ | ⟨hb1, h⟩
  · refine ev_goT kc_285 2 (t := 40) (e := 12) (L' := [some (.ref 215), some (.int l1), some (.int l2), some (.int l3)]) (st' := []) rfl hb1 ?_
    refine ev_go kc_285 1 (i' := 41) (L' := [some (.ref 215), some (.int l1), some (.int l2), some (.int l3)]) (st' := [.int l2]) (M' := M0) rfl ?_
    obtain rfl := Option.some.inj h
    rw [show _ from (hk.2 _ rfl)]
    exact ev_ret kc_285 rfl rfl rfl
  · refine ev_goF kc_285 2 (t := 40) (e := 12) (L' := [some (.ref 215), some (.int l1), some (.int l2), some (.int l3)]) (st' := []) rfl hb1 ?_
    rcases o_bif h with ⟨hb2, h⟩ | ⟨hb2, h⟩
    · refine ev_goT kc_285 6 (t := 38) (e := 18) (L' := [some (.ref 215), some (.int l1), some (.int l2), some (.int l3)]) (st' := []) rfl hb2 ?_
      refine ev_go kc_285 2 (i' := 10) (L' := [some (.ref 215), some (.int l1), some (.int l2), some (.int (l3 + (-1 : Int32)))]) (st' := []) (M' := M0) rfl ?_
      obtain rfl := Option.some.inj h
      exact Ev.forget (mLe.kp (mLe.kp (mLe.kp (mLe.kp mLe.nl)))) (hk.1 (l2, (l3 + (-1 : Int32)), M0) rfl)
    · refine ev_goF kc_285 6 (t := 38) (e := 18) (L' := [some (.ref 215), some (.int l1), some (.int l2), some (.int l3)]) (st' := []) rfl hb2 ?_
      refine ev_go kc_285 2 (i' := 20) (L' := [some (.ref 215), some (.int l1), some (.int l2), some (.int l3)]) (st' := [.ref 215, .int l3]) (M' := M0) rfl ?_
      obtain ⟨v3, hc3, h⟩ := o_b1 h
      refine ev_cl0 (ins := .invokevirtual 397) kc_285 rfl rfl (a := 284) (as := [.ref 215]) (rest := [.int l3]) rfl rfl (Cs.deep (c_X12_uppermost (M0 := M0) hc3) (by decide)) ?_
      rcases o_bif h with ⟨hb4, h⟩ | ⟨hb4, h⟩
      · refine ev_goT kc_285 2 (t := 38) (e := 23) (L' := [some (.ref 215), some (.int l1), some (.int l2), some (.int l3)]) (st' := []) rfl hb4 ?_
        refine ev_go kc_285 2 (i' := 10) (L' := [some (.ref 215), some (.int l1), some (.int l2), some (.int (l3 + (-1 : Int32)))]) (st' := []) (M' := M0) rfl ?_
        obtain rfl := Option.some.inj h
        exact Ev.forget (mLe.kp (mLe.kp (mLe.kp (mLe.kp mLe.nl)))) (hk.1 (l2, (l3 + (-1 : Int32)), M0) rfl)
      · refine ev_goF kc_285 2 (t := 38) (e := 23) (L' := [some (.ref 215), some (.int l1), some (.int l2), some (.int l3)]) (st' := []) rfl hb4 ?_
        refine ev_go kc_285 1 (i' := 24) (L' := [some (.ref 215), some (.int l1), some (.int l2), some (.int l3)]) (st' := [.int l3]) (M' := M0) rfl ?_
        refine ev_cl0 (ins := .invokestatic 100) kc_285 rfl rfl (a := 10) (as := [.int l3]) (rest := []) rfl rfl (Cs.deep (c_J6_bitCount_0f7a4 (M0 := M0)) (by decide)) ?_
        refine ev_go kc_285 1 (i' := 26) (L' := [some (.ref 215), some (.int l1), some (.int l2), some (.int l3)]) (st' := [.int l2, .int (f_J6_bitCount_0f7a4 l3)]) (M' := M0) rfl ?_
        refine ev_cl0 (ins := .invokestatic 100) kc_285 rfl rfl (a := 10) (as := [.int l2]) (rest := [.int (f_J6_bitCount_0f7a4 l3)]) rfl rfl (Cs.deep (c_J6_bitCount_0f7a4 (M0 := M0)) (by decide)) ?_
        rcases o_bif h with ⟨hb7, h⟩ | ⟨hb7, h⟩
        · refine ev_goT kc_285 1 (t := 38) (e := 28) (L' := [some (.ref 215), some (.int l1), some (.int l2), some (.int l3)]) (st' := []) rfl hb7 ?_
          refine ev_go kc_285 2 (i' := 10) (L' := [some (.ref 215), some (.int l1), some (.int l2), some (.int (l3 + (-1 : Int32)))]) (st' := []) (M' := M0) rfl ?_
          obtain rfl := Option.some.inj h
          exact Ev.forget (mLe.kp (mLe.kp (mLe.kp (mLe.kp mLe.nl)))) (hk.1 (l2, (l3 + (-1 : Int32)), M0) rfl)
        · refine ev_goF kc_285 1 (t := 38) (e := 28) (L' := [some (.ref 215), some (.int l1), some (.int l2), some (.int l3)]) (st' := []) rfl hb7 ?_
          refine ev_go kc_285 6 (i' := 34) (L' := [some (.ref 215), some (.int l1), some (.int l2), some (.int l3)]) (st' := [.int (l1 &&& (l3 ^^^ (-1 : Int32))), .ref 215]) (M' := M0) rfl ?_
          obtain ⟨v8, M8, hc8, h⟩ := o_b2 h
          refine ev_cl0 (ins := .invokevirtual 385) kc_285 rfl rfl (a := 274) (as := [.ref 215, .int (l1 &&& (l3 ^^^ (-1 : Int32)))]) (rest := []) rfl rfl (Cs.deep (c_X12_couldComeOut hc8) (by decide)) ?_
          rcases o_bif h with ⟨hb9, h⟩ | ⟨hb9, h⟩
          · refine ev_goF kc_285 1 (t := 38) (e := 36) (L' := [some (.ref 215), some (.int l1), some (.int l2), some (.int l3)]) (st' := []) rfl (mB_e0f hb9) ?_
            refine ev_go kc_285 4 (i' := 10) (L' := [some (.ref 215), some (.int l1), some (.int l3), some (.int (l3 + (-1 : Int32)))]) (st' := []) (M' := M8) rfl ?_
            obtain rfl := Option.some.inj h
            exact Ev.forget (mLe.kp (mLe.kp (mLe.kp (mLe.kp mLe.nl)))) (hk.1 (l3, (l3 + (-1 : Int32)), M8) rfl)
          · refine ev_goT kc_285 1 (t := 38) (e := 36) (L' := [some (.ref 215), some (.int l1), some (.int l2), some (.int l3)]) (st' := []) rfl (mB_e0t hb9) ?_
            refine ev_go kc_285 2 (i' := 10) (L' := [some (.ref 215), some (.int l1), some (.int l2), some (.int (l3 + (-1 : Int32)))]) (st' := []) (M' := M8) rfl ?_
            obtain rfl := Option.some.inj h
            exact Ev.forget (mLe.kp (mLe.kp (mLe.kp (mLe.kp mLe.nl)))) (hk.1 (l2, (l3 + (-1 : Int32)), M8) rfl)
def f_X12_left_l10 (l1 : Int32) (l2 : Int32) (l3 : Int32) (M0 : mM) : Option (Int32 × mM) :=
  wh 100000 (fun s : Int32 × Int32 × mM => f_X12_left_10 l1 s.1 s.2.1 s.2.2) (l2, l3, M0)
theorem e_X12_left_l10 {l1 : Int32} {l2 : Int32} {l3 : Int32} {M0 : mM} {R : mZ} {out : (Int32 × mM)}  (h : f_X12_left_l10 l1 l2 l3 M0 = some out) (hk : R = emW eI out) : Ev (10) 285 10 [some (.ref 215), some (.int l1), some (.int l2), some (.int l3)] [] M0 R := by
  unfold f_X12_left_l10 at h
  exact wh_ev (P := fun s : Int32 × Int32 × mM => Ev (10) 285 10 [some (.ref 215), some (.int l1), some (.int s.1), some (.int s.2.1)] [] s.2.2 R) (Q := fun e : (Int32 × mM) => R = emW eI e) (fun s o hb h1 h2 => e_X12_left_10  hb ⟨h1, h2⟩) 100000 _ _ h hk
def f_X12_left  (M0 : mM) : Option (Int32 × mM) :=
  wr (mst M0 215 0 (0 : Int32)) (fun M10 => b1 (f_X12_upOnes M10) (fun v11 => f_X12_left_l10 v11 v11 v11 M10))
set_option maxRecDepth 8000 in
theorem c_X12_left  {M0 : mM} {out : (Int32 × mM)} (h : f_X12_left M0 = some out) : Cs (10) 285 [.ref 215] M0 (emW eI out) := by
  generalize hk : emW eI out = R
  replace hk := hk.symm
  unfold f_X12_left at h
  show Ev (10) 285 0 [some (.ref 215), none, none, none] [] M0 R
  refine ev_go kc_285 2 (i' := 2) (L' := [some (.ref 215), none, none, none]) (st' := [.int (0 : Int32), .ref 215]) (M' := M0) rfl ?_
  obtain ⟨M10, hM10, h⟩ := o_wr h
  refine ev_pf kc_285 rfl rfl rfl rfl (fun hc => absurd hc (by decide)) hM10 ?_
  refine ev_go kc_285 1 (i' := 4) (L' := [some (.ref 215), none, none, none]) (st' := [.ref 215]) (M' := M10) rfl ?_
  obtain ⟨v11, hc11, h⟩ := o_b1 h
  refine ev_cl0 (ins := .invokevirtual 394) kc_285 rfl rfl (a := 197) (as := [.ref 215]) (rest := []) rfl rfl (Cs.deep (c_X12_upOnes (M0 := M10) hc11) (by decide)) ?_
  refine ev_go kc_285 5 (i' := 10) (L' := [some (.ref 215), some (.int v11), some (.int v11), some (.int v11)]) (st' := []) (M' := M10) rfl ?_
  exact Ev.forget (mLe.kp (mLe.kp (mLe.kp (mLe.kp mLe.nl)))) (e_X12_left_l10  h hk)
/-- WakeTowerModel.isGuard()Z: 286, R -/
theorem kc_286 : mKc 286 = k_X12_isGuard := rfl
def f_X12_isGuard_40 (l2 : Int32) (l3 : Int32) (s0 : Bool) (M0 : mM) : Option (Bool ⊕ (Int32 × Int32 × Int32)) :=
  bif s0 then (gd (mIn l3 400) (some (.inr ((mB s0), (l2 ||| ((1 : Int32) <<< ((M0 223 (ix l3)) &&& (31 : Int32)))), (l3 + (1 : Int32)))))) else (some (.inr ((mB s0), (l2 ||| (0 : Int32)), (l3 + (1 : Int32)))))
set_option maxRecDepth 8000 in
theorem e_X12_isGuard_40 {l2 : Int32} {l3 : Int32} {s0 : Bool} {M0 : mM} {R : mZ} {out : (Bool ⊕ (Int32 × Int32 × Int32))}  (h : f_X12_isGuard_40 l2 l3 s0 M0 = some out) (hk : (∀ s' : Int32 × Int32 × Int32, out = .inr s' → Ev (2) 286 17 [some (.ref 215), some (.int s'.1), some (.int s'.2.1), some (.int s'.2.2)] [] M0 R) ∧ (∀ e1 : Bool, out = .inl e1 → R = emR eB M0 e1)) : Ev (2) 286 40 [some (.ref 215), none, some (.int l2), some (.int l3)] [.int (mB s0)] M0 R := by
  unfold f_X12_isGuard_40 at h
  rcases o_bif h with ⟨hb1, h⟩ | ⟨hb1, h⟩
  · refine ev_goF kc_286 4 (t := 51) (e := 44) (L' := [some (.ref 215), some (.int (mB s0)), some (.int l2), some (.int l3)]) (st' := [.int l2]) rfl (mB_e0f hb1) ?_
    refine ev_go kc_286 4 (i' := 48) (L' := [some (.ref 215), some (.int (mB s0)), some (.int l2), some (.int l3)]) (st' := [.int l3, .ref 223, .int (1 : Int32), .int l2]) (M' := M0) rfl ?_
    obtain ⟨hg2, h⟩ := o_gd h
    refine ev_ba kc_286 rfl (n := 400) (Or.inl rfl) hg2 ?_
    refine ev_go kc_286 6 (i' := 17) (L' := [some (.ref 215), some (.int (mB s0)), some (.int (l2 ||| ((1 : Int32) <<< ((M0 223 (ix l3)) &&& (31 : Int32))))), some (.int (l3 + (1 : Int32)))]) (st' := []) (M' := M0) rfl ?_
    obtain rfl := Option.some.inj h
    exact Ev.forget (mLe.kp (mLe.kp (mLe.kp (mLe.kp mLe.nl)))) (hk.1 ((mB s0), (l2 ||| ((1 : Int32) <<< ((M0 223 (ix l3)) &&& (31 : Int32)))), (l3 + (1 : Int32))) rfl)
  · refine ev_goT kc_286 4 (t := 51) (e := 44) (L' := [some (.ref 215), some (.int (mB s0)), some (.int l2), some (.int l3)]) (st' := [.int l2]) rfl (mB_e0t hb1) ?_
    refine ev_go kc_286 5 (i' := 17) (L' := [some (.ref 215), some (.int (mB s0)), some (.int (l2 ||| (0 : Int32))), some (.int (l3 + (1 : Int32)))]) (st' := []) (M' := M0) rfl ?_
    obtain rfl := Option.some.inj h
    exact Ev.forget (mLe.kp (mLe.kp (mLe.kp (mLe.kp mLe.nl)))) (hk.1 ((mB s0), (l2 ||| (0 : Int32)), (l3 + (1 : Int32))) rfl)
def f_X12_isGuard_39 (l2 : Int32) (l3 : Int32) (M0 : mM) : Option (Bool ⊕ (Int32 × Int32 × Int32)) :=
  f_X12_isGuard_40 l2 l3 false M0
set_option maxRecDepth 8000 in
theorem e_X12_isGuard_39 {l2 : Int32} {l3 : Int32} {M0 : mM} {R : mZ} {out : (Bool ⊕ (Int32 × Int32 × Int32))}  (h : f_X12_isGuard_39 l2 l3 M0 = some out) (hk : (∀ s' : Int32 × Int32 × Int32, out = .inr s' → Ev (2) 286 17 [some (.ref 215), some (.int s'.1), some (.int s'.2.1), some (.int s'.2.2)] [] M0 R) ∧ (∀ e1 : Bool, out = .inl e1 → R = emR eB M0 e1)) : Ev (2) 286 39 [some (.ref 215), none, some (.int l2), some (.int l3)] [] M0 R := by
  unfold f_X12_isGuard_39 at h
  refine ev_go kc_286 1 (i' := 40) (L' := [some (.ref 215), none, some (.int l2), some (.int l3)]) (st' := [.int (0 : Int32)]) (M' := M0) rfl ?_
  exact Ev.forget (mLe.kp (mLe.sk (mLe.kp (mLe.kp mLe.nl)))) (e_X12_isGuard_40  h hk)
def f_X12_isGuard_17 (l1 : Int32) (l2 : Int32) (l3 : Int32) (M0 : mM) : Option (Bool ⊕ (Int32 × Int32 × Int32)) :=
  bif decide ((M0 215 15) ≤ l3) then (gd (mIsB l1) (some (.inl (decide (l1 = 1))))) else (bif decide (l1 = 0) then (gd (mIsB l1) (some (.inl (decide (l1 = 1))))) else (gd (mIn l3 400) (b1 (f_X12_nobody (M0 223 (ix l3)) M0) (fun v8 => bif v8 then (f_X12_isGuard_39 l2 l3 M0) else (gd (mIn l3 400) (bif (f_X12_has l2 (M0 223 (ix l3))) then (f_X12_isGuard_39 l2 l3 M0) else (f_X12_isGuard_40 l2 l3 true M0)))))))
set_option maxRecDepth 8000 in
theorem e_X12_isGuard_17 {l1 : Int32} {l2 : Int32} {l3 : Int32} {M0 : mM} {R : mZ} {out : (Bool ⊕ (Int32 × Int32 × Int32))}  (h : f_X12_isGuard_17 l1 l2 l3 M0 = some out) (hk : (∀ s' : Int32 × Int32 × Int32, out = .inr s' → Ev (2) 286 17 [some (.ref 215), some (.int s'.1), some (.int s'.2.1), some (.int s'.2.2)] [] M0 R) ∧ (∀ e1 : Bool, out = .inl e1 → R = emR eB M0 e1)) : Ev (2) 286 17 [some (.ref 215), some (.int l1), some (.int l2), some (.int l3)] [] M0 R := by
  unfold f_X12_isGuard_17 at h
  rcases o_bif h with ⟨hb3, h⟩ | ⟨hb3, h⟩
  · refine ev_goT kc_286 4 (t := 56) (e := 21) (L' := [some (.ref 215), some (.int l1), some (.int l2), some (.int l3)]) (st' := []) rfl hb3 ?_
    refine ev_go kc_286 1 (i' := 57) (L' := [some (.ref 215), some (.int l1), some (.int l2), some (.int l3)]) (st' := [.int l1]) (M' := M0) rfl ?_
    obtain ⟨hg4, h⟩ := o_gd h
    have hq4 := mIsB_eq hg4
    refine Ev.reval hq4 ?_
    obtain rfl := Option.some.inj h
    rw [show _ from (hk.2 _ rfl)]
    exact ev_ret kc_286 rfl rfl mB_rok
  · refine ev_goF kc_286 4 (t := 56) (e := 21) (L' := [some (.ref 215), some (.int l1), some (.int l2), some (.int l3)]) (st' := []) rfl hb3 ?_
    rcases o_bif h with ⟨hb5, h⟩ | ⟨hb5, h⟩
    · refine ev_goT kc_286 2 (t := 56) (e := 23) (L' := [some (.ref 215), some (.int l1), some (.int l2), some (.int l3)]) (st' := []) rfl hb5 ?_
      refine ev_go kc_286 1 (i' := 57) (L' := [some (.ref 215), some (.int l1), some (.int l2), some (.int l3)]) (st' := [.int l1]) (M' := M0) rfl ?_
      obtain ⟨hg6, h⟩ := o_gd h
      have hq6 := mIsB_eq hg6
      refine Ev.reval hq6 ?_
      obtain rfl := Option.some.inj h
      rw [show _ from (hk.2 _ rfl)]
      exact ev_ret kc_286 rfl rfl mB_rok
    · refine ev_goF kc_286 2 (t := 56) (e := 23) (L' := [some (.ref 215), some (.int l1), some (.int l2), some (.int l3)]) (st' := []) rfl hb5 ?_
      refine ev_go kc_286 4 (i' := 27) (L' := [some (.ref 215), some (.int l1), some (.int l2), some (.int l3)]) (st' := [.int l3, .ref 223, .ref 215]) (M' := M0) rfl ?_
      obtain ⟨hg7, h⟩ := o_gd h
      refine ev_ba kc_286 rfl (n := 400) (Or.inl rfl) hg7 ?_
      obtain ⟨v8, hc8, h⟩ := o_b1 h
      refine ev_cl0 (ins := .invokevirtual 329) kc_286 rfl rfl (a := 201) (as := [.ref 215, .int (M0 223 (ix l3))]) (rest := []) rfl rfl (Cs.deep (c_X12_nobody (M0 := M0) hc8) (by decide)) ?_
      rcases o_bif h with ⟨hb9, h⟩ | ⟨hb9, h⟩
      · refine ev_goT kc_286 1 (t := 39) (e := 30) (L' := [some (.ref 215), some (.int l1), some (.int l2), some (.int l3)]) (st' := []) rfl (mB_n0t hb9) ?_
        exact Ev.forget (mLe.kp (mLe.sk (mLe.kp (mLe.kp mLe.nl)))) (e_X12_isGuard_39  h hk)
      · refine ev_goF kc_286 1 (t := 39) (e := 30) (L' := [some (.ref 215), some (.int l1), some (.int l2), some (.int l3)]) (st' := []) rfl (mB_n0f hb9) ?_
        refine ev_go kc_286 4 (i' := 34) (L' := [some (.ref 215), some (.int l1), some (.int l2), some (.int l3)]) (st' := [.int l3, .ref 223, .int l2]) (M' := M0) rfl ?_
        obtain ⟨hg10, h⟩ := o_gd h
        refine ev_ba kc_286 rfl (n := 400) (Or.inl rfl) hg10 ?_
        refine ev_cl0 (ins := .invokestatic 106) kc_286 rfl rfl (a := 183) (as := [.int l2, .int (M0 223 (ix l3))]) (rest := []) rfl rfl (Cs.deep (c_X12_has (M0 := M0)) (by decide)) ?_
        rcases o_bif h with ⟨hb12, h⟩ | ⟨hb12, h⟩
        · refine ev_goT kc_286 1 (t := 39) (e := 37) (L' := [some (.ref 215), some (.int l1), some (.int l2), some (.int l3)]) (st' := []) rfl (mB_n0t hb12) ?_
          exact Ev.forget (mLe.kp (mLe.sk (mLe.kp (mLe.kp mLe.nl)))) (e_X12_isGuard_39  h hk)
        · refine ev_goF kc_286 1 (t := 39) (e := 37) (L' := [some (.ref 215), some (.int l1), some (.int l2), some (.int l3)]) (st' := []) rfl (mB_n0f hb12) ?_
          refine ev_go kc_286 2 (i' := 40) (L' := [some (.ref 215), some (.int l1), some (.int l2), some (.int l3)]) (st' := [.int (1 : Int32)]) (M' := M0) rfl ?_
          exact Ev.forget (mLe.kp (mLe.sk (mLe.kp (mLe.kp mLe.nl)))) (e_X12_isGuard_40  h hk)
def f_X12_isGuard_l17 (l1 : Int32) (l2 : Int32) (l3 : Int32) (M0 : mM) : Option Bool :=
  wh 100000 (fun s : Int32 × Int32 × Int32 => f_X12_isGuard_17 s.1 s.2.1 s.2.2 M0) (l1, l2, l3)
theorem e_X12_isGuard_l17 {l1 : Int32} {l2 : Int32} {l3 : Int32} {M0 : mM} {R : mZ} {out : Bool}  (h : f_X12_isGuard_l17 l1 l2 l3 M0 = some out) (hk : R = emR eB M0 out) : Ev (2) 286 17 [some (.ref 215), some (.int l1), some (.int l2), some (.int l3)] [] M0 R := by
  unfold f_X12_isGuard_l17 at h
  exact wh_ev (P := fun s : Int32 × Int32 × Int32 => Ev (2) 286 17 [some (.ref 215), some (.int s.1), some (.int s.2.1), some (.int s.2.2)] [] M0 R) (Q := fun e : Bool => R = emR eB M0 e) (fun s o hb h1 h2 => e_X12_isGuard_17  hb ⟨h1, h2⟩) 100000 _ _ h hk
def f_X12_isGuard  (M0 : mM) : Option Bool :=
  bif decide (¬ (rmd (M0 215 15) (2 : Int32)) = 0) then (f_X12_isGuard_l17 (0 : Int32) (0 : Int32) (0 : Int32) M0) else (bif decide ((8 : Int32) < (M0 215 15)) then (f_X12_isGuard_l17 (0 : Int32) (0 : Int32) (0 : Int32) M0) else (f_X12_isGuard_l17 (1 : Int32) (0 : Int32) (0 : Int32) M0))
set_option maxRecDepth 8000 in
theorem c_X12_isGuard  {M0 : mM} {out : Bool} (h : f_X12_isGuard M0 = some out) : Cs (2) 286 [.ref 215] M0 (emR eB M0 out) := by
  generalize hk : emR eB M0 out = R
  replace hk := hk.symm
  unfold f_X12_isGuard at h
  show Ev (2) 286 0 [some (.ref 215), none, none, none] [] M0 R
  rcases o_bif h with ⟨hb13, h⟩ | ⟨hb13, h⟩
  · refine ev_goT kc_286 5 (t := 11) (e := 5) (L' := [some (.ref 215), none, none, none]) (st' := []) rfl hb13 ?_
    refine ev_go kc_286 6 (i' := 17) (L' := [some (.ref 215), some (.int (0 : Int32)), some (.int (0 : Int32)), some (.int (0 : Int32))]) (st' := []) (M' := M0) rfl ?_
    exact Ev.forget (mLe.kp (mLe.kp (mLe.kp (mLe.kp mLe.nl)))) (e_X12_isGuard_l17  h hk)
  · refine ev_goF kc_286 5 (t := 11) (e := 5) (L' := [some (.ref 215), none, none, none]) (st' := []) rfl hb13 ?_
    rcases o_bif h with ⟨hb14, h⟩ | ⟨hb14, h⟩
    · refine ev_goT kc_286 4 (t := 11) (e := 9) (L' := [some (.ref 215), none, none, none]) (st' := []) rfl hb14 ?_
      refine ev_go kc_286 6 (i' := 17) (L' := [some (.ref 215), some (.int (0 : Int32)), some (.int (0 : Int32)), some (.int (0 : Int32))]) (st' := []) (M' := M0) rfl ?_
      exact Ev.forget (mLe.kp (mLe.kp (mLe.kp (mLe.kp mLe.nl)))) (e_X12_isGuard_l17  h hk)
    · refine ev_goF kc_286 4 (t := 11) (e := 9) (L' := [some (.ref 215), none, none, none]) (st' := []) rfl hb14 ?_
      refine ev_go kc_286 7 (i' := 17) (L' := [some (.ref 215), some (.int (1 : Int32)), some (.int (0 : Int32)), some (.int (0 : Int32))]) (st' := []) (M' := M0) rfl ?_
      exact Ev.forget (mLe.kp (mLe.kp (mLe.kp (mLe.kp mLe.nl)))) (e_X12_isGuard_l17  h hk)
/-- WakeTowerModel.relieves(I)Z: 287, W -/
theorem kc_287 : mKc 287 = k_X12_relieves := rfl
def f_X12_relieves (p1 : Int32) (M0 : mM) : Option (Bool × mM) :=
  gd (mIn ((2 : Int32) * p1) 400) (gd (mIn (((2 : Int32) * p1) + (1 : Int32)) 400) (b1 (f_X12_isUp (M0 223 (ix ((2 : Int32) * p1))) M0) (fun v3 => bif v3 then (b1 (f_X12_isUp (M0 223 (ix (((2 : Int32) * p1) + (1 : Int32)))) M0) (fun v5 => bif v5 then (some (false, M0)) else (b2 (f_X12_changes (M0 223 (ix ((2 : Int32) * p1))) (M0 223 (ix (((2 : Int32) * p1) + (1 : Int32)))) M0) (fun v7 M7 => b2 (f_X12_stands M7) (fun v8 M8 => some (v8, M8)))))) else (some (false, M0)))))
set_option maxRecDepth 8000 in
theorem c_X12_relieves {p1 : Int32} {M0 : mM} {out : (Bool × mM)} (h : f_X12_relieves p1 M0 = some out) : Cs (9) 287 [.ref 215, .int p1] M0 (emW eB out) := by
  generalize hk : emW eB out = R
  replace hk := hk.symm
  unfold f_X12_relieves at h
  show Ev (9) 287 0 [some (.ref 215), some (.int p1), none, none] [] M0 R
  refine ev_go kc_287 5 (i' := 5) (L' := [some (.ref 215), some (.int p1), none, none]) (st' := [.int ((2 : Int32) * p1), .ref 223]) (M' := M0) rfl ?_
  obtain ⟨hg1, h⟩ := o_gd h
  refine ev_ba kc_287 rfl (n := 400) (Or.inl rfl) hg1 ?_
  refine ev_go kc_287 8 (i' := 14) (L' := [some (.ref 215), some (.int p1), some (.int (M0 223 (ix ((2 : Int32) * p1)))), none]) (st' := [.int (((2 : Int32) * p1) + (1 : Int32)), .ref 223]) (M' := M0) rfl ?_
  obtain ⟨hg2, h⟩ := o_gd h
  refine ev_ba kc_287 rfl (n := 400) (Or.inl rfl) hg2 ?_
  refine ev_go kc_287 3 (i' := 18) (L' := [some (.ref 215), some (.int p1), some (.int (M0 223 (ix ((2 : Int32) * p1)))), some (.int (M0 223 (ix (((2 : Int32) * p1) + (1 : Int32)))))]) (st' := [.int (M0 223 (ix ((2 : Int32) * p1))), .ref 215]) (M' := M0) rfl ?_
  obtain ⟨v3, hc3, h⟩ := o_b1 h
  refine ev_cl0 (ins := .invokevirtual 82) kc_287 rfl rfl (a := 194) (as := [.ref 215, .int (M0 223 (ix ((2 : Int32) * p1)))]) (rest := []) rfl rfl (Cs.deep (c_X12_isUp (M0 := M0) hc3) (by decide)) ?_
  rcases o_bif h with ⟨hb4, h⟩ | ⟨hb4, h⟩
  · refine ev_goF kc_287 1 (t := 24) (e := 20) (L' := [some (.ref 215), some (.int p1), some (.int (M0 223 (ix ((2 : Int32) * p1)))), some (.int (M0 223 (ix (((2 : Int32) * p1) + (1 : Int32)))))]) (st' := []) rfl (mB_e0f hb4) ?_
    refine ev_go kc_287 2 (i' := 22) (L' := [some (.ref 215), some (.int p1), some (.int (M0 223 (ix ((2 : Int32) * p1)))), some (.int (M0 223 (ix (((2 : Int32) * p1) + (1 : Int32)))))]) (st' := [.int (M0 223 (ix (((2 : Int32) * p1) + (1 : Int32)))), .ref 215]) (M' := M0) rfl ?_
    obtain ⟨v5, hc5, h⟩ := o_b1 h
    refine ev_cl0 (ins := .invokevirtual 82) kc_287 rfl rfl (a := 194) (as := [.ref 215, .int (M0 223 (ix (((2 : Int32) * p1) + (1 : Int32))))]) (rest := []) rfl rfl (Cs.deep (c_X12_isUp (M0 := M0) hc5) (by decide)) ?_
    rcases o_bif h with ⟨hb6, h⟩ | ⟨hb6, h⟩
    · refine ev_goF kc_287 1 (t := 26) (e := 24) (L' := [some (.ref 215), some (.int p1), some (.int (M0 223 (ix ((2 : Int32) * p1)))), some (.int (M0 223 (ix (((2 : Int32) * p1) + (1 : Int32)))))]) (st' := []) rfl (mB_e0f hb6) ?_
      refine ev_go kc_287 1 (i' := 25) (L' := [some (.ref 215), some (.int p1), some (.int (M0 223 (ix ((2 : Int32) * p1)))), some (.int (M0 223 (ix (((2 : Int32) * p1) + (1 : Int32)))))]) (st' := [.int (0 : Int32)]) (M' := M0) rfl ?_
      obtain rfl := Option.some.inj h
      rw [hk]
      exact ev_ret kc_287 rfl rfl rfl
    · refine ev_goT kc_287 1 (t := 26) (e := 24) (L' := [some (.ref 215), some (.int p1), some (.int (M0 223 (ix ((2 : Int32) * p1)))), some (.int (M0 223 (ix (((2 : Int32) * p1) + (1 : Int32)))))]) (st' := []) rfl (mB_e0t hb6) ?_
      refine ev_go kc_287 3 (i' := 29) (L' := [some (.ref 215), some (.int p1), some (.int (M0 223 (ix ((2 : Int32) * p1)))), some (.int (M0 223 (ix (((2 : Int32) * p1) + (1 : Int32)))))]) (st' := [.int (M0 223 (ix (((2 : Int32) * p1) + (1 : Int32)))), .int (M0 223 (ix ((2 : Int32) * p1))), .ref 215]) (M' := M0) rfl ?_
      obtain ⟨v7, M7, hc7, h⟩ := o_b2 h
      refine ev_cl0 (ins := .invokevirtual 378) kc_287 rfl rfl (a := 262) (as := [.ref 215, .int (M0 223 (ix ((2 : Int32) * p1))), .int (M0 223 (ix (((2 : Int32) * p1) + (1 : Int32))))]) (rest := []) rfl rfl (Cs.deep (c_X12_changes hc7) (by decide)) ?_
      refine ev_go kc_287 1 (i' := 31) (L' := [some (.ref 215), some (.int p1), some (.int (M0 223 (ix ((2 : Int32) * p1)))), some (.int (M0 223 (ix (((2 : Int32) * p1) + (1 : Int32)))))]) (st' := [.ref 215]) (M' := M7) rfl ?_
      obtain ⟨v8, M8, hc8, h⟩ := o_b2 h
      refine ev_cl0 (ins := .invokevirtual 140) kc_287 rfl rfl (a := 210) (as := [.ref 215]) (rest := []) rfl rfl (Cs.deep (c_X12_stands hc8) (by decide)) ?_
      obtain rfl := Option.some.inj h
      rw [hk]
      exact ev_ret kc_287 rfl rfl mB_rok
  · refine ev_goT kc_287 1 (t := 24) (e := 20) (L' := [some (.ref 215), some (.int p1), some (.int (M0 223 (ix ((2 : Int32) * p1)))), some (.int (M0 223 (ix (((2 : Int32) * p1) + (1 : Int32)))))]) (st' := []) rfl (mB_e0t hb4) ?_
    refine ev_go kc_287 1 (i' := 25) (L' := [some (.ref 215), some (.int p1), some (.int (M0 223 (ix ((2 : Int32) * p1)))), some (.int (M0 223 (ix (((2 : Int32) * p1) + (1 : Int32)))))]) (st' := [.int (0 : Int32)]) (M' := M0) rfl ?_
    obtain rfl := Option.some.inj h
    rw [hk]
    exact ev_ret kc_287 rfl rfl rfl
/-- WakeTowerModel.canBe(II)Z: 288, W -/
theorem kc_288 : mKc 288 = k_X12_canBe := rfl
def f_X12_canBe_58 (l5 : Bool) (M0 : mM) : Option (Bool × mM) :=
  b2 (f_X12_bringsBack M0) (fun v1 M1 => some (l5, M1))
set_option maxRecDepth 8000 in
theorem e_X12_canBe_58 {l5 : Bool} {M0 : mM} {R : mZ} {out : (Bool × mM)}  (h : f_X12_canBe_58 l5 M0 = some out) (hk : R = emW eB out) : Ev (10) 288 58 [some (.ref 215), none, none, none, none, some (.int (mB l5)), none] [] M0 R := by
  unfold f_X12_canBe_58 at h
  refine ev_go kc_288 1 (i' := 59) (L' := [some (.ref 215), none, none, none, none, some (.int (mB l5)), none]) (st' := [.ref 215]) (M' := M0) rfl ?_
  obtain ⟨v1, M1, hc1, h⟩ := o_b2 h
  refine ev_cl0 (ins := .invokevirtual 363) kc_288 rfl rfl (a := 189) (as := [.ref 215]) (rest := []) rfl rfl (Cs.deep (c_X12_bringsBack hc1) (by decide)) ?_
  refine ev_go kc_288 1 (i' := 61) (L' := [some (.ref 215), none, none, none, none, some (.int (mB l5)), none]) (st' := [.int (mB l5)]) (M' := M1) rfl ?_
  obtain rfl := Option.some.inj h
  rw [hk]
  exact ev_ret kc_288 rfl rfl mB_rok
def f_X12_canBe_44 (l2 : Int32) (l5 : Bool) (l6 : Int32) (M0 : mM) : Option ((Bool × mM) ⊕ (Bool × Int32 × mM)) :=
  bif decide (l2 ≤ l6) then (b1 (f_X12_canBe_58 l5 M0) (fun r3 => some (.inl r3))) else (bif l5 then (gd (mIn l6 4) (b2 (f_X12_relieves (M0 227 (ix l6)) M0) (fun v6 M6 => some (.inr (v6, (l6 + (1 : Int32)), M6))))) else (b1 (f_X12_canBe_58 l5 M0) (fun r7 => some (.inl r7))))
set_option maxRecDepth 8000 in
theorem e_X12_canBe_44 {l2 : Int32} {l5 : Bool} {l6 : Int32} {M0 : mM} {R : mZ} {out : ((Bool × mM) ⊕ (Bool × Int32 × mM))}  (h : f_X12_canBe_44 l2 l5 l6 M0 = some out) (hk : (∀ s' : Bool × Int32 × mM, out = .inr s' → Ev (10) 288 44 [some (.ref 215), none, some (.int l2), none, none, some (.int (mB s'.1)), some (.int s'.2.1)] [] (s'.2.2) R) ∧ (∀ e1 : (Bool × mM), out = .inl e1 → R = emW eB e1)) : Ev (10) 288 44 [some (.ref 215), none, some (.int l2), none, none, some (.int (mB l5)), some (.int l6)] [] M0 R := by
  unfold f_X12_canBe_44 at h
  rcases o_bif h with ⟨hb2, h⟩ | ⟨hb2, h⟩
  · refine ev_goT kc_288 3 (t := 58) (e := 47) (L' := [some (.ref 215), none, some (.int l2), none, none, some (.int (mB l5)), some (.int l6)]) (st' := []) rfl hb2 ?_
    obtain ⟨r3, hr3, h⟩ := o_b1 h
    obtain rfl := Option.some.inj h
    exact Ev.forget (mLe.kp (mLe.sk (mLe.sk (mLe.sk (mLe.sk (mLe.kp (mLe.sk mLe.nl))))))) (e_X12_canBe_58  hr3 (hk.2 _ rfl))
  · refine ev_goF kc_288 3 (t := 58) (e := 47) (L' := [some (.ref 215), none, some (.int l2), none, none, some (.int (mB l5)), some (.int l6)]) (st' := []) rfl hb2 ?_
    rcases o_bif h with ⟨hb4, h⟩ | ⟨hb4, h⟩
    · refine ev_goF kc_288 2 (t := 58) (e := 49) (L' := [some (.ref 215), none, some (.int l2), none, none, some (.int (mB l5)), some (.int l6)]) (st' := []) rfl (mB_e0f hb4) ?_
      refine ev_go kc_288 4 (i' := 53) (L' := [some (.ref 215), none, some (.int l2), none, none, some (.int (mB l5)), some (.int l6)]) (st' := [.int l6, .ref 227, .ref 215]) (M' := M0) rfl ?_
      obtain ⟨hg5, h⟩ := o_gd h
      refine ev_ia kc_288 rfl rfl hg5 ?_
      obtain ⟨v6, M6, hc6, h⟩ := o_b2 h
      refine ev_cl0 (ins := .invokevirtual 400) kc_288 rfl rfl (a := 287) (as := [.ref 215, .int (M0 227 (ix l6))]) (rest := []) rfl rfl (Cs.deep (c_X12_relieves hc6) (by decide)) ?_
      refine ev_go kc_288 3 (i' := 44) (L' := [some (.ref 215), none, some (.int l2), none, none, some (.int (mB v6)), some (.int (l6 + (1 : Int32)))]) (st' := []) (M' := M6) rfl ?_
      obtain rfl := Option.some.inj h
      exact Ev.forget (mLe.kp (mLe.sk (mLe.kp (mLe.sk (mLe.sk (mLe.kp (mLe.kp mLe.nl))))))) (hk.1 (v6, (l6 + (1 : Int32)), M6) rfl)
    · refine ev_goT kc_288 2 (t := 58) (e := 49) (L' := [some (.ref 215), none, some (.int l2), none, none, some (.int (mB l5)), some (.int l6)]) (st' := []) rfl (mB_e0t hb4) ?_
      obtain ⟨r7, hr7, h⟩ := o_b1 h
      obtain rfl := Option.some.inj h
      exact Ev.forget (mLe.kp (mLe.sk (mLe.sk (mLe.sk (mLe.sk (mLe.kp (mLe.sk mLe.nl))))))) (e_X12_canBe_58  hr7 (hk.2 _ rfl))
def f_X12_canBe_l44 (l2 : Int32) (l5 : Bool) (l6 : Int32) (M0 : mM) : Option (Bool × mM) :=
  wh 100000 (fun s : Bool × Int32 × mM => f_X12_canBe_44 l2 s.1 s.2.1 s.2.2) (l5, l6, M0)
theorem e_X12_canBe_l44 {l2 : Int32} {l5 : Bool} {l6 : Int32} {M0 : mM} {R : mZ} {out : (Bool × mM)}  (h : f_X12_canBe_l44 l2 l5 l6 M0 = some out) (hk : R = emW eB out) : Ev (10) 288 44 [some (.ref 215), none, some (.int l2), none, none, some (.int (mB l5)), some (.int l6)] [] M0 R := by
  unfold f_X12_canBe_l44 at h
  exact wh_ev (P := fun s : Bool × Int32 × mM => Ev (10) 288 44 [some (.ref 215), none, some (.int l2), none, none, some (.int (mB s.1)), some (.int s.2.1)] [] s.2.2 R) (Q := fun e : (Bool × mM) => R = emW eB e) (fun s o hb h1 h2 => e_X12_canBe_44  hb ⟨h1, h2⟩) 100000 _ _ h hk
def f_X12_canBe_8 (l2 : Int32) (l3 : Int32) (l4 : Int32) (l5 : Int32) (M0 : mM) : Option ((Bool × mM) ⊕ (Int32 × Int32 × Int32 × mM)) :=
  bif decide (l5 < 0) then (bif decide (l2 ≤ (f_J6_bitCount_0f7a4 l3)) then (b2 (f_X12_keepsAll M0) (fun v11 M11 => b1 (f_X12_canBe_l44 l2 true (0 : Int32) M11) (fun r12 => some (.inl r12)))) else (some (.inl (false, M0)))) else (gd (decide (¬ l2 = 0)) (gd (mIn l5 4) (wr (mst M0 227 (ix l5) (rmd l4 l2)) (fun M14 => gd (decide (¬ l2 = 0)) (gd (mIn l5 4) (some (.inr ((l3 ||| ((1 : Int32) <<< ((M14 227 (ix l5)) &&& (31 : Int32)))), (l4 / l2), (l5 + (-1 : Int32)), M14))))))))
set_option maxRecDepth 8000 in
theorem e_X12_canBe_8 {l2 : Int32} {l3 : Int32} {l4 : Int32} {l5 : Int32} {M0 : mM} {R : mZ} {out : ((Bool × mM) ⊕ (Int32 × Int32 × Int32 × mM))}  (h : f_X12_canBe_8 l2 l3 l4 l5 M0 = some out) (hk : (∀ s' : Int32 × Int32 × Int32 × mM, out = .inr s' → Ev (10) 288 8 [some (.ref 215), none, some (.int l2), some (.int s'.1), some (.int s'.2.1), some (.int s'.2.2.1), none] [] (s'.2.2.2) R) ∧ (∀ e1 : (Bool × mM), out = .inl e1 → R = emW eB e1)) : Ev (10) 288 8 [some (.ref 215), none, some (.int l2), some (.int l3), some (.int l4), some (.int l5), none] [] M0 R := by
  unfold f_X12_canBe_8 at h
  rcases o_bif h with ⟨hb8, h⟩ | ⟨hb8, h⟩
  · refine ev_goT kc_288 2 (t := 32) (e := 10) (L' := [some (.ref 215), none, some (.int l2), some (.int l3), some (.int l4), some (.int l5), none]) (st' := []) rfl hb8 ?_
    refine ev_go kc_288 1 (i' := 33) (L' := [some (.ref 215), none, some (.int l2), some (.int l3), some (.int l4), some (.int l5), none]) (st' := [.int l3]) (M' := M0) rfl ?_
    refine ev_cl0 (ins := .invokestatic 100) kc_288 rfl rfl (a := 10) (as := [.int l3]) (rest := []) rfl rfl (Cs.deep (c_J6_bitCount_0f7a4 (M0 := M0)) (by decide)) ?_
    rcases o_bif h with ⟨hb10, h⟩ | ⟨hb10, h⟩
    · refine ev_goT kc_288 2 (t := 38) (e := 36) (L' := [some (.ref 215), none, some (.int l2), some (.int l3), some (.int l4), some (.int l5), none]) (st' := []) rfl hb10 ?_
      refine ev_go kc_288 3 (i' := 41) (L' := [some (.ref 215), none, some (.int l2), some (.int l3), some (.int l4), some (.int (1 : Int32)), none]) (st' := [.ref 215]) (M' := M0) rfl ?_
      obtain ⟨v11, M11, hc11, h⟩ := o_b2 h
      refine ev_cl0 (ins := .invokevirtual 353) kc_288 rfl rfl (a := 188) (as := [.ref 215]) (rest := []) rfl rfl (Cs.deep (c_X12_keepsAll hc11) (by decide)) ?_
      refine ev_go kc_288 2 (i' := 44) (L' := [some (.ref 215), none, some (.int l2), some (.int l3), some (.int l4), some (.int (1 : Int32)), some (.int (0 : Int32))]) (st' := []) (M' := M11) rfl ?_
      obtain ⟨r12, hr12, h⟩ := o_b1 h
      obtain rfl := Option.some.inj h
      exact Ev.forget (mLe.kp (mLe.sk (mLe.kp (mLe.sk (mLe.sk (mLe.kp (mLe.kp mLe.nl))))))) (e_X12_canBe_l44  hr12 (hk.2 _ rfl))
    · refine ev_goF kc_288 2 (t := 38) (e := 36) (L' := [some (.ref 215), none, some (.int l2), some (.int l3), some (.int l4), some (.int l5), none]) (st' := []) rfl hb10 ?_
      refine ev_go kc_288 1 (i' := 37) (L' := [some (.ref 215), none, some (.int l2), some (.int l3), some (.int l4), some (.int l5), none]) (st' := [.int (0 : Int32)]) (M' := M0) rfl ?_
      obtain rfl := Option.some.inj h
      rw [show _ from (hk.2 _ rfl)]
      exact ev_ret kc_288 rfl rfl rfl
  · refine ev_goF kc_288 2 (t := 32) (e := 10) (L' := [some (.ref 215), none, some (.int l2), some (.int l3), some (.int l4), some (.int l5), none]) (st' := []) rfl hb8 ?_
    refine ev_go kc_288 5 (i' := 15) (L' := [some (.ref 215), none, some (.int l2), some (.int l3), some (.int l4), some (.int l5), none]) (st' := [.int l2, .int l4, .int l5, .ref 227]) (M' := M0) rfl ?_
    obtain ⟨hg13, h⟩ := o_gd h
    refine ev_rm kc_288 rfl hg13 ?_
    obtain ⟨hg15, h⟩ := o_gd h
    obtain ⟨M14, hM14, h⟩ := o_wr h
    refine ev_is kc_288 rfl rfl hg15 hM14 ?_
    refine ev_go kc_288 2 (i' := 19) (L' := [some (.ref 215), none, some (.int l2), some (.int l3), some (.int l4), some (.int l5), none]) (st' := [.int l2, .int l4]) (M' := M14) rfl ?_
    obtain ⟨hg16, h⟩ := o_gd h
    refine ev_dv kc_288 rfl hg16 ?_
    refine ev_go kc_288 6 (i' := 26) (L' := [some (.ref 215), none, some (.int l2), some (.int l3), some (.int (l4 / l2)), some (.int l5), none]) (st' := [.int l5, .ref 227, .int (1 : Int32), .int l3]) (M' := M14) rfl ?_
    obtain ⟨hg17, h⟩ := o_gd h
    refine ev_ia kc_288 rfl rfl hg17 ?_
    refine ev_go kc_288 5 (i' := 8) (L' := [some (.ref 215), none, some (.int l2), some (.int (l3 ||| ((1 : Int32) <<< ((M14 227 (ix l5)) &&& (31 : Int32))))), some (.int (l4 / l2)), some (.int (l5 + (-1 : Int32))), none]) (st' := []) (M' := M14) rfl ?_
    obtain rfl := Option.some.inj h
    exact Ev.forget (mLe.kp (mLe.sk (mLe.kp (mLe.kp (mLe.kp (mLe.kp (mLe.sk mLe.nl))))))) (hk.1 ((l3 ||| ((1 : Int32) <<< ((M14 227 (ix l5)) &&& (31 : Int32)))), (l4 / l2), (l5 + (-1 : Int32)), M14) rfl)
def f_X12_canBe_l8 (l2 : Int32) (l3 : Int32) (l4 : Int32) (l5 : Int32) (M0 : mM) : Option (Bool × mM) :=
  wh 100000 (fun s : Int32 × Int32 × Int32 × mM => f_X12_canBe_8 l2 s.1 s.2.1 s.2.2.1 s.2.2.2) (l3, l4, l5, M0)
theorem e_X12_canBe_l8 {l2 : Int32} {l3 : Int32} {l4 : Int32} {l5 : Int32} {M0 : mM} {R : mZ} {out : (Bool × mM)}  (h : f_X12_canBe_l8 l2 l3 l4 l5 M0 = some out) (hk : R = emW eB out) : Ev (10) 288 8 [some (.ref 215), none, some (.int l2), some (.int l3), some (.int l4), some (.int l5), none] [] M0 R := by
  unfold f_X12_canBe_l8 at h
  exact wh_ev (P := fun s : Int32 × Int32 × Int32 × mM => Ev (10) 288 8 [some (.ref 215), none, some (.int l2), some (.int s.1), some (.int s.2.1), some (.int s.2.2.1), none] [] s.2.2.2 R) (Q := fun e : (Bool × mM) => R = emW eB e) (fun s o hb h1 h2 => e_X12_canBe_8  hb ⟨h1, h2⟩) 100000 _ _ h hk
def f_X12_canBe (p1 : Int32) (p2 : Int32) (M0 : mM) : Option (Bool × mM) :=
  f_X12_canBe_l8 p2 (0 : Int32) p1 (p2 - (1 : Int32)) M0
set_option maxRecDepth 8000 in
theorem c_X12_canBe {p1 : Int32} {p2 : Int32} {M0 : mM} {out : (Bool × mM)} (h : f_X12_canBe p1 p2 M0 = some out) : Cs (10) 288 [.ref 215, .int p1, .int p2] M0 (emW eB out) := by
  generalize hk : emW eB out = R
  replace hk := hk.symm
  unfold f_X12_canBe at h
  show Ev (10) 288 0 [some (.ref 215), some (.int p1), some (.int p2), none, none, none, none] [] M0 R
  refine ev_go kc_288 8 (i' := 8) (L' := [some (.ref 215), some (.int p1), some (.int p2), some (.int (0 : Int32)), some (.int p1), some (.int (p2 - (1 : Int32))), none]) (st' := []) (M' := M0) rfl ?_
  exact Ev.forget (mLe.kp (mLe.sk (mLe.kp (mLe.kp (mLe.kp (mLe.kp (mLe.sk mLe.nl))))))) (e_X12_canBe_l8  h hk)
/-- WakeTowerModel.guard(I)I: 289, W -/
theorem kc_289 : mKc 289 = k_X12_guard := rfl
def f_X12_guard_43 (l1 : Int32) (l2 : Int32) (l3 : Int32) (l4 : Int32) (M0 : mM) : Option ((Int32 × mM) ⊕ (Int32 × mM)) :=
  bif decide (l3 ≤ l4) then (some (.inl ((-1 : Int32), M0))) else (b2 (f_X12_canBe l4 l2 M0) (fun v2 M2 => bif v2 then (gd (mIn l1 4) (some (.inl ((M2 227 (ix l1)), M2)))) else (some (.inr ((l4 + (1 : Int32)), M2)))))
set_option maxRecDepth 8000 in
theorem e_X12_guard_43 {l1 : Int32} {l2 : Int32} {l3 : Int32} {l4 : Int32} {M0 : mM} {R : mZ} {out : ((Int32 × mM) ⊕ (Int32 × mM))}  (h : f_X12_guard_43 l1 l2 l3 l4 M0 = some out) (hk : (∀ s' : Int32 × mM, out = .inr s' → Ev (11) 289 43 [some (.ref 215), some (.int l1), some (.int l2), some (.int l3), some (.int s'.1)] [] (s'.2) R) ∧ (∀ e1 : (Int32 × mM), out = .inl e1 → R = emW eI e1)) : Ev (11) 289 43 [some (.ref 215), some (.int l1), some (.int l2), some (.int l3), some (.int l4)] [] M0 R := by
  unfold f_X12_guard_43 at h
  rcases o_bif h with ⟨hb1, h⟩ | ⟨hb1, h⟩
  · refine ev_goT kc_289 3 (t := 58) (e := 46) (L' := [some (.ref 215), some (.int l1), some (.int l2), some (.int l3), some (.int l4)]) (st' := []) rfl hb1 ?_
    refine ev_go kc_289 1 (i' := 59) (L' := [some (.ref 215), some (.int l1), some (.int l2), some (.int l3), some (.int l4)]) (st' := [.int (-1 : Int32)]) (M' := M0) rfl ?_
    obtain rfl := Option.some.inj h
    rw [show _ from (hk.2 _ rfl)]
    exact ev_ret kc_289 rfl rfl rfl
  · refine ev_goF kc_289 3 (t := 58) (e := 46) (L' := [some (.ref 215), some (.int l1), some (.int l2), some (.int l3), some (.int l4)]) (st' := []) rfl hb1 ?_
    refine ev_go kc_289 3 (i' := 49) (L' := [some (.ref 215), some (.int l1), some (.int l2), some (.int l3), some (.int l4)]) (st' := [.int l2, .int l4, .ref 215]) (M' := M0) rfl ?_
    obtain ⟨v2, M2, hc2, h⟩ := o_b2 h
    refine ev_cl0 (ins := .invokevirtual 406) kc_289 rfl rfl (a := 288) (as := [.ref 215, .int l4, .int l2]) (rest := []) rfl rfl (Cs.deep (c_X12_canBe hc2) (by decide)) ?_
    rcases o_bif h with ⟨hb3, h⟩ | ⟨hb3, h⟩
    · refine ev_goF kc_289 1 (t := 56) (e := 51) (L' := [some (.ref 215), some (.int l1), some (.int l2), some (.int l3), some (.int l4)]) (st' := []) rfl (mB_e0f hb3) ?_
      refine ev_go kc_289 3 (i' := 54) (L' := [some (.ref 215), some (.int l1), some (.int l2), some (.int l3), some (.int l4)]) (st' := [.int l1, .ref 227]) (M' := M2) rfl ?_
      obtain ⟨hg4, h⟩ := o_gd h
      refine ev_ia kc_289 rfl rfl hg4 ?_
      obtain rfl := Option.some.inj h
      rw [show _ from (hk.2 _ rfl)]
      exact ev_ret kc_289 rfl rfl rfl
    · refine ev_goT kc_289 1 (t := 56) (e := 51) (L' := [some (.ref 215), some (.int l1), some (.int l2), some (.int l3), some (.int l4)]) (st' := []) rfl (mB_e0t hb3) ?_
      refine ev_go kc_289 2 (i' := 43) (L' := [some (.ref 215), some (.int l1), some (.int l2), some (.int l3), some (.int (l4 + (1 : Int32)))]) (st' := []) (M' := M2) rfl ?_
      obtain rfl := Option.some.inj h
      exact Ev.forget (mLe.kp (mLe.kp (mLe.kp (mLe.kp (mLe.kp mLe.nl))))) (hk.1 ((l4 + (1 : Int32)), M2) rfl)
def f_X12_guard_l43 (l1 : Int32) (l2 : Int32) (l3 : Int32) (l4 : Int32) (M0 : mM) : Option (Int32 × mM) :=
  wh 100000 (fun s : Int32 × mM => f_X12_guard_43 l1 l2 l3 s.1 s.2) (l4, M0)
theorem e_X12_guard_l43 {l1 : Int32} {l2 : Int32} {l3 : Int32} {l4 : Int32} {M0 : mM} {R : mZ} {out : (Int32 × mM)}  (h : f_X12_guard_l43 l1 l2 l3 l4 M0 = some out) (hk : R = emW eI out) : Ev (11) 289 43 [some (.ref 215), some (.int l1), some (.int l2), some (.int l3), some (.int l4)] [] M0 R := by
  unfold f_X12_guard_l43 at h
  exact wh_ev (P := fun s : Int32 × mM => Ev (11) 289 43 [some (.ref 215), some (.int l1), some (.int l2), some (.int l3), some (.int s.1)] [] s.2 R) (Q := fun e : (Int32 × mM) => R = emW eI e) (fun s o hb h1 h2 => e_X12_guard_43  hb ⟨h1, h2⟩) 100000 _ _ h hk
def f_X12_guard_23 (l1 : Int32) (l2 : Int32) (l3 : Int32) (l4 : Int32) (M0 : mM) : Option ((Int32 × mM) ⊕ (Int32 × Int32)) :=
  bif decide (l2 ≤ l4) then (bif (f_X12_in l1 (0 : Int32) (l2 - (1 : Int32))) then (b1 (f_X12_guard_l43 l1 l2 l3 (0 : Int32) M0) (fun r8 => some (.inl r8))) else (some (.inl ((-1 : Int32), M0)))) else (some (.inr ((l3 * l2), (l4 + (1 : Int32)))))
set_option maxRecDepth 8000 in
theorem e_X12_guard_23 {l1 : Int32} {l2 : Int32} {l3 : Int32} {l4 : Int32} {M0 : mM} {R : mZ} {out : ((Int32 × mM) ⊕ (Int32 × Int32))}  (h : f_X12_guard_23 l1 l2 l3 l4 M0 = some out) (hk : (∀ s' : Int32 × Int32, out = .inr s' → Ev (11) 289 23 [some (.ref 215), some (.int l1), some (.int l2), some (.int s'.1), some (.int s'.2)] [] M0 R) ∧ (∀ e1 : (Int32 × mM), out = .inl e1 → R = emW eI e1)) : Ev (11) 289 23 [some (.ref 215), some (.int l1), some (.int l2), some (.int l3), some (.int l4)] [] M0 R := by
  unfold f_X12_guard_23 at h
  rcases o_bif h with ⟨hb5, h⟩ | ⟨hb5, h⟩
  · refine ev_goT kc_289 3 (t := 32) (e := 26) (L' := [some (.ref 215), some (.int l1), some (.int l2), some (.int l3), some (.int l4)]) (st' := []) rfl hb5 ?_
    refine ev_go kc_289 5 (i' := 37) (L' := [some (.ref 215), some (.int l1), some (.int l2), some (.int l3), some (.int l4)]) (st' := [.int (l2 - (1 : Int32)), .int (0 : Int32), .int l1]) (M' := M0) rfl ?_
    refine ev_cl0 (ins := .invokestatic 92) kc_289 rfl rfl (a := 182) (as := [.int l1, .int (0 : Int32), .int (l2 - (1 : Int32))]) (rest := []) rfl rfl (Cs.deep (c_X12_in (M0 := M0)) (by decide)) ?_
    rcases o_bif h with ⟨hb7, h⟩ | ⟨hb7, h⟩
    · refine ev_goT kc_289 1 (t := 41) (e := 39) (L' := [some (.ref 215), some (.int l1), some (.int l2), some (.int l3), some (.int l4)]) (st' := []) rfl (mB_n0t hb7) ?_
      refine ev_go kc_289 2 (i' := 43) (L' := [some (.ref 215), some (.int l1), some (.int l2), some (.int l3), some (.int (0 : Int32))]) (st' := []) (M' := M0) rfl ?_
      obtain ⟨r8, hr8, h⟩ := o_b1 h
      obtain rfl := Option.some.inj h
      exact Ev.forget (mLe.kp (mLe.kp (mLe.kp (mLe.kp (mLe.kp mLe.nl))))) (e_X12_guard_l43  hr8 (hk.2 _ rfl))
    · refine ev_goF kc_289 1 (t := 41) (e := 39) (L' := [some (.ref 215), some (.int l1), some (.int l2), some (.int l3), some (.int l4)]) (st' := []) rfl (mB_n0f hb7) ?_
      refine ev_go kc_289 1 (i' := 40) (L' := [some (.ref 215), some (.int l1), some (.int l2), some (.int l3), some (.int l4)]) (st' := [.int (-1 : Int32)]) (M' := M0) rfl ?_
      obtain rfl := Option.some.inj h
      rw [show _ from (hk.2 _ rfl)]
      exact ev_ret kc_289 rfl rfl rfl
  · refine ev_goF kc_289 3 (t := 32) (e := 26) (L' := [some (.ref 215), some (.int l1), some (.int l2), some (.int l3), some (.int l4)]) (st' := []) rfl hb5 ?_
    refine ev_go kc_289 6 (i' := 23) (L' := [some (.ref 215), some (.int l1), some (.int l2), some (.int (l3 * l2)), some (.int (l4 + (1 : Int32)))]) (st' := []) (M' := M0) rfl ?_
    obtain rfl := Option.some.inj h
    exact Ev.forget (mLe.kp (mLe.kp (mLe.kp (mLe.kp (mLe.kp mLe.nl))))) (hk.1 ((l3 * l2), (l4 + (1 : Int32))) rfl)
def f_X12_guard_l23 (l1 : Int32) (l2 : Int32) (l3 : Int32) (l4 : Int32) (M0 : mM) : Option (Int32 × mM) :=
  wh 100000 (fun s : Int32 × Int32 => f_X12_guard_23 l1 l2 s.1 s.2 M0) (l3, l4)
theorem e_X12_guard_l23 {l1 : Int32} {l2 : Int32} {l3 : Int32} {l4 : Int32} {M0 : mM} {R : mZ} {out : (Int32 × mM)}  (h : f_X12_guard_l23 l1 l2 l3 l4 M0 = some out) (hk : R = emW eI out) : Ev (11) 289 23 [some (.ref 215), some (.int l1), some (.int l2), some (.int l3), some (.int l4)] [] M0 R := by
  unfold f_X12_guard_l23 at h
  exact wh_ev (P := fun s : Int32 × Int32 => Ev (11) 289 23 [some (.ref 215), some (.int l1), some (.int l2), some (.int s.1), some (.int s.2)] [] M0 R) (Q := fun e : (Int32 × mM) => R = emW eI e) (fun s o hb h1 h2 => e_X12_guard_23  hb ⟨h1, h2⟩) 100000 _ _ h hk
def f_X12_guard_9 (l1 : Int32) (s1 : Bool) (M0 : mM) : Option (Int32 × mM) :=
  b2 (f_X12_throwsIf s1 (1 : Int32) M0) (fun v9 M9 => bif v9 then (some ((0 : Int32), M9)) else (f_X12_guard_l23 l1 ((M9 215 15) / (2 : Int32)) (1 : Int32) (0 : Int32) M9))
set_option maxRecDepth 8000 in
theorem e_X12_guard_9 {l1 : Int32} {s1 : Bool} {M0 : mM} {R : mZ} {out : (Int32 × mM)}  (h : f_X12_guard_9 l1 s1 M0 = some out) (hk : R = emW eI out) : Ev (11) 289 9 [some (.ref 215), some (.int l1), none, none, none] [.int (mB s1), .ref 215] M0 R := by
  unfold f_X12_guard_9 at h
  refine ev_go kc_289 1 (i' := 10) (L' := [some (.ref 215), some (.int l1), none, none, none]) (st' := [.int (1 : Int32), .int (mB s1), .ref 215]) (M' := M0) rfl ?_
  obtain ⟨v9, M9, hc9, h⟩ := o_b2 h
  refine ev_cl0 (ins := .invokevirtual 304) kc_289 rfl rfl (a := 181) (as := [.ref 215, .int (mB s1), .int (1 : Int32)]) (rest := []) rfl rfl (Cs.deep (c_X12_throwsIf hc9) (by decide)) ?_
  rcases o_bif h with ⟨hb10, h⟩ | ⟨hb10, h⟩
  · refine ev_goF kc_289 1 (t := 14) (e := 12) (L' := [some (.ref 215), some (.int l1), none, none, none]) (st' := []) rfl (mB_e0f hb10) ?_
    refine ev_go kc_289 1 (i' := 13) (L' := [some (.ref 215), some (.int l1), none, none, none]) (st' := [.int (0 : Int32)]) (M' := M9) rfl ?_
    obtain rfl := Option.some.inj h
    rw [hk]
    exact ev_ret kc_289 rfl rfl rfl
  · refine ev_goT kc_289 1 (t := 14) (e := 12) (L' := [some (.ref 215), some (.int l1), none, none, none]) (st' := []) rfl (mB_e0t hb10) ?_
    refine ev_go kc_289 9 (i' := 23) (L' := [some (.ref 215), some (.int l1), some (.int ((M9 215 15) / (2 : Int32))), some (.int (1 : Int32)), some (.int (0 : Int32))]) (st' := []) (M' := M9) rfl ?_
    exact Ev.forget (mLe.kp (mLe.kp (mLe.kp (mLe.kp (mLe.kp mLe.nl))))) (e_X12_guard_l23  h hk)
def f_X12_guard (p1 : Int32) (M0 : mM) : Option (Int32 × mM) :=
  b2 (f_X12_uses M0) (fun v11 M11 => b1 (f_X12_isGuard M11) (fun v12 => bif v12 then (f_X12_guard_9 p1 false M11) else (f_X12_guard_9 p1 true M11)))
set_option maxRecDepth 8000 in
theorem c_X12_guard {p1 : Int32} {M0 : mM} {out : (Int32 × mM)} (h : f_X12_guard p1 M0 = some out) : Cs (11) 289 [.ref 215, .int p1] M0 (emW eI out) := by
  generalize hk : emW eI out = R
  replace hk := hk.symm
  unfold f_X12_guard at h
  show Ev (11) 289 0 [some (.ref 215), some (.int p1), none, none, none] [] M0 R
  refine ev_go kc_289 1 (i' := 1) (L' := [some (.ref 215), some (.int p1), none, none, none]) (st' := [.ref 215]) (M' := M0) rfl ?_
  obtain ⟨v11, M11, hc11, h⟩ := o_b2 h
  refine ev_cl0 (ins := .invokevirtual 293) kc_289 rfl rfl (a := 226) (as := [.ref 215]) (rest := []) rfl rfl (Cs.deep (c_X12_uses hc11) (by decide)) ?_
  refine ev_go kc_289 2 (i' := 4) (L' := [some (.ref 215), some (.int p1), none, none, none]) (st' := [.ref 215, .ref 215]) (M' := M11) rfl ?_
  obtain ⟨v12, hc12, h⟩ := o_b1 h
  refine ev_cl0 (ins := .invokevirtual 403) kc_289 rfl rfl (a := 286) (as := [.ref 215]) (rest := [.ref 215]) rfl rfl (Cs.deep (c_X12_isGuard (M0 := M11) hc12) (by decide)) ?_
  rcases o_bif h with ⟨hb13, h⟩ | ⟨hb13, h⟩
  · refine ev_goT kc_289 1 (t := 8) (e := 6) (L' := [some (.ref 215), some (.int p1), none, none, none]) (st' := [.ref 215]) rfl (mB_n0t hb13) ?_
    refine ev_go kc_289 1 (i' := 9) (L' := [some (.ref 215), some (.int p1), none, none, none]) (st' := [.int (0 : Int32), .ref 215]) (M' := M11) rfl ?_
    exact Ev.forget (mLe.kp (mLe.kp (mLe.sk (mLe.sk (mLe.sk mLe.nl))))) (e_X12_guard_9  h hk)
  · refine ev_goF kc_289 1 (t := 8) (e := 6) (L' := [some (.ref 215), some (.int p1), none, none, none]) (st' := [.ref 215]) rfl (mB_n0f hb13) ?_
    refine ev_go kc_289 2 (i' := 9) (L' := [some (.ref 215), some (.int p1), none, none, none]) (st' := [.int (1 : Int32), .ref 215]) (M' := M11) rfl ?_
    exact Ev.forget (mLe.kp (mLe.kp (mLe.sk (mLe.sk (mLe.sk mLe.nl))))) (e_X12_guard_9  h hk)
/-- WakeTowerModel.solo()I: 290, W -/
theorem kc_290 : mKc 290 = k_X12_solo := rfl
def f_X12_solo_36 (l2 : Int32) (s0 : Int32) (s1 : Int32) (M0 : mM) : Option ((Int32 × mM) ⊕ (Int32 × Int32 × mM)) :=
  b2 (f_X12_bringsBack M0) (fun v1 M1 => some (.inr ((s0 ||| s1), (l2 + (1 : Int32)), M1)))
set_option maxRecDepth 8000 in
theorem e_X12_solo_36 {l2 : Int32} {s0 : Int32} {s1 : Int32} {M0 : mM} {R : mZ} {out : ((Int32 × mM) ⊕ (Int32 × Int32 × mM))}  (h : f_X12_solo_36 l2 s0 s1 M0 = some out) (hk : (∀ s' : Int32 × Int32 × mM, out = .inr s' → Ev (10) 290 18 [some (.ref 215), some (.int s'.1), some (.int s'.2.1)] [] (s'.2.2) R) ∧ (∀ e1 : (Int32 × mM), out = .inl e1 → R = emW eI e1)) : Ev (10) 290 36 [some (.ref 215), none, some (.int l2)] [.int s1, .int s0] M0 R := by
  unfold f_X12_solo_36 at h
  refine ev_go kc_290 3 (i' := 39) (L' := [some (.ref 215), some (.int (s0 ||| s1)), some (.int l2)]) (st' := [.ref 215]) (M' := M0) rfl ?_
  obtain ⟨v1, M1, hc1, h⟩ := o_b2 h
  refine ev_cl0 (ins := .invokevirtual 363) kc_290 rfl rfl (a := 189) (as := [.ref 215]) (rest := []) rfl rfl (Cs.deep (c_X12_bringsBack hc1) (by decide)) ?_
  refine ev_go kc_290 2 (i' := 18) (L' := [some (.ref 215), some (.int (s0 ||| s1)), some (.int (l2 + (1 : Int32)))]) (st' := []) (M' := M1) rfl ?_
  obtain rfl := Option.some.inj h
  exact Ev.forget (mLe.kp (mLe.kp (mLe.kp mLe.nl))) (hk.1 ((s0 ||| s1), (l2 + (1 : Int32)), M1) rfl)
def f_X12_solo_18 (l1 : Int32) (l2 : Int32) (M0 : mM) : Option ((Int32 × mM) ⊕ (Int32 × Int32 × mM)) :=
  bif decide (((M0 215 15) / (2 : Int32)) ≤ l2) then (some (.inl (l1, M0))) else (b2 (f_X12_keepsAll M0) (fun v3 M3 => b2 (f_X12_relieves l2 M3) (fun v4 M4 => bif v4 then (f_X12_solo_36 l2 l1 ((1 : Int32) <<< (l2 &&& (31 : Int32))) M4) else (f_X12_solo_36 l2 l1 (0 : Int32) M4))))
set_option maxRecDepth 8000 in
theorem e_X12_solo_18 {l1 : Int32} {l2 : Int32} {M0 : mM} {R : mZ} {out : ((Int32 × mM) ⊕ (Int32 × Int32 × mM))}  (h : f_X12_solo_18 l1 l2 M0 = some out) (hk : (∀ s' : Int32 × Int32 × mM, out = .inr s' → Ev (10) 290 18 [some (.ref 215), some (.int s'.1), some (.int s'.2.1)] [] (s'.2.2) R) ∧ (∀ e1 : (Int32 × mM), out = .inl e1 → R = emW eI e1)) : Ev (10) 290 18 [some (.ref 215), some (.int l1), some (.int l2)] [] M0 R := by
  unfold f_X12_solo_18 at h
  rcases o_bif h with ⟨hb2, h⟩ | ⟨hb2, h⟩
  · refine ev_goT kc_290 6 (t := 42) (e := 24) (L' := [some (.ref 215), some (.int l1), some (.int l2)]) (st' := []) rfl hb2 ?_
    refine ev_go kc_290 1 (i' := 43) (L' := [some (.ref 215), some (.int l1), some (.int l2)]) (st' := [.int l1]) (M' := M0) rfl ?_
    obtain rfl := Option.some.inj h
    rw [show _ from (hk.2 _ rfl)]
    exact ev_ret kc_290 rfl rfl rfl
  · refine ev_goF kc_290 6 (t := 42) (e := 24) (L' := [some (.ref 215), some (.int l1), some (.int l2)]) (st' := []) rfl hb2 ?_
    refine ev_go kc_290 1 (i' := 25) (L' := [some (.ref 215), some (.int l1), some (.int l2)]) (st' := [.ref 215]) (M' := M0) rfl ?_
    obtain ⟨v3, M3, hc3, h⟩ := o_b2 h
    refine ev_cl0 (ins := .invokevirtual 353) kc_290 rfl rfl (a := 188) (as := [.ref 215]) (rest := []) rfl rfl (Cs.deep (c_X12_keepsAll hc3) (by decide)) ?_
    refine ev_go kc_290 3 (i' := 29) (L' := [some (.ref 215), some (.int l1), some (.int l2)]) (st' := [.int l2, .ref 215, .int l1]) (M' := M3) rfl ?_
    obtain ⟨v4, M4, hc4, h⟩ := o_b2 h
    refine ev_cl0 (ins := .invokevirtual 400) kc_290 rfl rfl (a := 287) (as := [.ref 215, .int l2]) (rest := [.int l1]) rfl rfl (Cs.deep (c_X12_relieves hc4) (by decide)) ?_
    rcases o_bif h with ⟨hb5, h⟩ | ⟨hb5, h⟩
    · refine ev_goF kc_290 1 (t := 35) (e := 31) (L' := [some (.ref 215), some (.int l1), some (.int l2)]) (st' := [.int l1]) rfl (mB_e0f hb5) ?_
      refine ev_go kc_290 4 (i' := 36) (L' := [some (.ref 215), some (.int l1), some (.int l2)]) (st' := [.int ((1 : Int32) <<< (l2 &&& (31 : Int32))), .int l1]) (M' := M4) rfl ?_
      exact Ev.forget (mLe.kp (mLe.sk (mLe.kp mLe.nl))) (e_X12_solo_36  h hk)
    · refine ev_goT kc_290 1 (t := 35) (e := 31) (L' := [some (.ref 215), some (.int l1), some (.int l2)]) (st' := [.int l1]) rfl (mB_e0t hb5) ?_
      refine ev_go kc_290 1 (i' := 36) (L' := [some (.ref 215), some (.int l1), some (.int l2)]) (st' := [.int (0 : Int32), .int l1]) (M' := M4) rfl ?_
      exact Ev.forget (mLe.kp (mLe.sk (mLe.kp mLe.nl))) (e_X12_solo_36  h hk)
def f_X12_solo_l18 (l1 : Int32) (l2 : Int32) (M0 : mM) : Option (Int32 × mM) :=
  wh 100000 (fun s : Int32 × Int32 × mM => f_X12_solo_18 s.1 s.2.1 s.2.2) (l1, l2, M0)
theorem e_X12_solo_l18 {l1 : Int32} {l2 : Int32} {M0 : mM} {R : mZ} {out : (Int32 × mM)}  (h : f_X12_solo_l18 l1 l2 M0 = some out) (hk : R = emW eI out) : Ev (10) 290 18 [some (.ref 215), some (.int l1), some (.int l2)] [] M0 R := by
  unfold f_X12_solo_l18 at h
  exact wh_ev (P := fun s : Int32 × Int32 × mM => Ev (10) 290 18 [some (.ref 215), some (.int s.1), some (.int s.2.1)] [] s.2.2 R) (Q := fun e : (Int32 × mM) => R = emW eI e) (fun s o hb h1 h2 => e_X12_solo_18  hb ⟨h1, h2⟩) 100000 _ _ h hk
def f_X12_solo_9 (s1 : Bool) (M0 : mM) : Option (Int32 × mM) :=
  b2 (f_X12_throwsIf s1 (1 : Int32) M0) (fun v6 M6 => bif v6 then (some ((0 : Int32), M6)) else (f_X12_solo_l18 (0 : Int32) (0 : Int32) M6))
set_option maxRecDepth 8000 in
theorem e_X12_solo_9 {s1 : Bool} {M0 : mM} {R : mZ} {out : (Int32 × mM)}  (h : f_X12_solo_9 s1 M0 = some out) (hk : R = emW eI out) : Ev (10) 290 9 [some (.ref 215), none, none] [.int (mB s1), .ref 215] M0 R := by
  unfold f_X12_solo_9 at h
  refine ev_go kc_290 1 (i' := 10) (L' := [some (.ref 215), none, none]) (st' := [.int (1 : Int32), .int (mB s1), .ref 215]) (M' := M0) rfl ?_
  obtain ⟨v6, M6, hc6, h⟩ := o_b2 h
  refine ev_cl0 (ins := .invokevirtual 304) kc_290 rfl rfl (a := 181) (as := [.ref 215, .int (mB s1), .int (1 : Int32)]) (rest := []) rfl rfl (Cs.deep (c_X12_throwsIf hc6) (by decide)) ?_
  rcases o_bif h with ⟨hb7, h⟩ | ⟨hb7, h⟩
  · refine ev_goF kc_290 1 (t := 14) (e := 12) (L' := [some (.ref 215), none, none]) (st' := []) rfl (mB_e0f hb7) ?_
    refine ev_go kc_290 1 (i' := 13) (L' := [some (.ref 215), none, none]) (st' := [.int (0 : Int32)]) (M' := M6) rfl ?_
    obtain rfl := Option.some.inj h
    rw [hk]
    exact ev_ret kc_290 rfl rfl rfl
  · refine ev_goT kc_290 1 (t := 14) (e := 12) (L' := [some (.ref 215), none, none]) (st' := []) rfl (mB_e0t hb7) ?_
    refine ev_go kc_290 4 (i' := 18) (L' := [some (.ref 215), some (.int (0 : Int32)), some (.int (0 : Int32))]) (st' := []) (M' := M6) rfl ?_
    exact Ev.forget (mLe.kp (mLe.kp (mLe.kp mLe.nl))) (e_X12_solo_l18  h hk)
def f_X12_solo  (M0 : mM) : Option (Int32 × mM) :=
  b2 (f_X12_uses M0) (fun v8 M8 => b1 (f_X12_isGuard M8) (fun v9 => bif v9 then (f_X12_solo_9 false M8) else (f_X12_solo_9 true M8)))
set_option maxRecDepth 8000 in
theorem c_X12_solo  {M0 : mM} {out : (Int32 × mM)} (h : f_X12_solo M0 = some out) : Cs (10) 290 [.ref 215] M0 (emW eI out) := by
  generalize hk : emW eI out = R
  replace hk := hk.symm
  unfold f_X12_solo at h
  show Ev (10) 290 0 [some (.ref 215), none, none] [] M0 R
  refine ev_go kc_290 1 (i' := 1) (L' := [some (.ref 215), none, none]) (st' := [.ref 215]) (M' := M0) rfl ?_
  obtain ⟨v8, M8, hc8, h⟩ := o_b2 h
  refine ev_cl0 (ins := .invokevirtual 293) kc_290 rfl rfl (a := 226) (as := [.ref 215]) (rest := []) rfl rfl (Cs.deep (c_X12_uses hc8) (by decide)) ?_
  refine ev_go kc_290 2 (i' := 4) (L' := [some (.ref 215), none, none]) (st' := [.ref 215, .ref 215]) (M' := M8) rfl ?_
  obtain ⟨v9, hc9, h⟩ := o_b1 h
  refine ev_cl0 (ins := .invokevirtual 403) kc_290 rfl rfl (a := 286) (as := [.ref 215]) (rest := [.ref 215]) rfl rfl (Cs.deep (c_X12_isGuard (M0 := M8) hc9) (by decide)) ?_
  rcases o_bif h with ⟨hb10, h⟩ | ⟨hb10, h⟩
  · refine ev_goT kc_290 1 (t := 8) (e := 6) (L' := [some (.ref 215), none, none]) (st' := [.ref 215]) rfl (mB_n0t hb10) ?_
    refine ev_go kc_290 1 (i' := 9) (L' := [some (.ref 215), none, none]) (st' := [.int (0 : Int32), .ref 215]) (M' := M8) rfl ?_
    exact Ev.forget (mLe.kp (mLe.sk (mLe.sk mLe.nl))) (e_X12_solo_9  h hk)
  · refine ev_goF kc_290 1 (t := 8) (e := 6) (L' := [some (.ref 215), none, none]) (st' := [.ref 215]) rfl (mB_n0f hb10) ?_
    refine ev_go kc_290 2 (i' := 9) (L' := [some (.ref 215), none, none]) (st' := [.int (1 : Int32), .ref 215]) (M' := M8) rfl ?_
    exact Ev.forget (mLe.kp (mLe.sk (mLe.sk mLe.nl))) (e_X12_solo_9  h hk)
/-- WakeTowerModel.laysSleepers()V: 291, W -/
theorem kc_291 : mKc 291 = k_X12_laysSleepers := rfl
def f_X12_laysSleepers_44 (l1 : Int32) (l2 : Int32) (l3 : Int32) (s1 : Int32) (s2 : Bool) (M0 : mM) : Option (((Unit × mM) ⊕ (Int32 × mM)) ⊕ (Int32 × mM)) :=
  gd (mIn s1 2122) (wr (mst M0 216 (ix s1) (mB s2)) (fun M1 => some (.inr ((l3 + (1 : Int32)), M1))))
set_option maxRecDepth 8000 in
theorem e_X12_laysSleepers_44 {l1 : Int32} {l2 : Int32} {l3 : Int32} {s1 : Int32} {s2 : Bool} {M0 : mM} {R : mZ} {out : (((Unit × mM) ⊕ (Int32 × mM)) ⊕ (Int32 × mM))}  (h : f_X12_laysSleepers_44 l1 l2 l3 s1 s2 M0 = some out) (hk : (∀ s' : Int32 × mM, out = .inr s' → Ev (7) 291 24 [some (.ref 215), some (.int l1), some (.int l2), some (.int s'.1)] [] (s'.2) R) ∧ (∀ e2 : ((Unit × mM) ⊕ (Int32 × mM)), out = .inl e2 → (∀ s' : Int32 × mM, e2 = .inr s' → Ev (7) 291 7 [some (.ref 215), some (.int l1), some (.int s'.1), none] [] (s'.2) R) ∧ (∀ e1 : (Unit × mM), e2 = .inl e1 → R = emW eU e1))) : Ev (7) 291 44 [some (.ref 215), some (.int l1), some (.int l2), some (.int l3)] [.int (mB s2), .int s1, .ref 216] M0 R := by
  unfold f_X12_laysSleepers_44 at h
  obtain ⟨hg2, h⟩ := o_gd h
  obtain ⟨M1, hM1, h⟩ := o_wr h
  refine ev_is kc_291 rfl rfl hg2 hM1 ?_
  refine ev_go kc_291 2 (i' := 24) (L' := [some (.ref 215), some (.int l1), some (.int l2), some (.int (l3 + (1 : Int32)))]) (st' := []) (M' := M1) rfl ?_
  obtain rfl := Option.some.inj h
  exact Ev.forget (mLe.kp (mLe.kp (mLe.kp (mLe.kp mLe.nl)))) (hk.1 ((l3 + (1 : Int32)), M1) rfl)
def f_X12_laysSleepers_61 (l1 : Int32) (l2 : Int32) (l3 : Int32) (M0 : mM) : Option (((Unit × mM) ⊕ (Int32 × mM)) ⊕ (Int32 × mM)) :=
  b1 (f_X12_people M0) (fun v3 => bif decide (v3 ≤ l3) then (some (.inl (.inr ((l2 + (1 : Int32)), M0)))) else (gd (mIn l3 8) (gd (mIn (((8 : Int32) * l2) + l3) 2048) (wr (mst M0 229 (ix (((8 : Int32) * l2) + l3)) (M0 221 (ix l3))) (fun M6 => some (.inr ((l3 + (1 : Int32)), M6)))))))
set_option maxRecDepth 8000 in
theorem e_X12_laysSleepers_61 {l1 : Int32} {l2 : Int32} {l3 : Int32} {M0 : mM} {R : mZ} {out : (((Unit × mM) ⊕ (Int32 × mM)) ⊕ (Int32 × mM))}  (h : f_X12_laysSleepers_61 l1 l2 l3 M0 = some out) (hk : (∀ s' : Int32 × mM, out = .inr s' → Ev (7) 291 61 [some (.ref 215), some (.int l1), some (.int l2), some (.int s'.1)] [] (s'.2) R) ∧ (∀ e2 : ((Unit × mM) ⊕ (Int32 × mM)), out = .inl e2 → (∀ s' : Int32 × mM, e2 = .inr s' → Ev (7) 291 7 [some (.ref 215), some (.int l1), some (.int s'.1), none] [] (s'.2) R) ∧ (∀ e1 : (Unit × mM), e2 = .inl e1 → R = emW eU e1))) : Ev (7) 291 61 [some (.ref 215), some (.int l1), some (.int l2), some (.int l3)] [] M0 R := by
  unfold f_X12_laysSleepers_61 at h
  refine ev_go kc_291 2 (i' := 63) (L' := [some (.ref 215), some (.int l1), some (.int l2), some (.int l3)]) (st' := [.ref 215, .int l3]) (M' := M0) rfl ?_
  obtain ⟨v3, hc3, h⟩ := o_b1 h
  refine ev_cl0 (ins := .invokevirtual 71) kc_291 rfl rfl (a := 190) (as := [.ref 215]) (rest := [.int l3]) rfl rfl (Cs.deep (c_X12_people (M0 := M0) hc3) (by decide)) ?_
  rcases o_bif h with ⟨hb4, h⟩ | ⟨hb4, h⟩
  · refine ev_goT kc_291 1 (t := 79) (e := 65) (L' := [some (.ref 215), some (.int l1), some (.int l2), some (.int l3)]) (st' := []) rfl hb4 ?_
    refine ev_go kc_291 2 (i' := 7) (L' := [some (.ref 215), some (.int l1), some (.int (l2 + (1 : Int32))), some (.int l3)]) (st' := []) (M' := M0) rfl ?_
    obtain rfl := Option.some.inj h
    exact Ev.forget (mLe.kp (mLe.kp (mLe.kp (mLe.sk mLe.nl)))) ((hk.2 _ rfl).1 ((l2 + (1 : Int32)), M0) rfl)
  · refine ev_goF kc_291 1 (t := 79) (e := 65) (L' := [some (.ref 215), some (.int l1), some (.int l2), some (.int l3)]) (st' := []) rfl hb4 ?_
    refine ev_go kc_291 10 (i' := 75) (L' := [some (.ref 215), some (.int l1), some (.int l2), some (.int l3)]) (st' := [.int l3, .ref 221, .int (((8 : Int32) * l2) + l3), .ref 229]) (M' := M0) rfl ?_
    obtain ⟨hg5, h⟩ := o_gd h
    refine ev_ia kc_291 rfl rfl hg5 ?_
    obtain ⟨hg7, h⟩ := o_gd h
    obtain ⟨M6, hM6, h⟩ := o_wr h
    refine ev_is kc_291 rfl rfl hg7 hM6 ?_
    refine ev_go kc_291 2 (i' := 61) (L' := [some (.ref 215), some (.int l1), some (.int l2), some (.int (l3 + (1 : Int32)))]) (st' := []) (M' := M6) rfl ?_
    obtain rfl := Option.some.inj h
    exact Ev.forget (mLe.kp (mLe.kp (mLe.kp (mLe.kp mLe.nl)))) (hk.1 ((l3 + (1 : Int32)), M6) rfl)
def f_X12_laysSleepers_l61 (l1 : Int32) (l2 : Int32) (l3 : Int32) (M0 : mM) : Option ((Unit × mM) ⊕ (Int32 × mM)) :=
  wh 100000 (fun s : Int32 × mM => f_X12_laysSleepers_61 l1 l2 s.1 s.2) (l3, M0)
theorem e_X12_laysSleepers_l61 {l1 : Int32} {l2 : Int32} {l3 : Int32} {M0 : mM} {R : mZ} {out : ((Unit × mM) ⊕ (Int32 × mM))}  (h : f_X12_laysSleepers_l61 l1 l2 l3 M0 = some out) (hk : (∀ s' : Int32 × mM, out = .inr s' → Ev (7) 291 7 [some (.ref 215), some (.int l1), some (.int s'.1), none] [] (s'.2) R) ∧ (∀ e1 : (Unit × mM), out = .inl e1 → R = emW eU e1)) : Ev (7) 291 61 [some (.ref 215), some (.int l1), some (.int l2), some (.int l3)] [] M0 R := by
  unfold f_X12_laysSleepers_l61 at h
  exact wh_ev (P := fun s : Int32 × mM => Ev (7) 291 61 [some (.ref 215), some (.int l1), some (.int l2), some (.int s.1)] [] s.2 R) (Q := fun e : ((Unit × mM) ⊕ (Int32 × mM)) => (∀ s' : Int32 × mM, e = .inr s' → Ev (7) 291 7 [some (.ref 215), some (.int l1), some (.int s'.1), none] [] (s'.2) R) ∧ (∀ e1 : (Unit × mM), e = .inl e1 → R = emW eU e1)) (fun s o hb h1 h2 => e_X12_laysSleepers_61  hb ⟨h1, h2⟩) 100000 _ _ h hk
def f_X12_laysSleepers_56 (l1 : Int32) (l2 : Int32) (s1 : Int32) (s2 : Bool) (M0 : mM) : Option ((Unit × mM) ⊕ (Int32 × mM)) :=
  gd (mIn s1 256) (wr (mst M0 228 (ix s1) (vp_nar .boolean (mB s2))) (fun M8 => b2 (f_X12_lays M8) (fun v10 M10 => f_X12_laysSleepers_l61 l1 l2 (0 : Int32) M10)))
set_option maxRecDepth 8000 in
theorem e_X12_laysSleepers_56 {l1 : Int32} {l2 : Int32} {s1 : Int32} {s2 : Bool} {M0 : mM} {R : mZ} {out : ((Unit × mM) ⊕ (Int32 × mM))}  (h : f_X12_laysSleepers_56 l1 l2 s1 s2 M0 = some out) (hk : (∀ s' : Int32 × mM, out = .inr s' → Ev (7) 291 7 [some (.ref 215), some (.int l1), some (.int s'.1), none] [] (s'.2) R) ∧ (∀ e1 : (Unit × mM), out = .inl e1 → R = emW eU e1)) : Ev (7) 291 56 [some (.ref 215), some (.int l1), some (.int l2), none] [.int (mB s2), .int s1, .ref 228] M0 R := by
  unfold f_X12_laysSleepers_56 at h
  obtain ⟨hg9, h⟩ := o_gd h
  obtain ⟨M8, hM8, h⟩ := o_wr h
  refine ev_bsZ kc_291 rfl rfl hg9 hM8 ?_
  refine ev_go kc_291 1 (i' := 58) (L' := [some (.ref 215), some (.int l1), some (.int l2), none]) (st' := [.ref 215]) (M' := M8) rfl ?_
  obtain ⟨v10, M10, hc10, h⟩ := o_b2 h
  refine ev_cl0 (ins := .invokevirtual 114) kc_291 rfl rfl (a := 204) (as := [.ref 215]) (rest := []) rfl rfl (Cs.deep (c_X12_lays hc10) (by decide)) ?_
  refine ev_go kc_291 2 (i' := 61) (L' := [some (.ref 215), some (.int l1), some (.int l2), some (.int (0 : Int32))]) (st' := []) (M' := M10) rfl ?_
  exact Ev.forget (mLe.kp (mLe.kp (mLe.kp (mLe.kp mLe.nl)))) (e_X12_laysSleepers_l61  h hk)
def f_X12_laysSleepers_24 (l1 : Int32) (l2 : Int32) (l3 : Int32) (M0 : mM) : Option (((Unit × mM) ⊕ (Int32 × mM)) ⊕ (Int32 × mM)) :=
  b1 (f_X12_people M0) (fun v11 => bif decide (v11 ≤ l3) then (b1 (f_X12_hanging M0) (fun v13 => bif decide (¬ v13 = 0) then (b1 (f_X12_laysSleepers_56 l1 l2 l2 false M0) (fun r15 => some (.inl r15))) else (b1 (f_X12_laysSleepers_56 l1 l2 l2 true M0) (fun r16 => some (.inl r16))))) else (bif (f_X12_has l1 l3) then (bif (f_X12_has l2 l3) then (f_X12_laysSleepers_44 l1 l2 l3 (f_X12_at l3 (3 : Int32)) true M0) else (f_X12_laysSleepers_44 l1 l2 l3 (f_X12_at l3 (3 : Int32)) false M0)) else (some (.inr ((l3 + (1 : Int32)), M0)))))
set_option maxRecDepth 8000 in
theorem e_X12_laysSleepers_24 {l1 : Int32} {l2 : Int32} {l3 : Int32} {M0 : mM} {R : mZ} {out : (((Unit × mM) ⊕ (Int32 × mM)) ⊕ (Int32 × mM))}  (h : f_X12_laysSleepers_24 l1 l2 l3 M0 = some out) (hk : (∀ s' : Int32 × mM, out = .inr s' → Ev (7) 291 24 [some (.ref 215), some (.int l1), some (.int l2), some (.int s'.1)] [] (s'.2) R) ∧ (∀ e2 : ((Unit × mM) ⊕ (Int32 × mM)), out = .inl e2 → (∀ s' : Int32 × mM, e2 = .inr s' → Ev (7) 291 7 [some (.ref 215), some (.int l1), some (.int s'.1), none] [] (s'.2) R) ∧ (∀ e1 : (Unit × mM), e2 = .inl e1 → R = emW eU e1))) : Ev (7) 291 24 [some (.ref 215), some (.int l1), some (.int l2), some (.int l3)] [] M0 R := by
  unfold f_X12_laysSleepers_24 at h
  refine ev_go kc_291 2 (i' := 26) (L' := [some (.ref 215), some (.int l1), some (.int l2), some (.int l3)]) (st' := [.ref 215, .int l3]) (M' := M0) rfl ?_
  obtain ⟨v11, hc11, h⟩ := o_b1 h
  refine ev_cl0 (ins := .invokevirtual 71) kc_291 rfl rfl (a := 190) (as := [.ref 215]) (rest := [.int l3]) rfl rfl (Cs.deep (c_X12_people (M0 := M0) hc11) (by decide)) ?_
  rcases o_bif h with ⟨hb12, h⟩ | ⟨hb12, h⟩
  · refine ev_goT kc_291 1 (t := 47) (e := 28) (L' := [some (.ref 215), some (.int l1), some (.int l2), some (.int l3)]) (st' := []) rfl hb12 ?_
    refine ev_go kc_291 4 (i' := 51) (L' := [some (.ref 215), some (.int l1), some (.int l2), some (.int l3)]) (st' := [.ref 215, .int l2, .ref 228]) (M' := M0) rfl ?_
    obtain ⟨v13, hc13, h⟩ := o_b1 h
    refine ev_cl0 (ins := .invokevirtual 123) kc_291 rfl rfl (a := 209) (as := [.ref 215]) (rest := [.int l2, .ref 228]) rfl rfl (Cs.deep (c_X12_hanging (M0 := M0) hc13) (by decide)) ?_
    rcases o_bif h with ⟨hb14, h⟩ | ⟨hb14, h⟩
    · refine ev_goT kc_291 1 (t := 55) (e := 53) (L' := [some (.ref 215), some (.int l1), some (.int l2), some (.int l3)]) (st' := [.int l2, .ref 228]) rfl hb14 ?_
      refine ev_go kc_291 1 (i' := 56) (L' := [some (.ref 215), some (.int l1), some (.int l2), some (.int l3)]) (st' := [.int (0 : Int32), .int l2, .ref 228]) (M' := M0) rfl ?_
      obtain ⟨r15, hr15, h⟩ := o_b1 h
      obtain rfl := Option.some.inj h
      exact Ev.forget (mLe.kp (mLe.kp (mLe.kp (mLe.sk mLe.nl)))) (e_X12_laysSleepers_56  hr15 (hk.2 _ rfl))
    · refine ev_goF kc_291 1 (t := 55) (e := 53) (L' := [some (.ref 215), some (.int l1), some (.int l2), some (.int l3)]) (st' := [.int l2, .ref 228]) rfl hb14 ?_
      refine ev_go kc_291 2 (i' := 56) (L' := [some (.ref 215), some (.int l1), some (.int l2), some (.int l3)]) (st' := [.int (1 : Int32), .int l2, .ref 228]) (M' := M0) rfl ?_
      obtain ⟨r16, hr16, h⟩ := o_b1 h
      obtain rfl := Option.some.inj h
      exact Ev.forget (mLe.kp (mLe.kp (mLe.kp (mLe.sk mLe.nl)))) (e_X12_laysSleepers_56  hr16 (hk.2 _ rfl))
  · refine ev_goF kc_291 1 (t := 47) (e := 28) (L' := [some (.ref 215), some (.int l1), some (.int l2), some (.int l3)]) (st' := []) rfl hb12 ?_
    refine ev_go kc_291 2 (i' := 30) (L' := [some (.ref 215), some (.int l1), some (.int l2), some (.int l3)]) (st' := [.int l3, .int l1]) (M' := M0) rfl ?_
    refine ev_cl0 (ins := .invokestatic 106) kc_291 rfl rfl (a := 183) (as := [.int l1, .int l3]) (rest := []) rfl rfl (Cs.deep (c_X12_has (M0 := M0)) (by decide)) ?_
    rcases o_bif h with ⟨hb18, h⟩ | ⟨hb18, h⟩
    · refine ev_goF kc_291 1 (t := 45) (e := 32) (L' := [some (.ref 215), some (.int l1), some (.int l2), some (.int l3)]) (st' := []) rfl (mB_e0f hb18) ?_
      refine ev_go kc_291 4 (i' := 36) (L' := [some (.ref 215), some (.int l1), some (.int l2), some (.int l3)]) (st' := [.int (3 : Int32), .int l3, .ref 216]) (M' := M0) rfl ?_
      refine ev_cl0 (ins := .invokestatic 75) kc_291 rfl rfl (a := 192) (as := [.int l3, .int (3 : Int32)]) (rest := [.ref 216]) rfl rfl (Cs.deep (c_X12_at (M0 := M0)) (by decide)) ?_
      refine ev_go kc_291 2 (i' := 39) (L' := [some (.ref 215), some (.int l1), some (.int l2), some (.int l3)]) (st' := [.int l3, .int l2, .int (f_X12_at l3 (3 : Int32)), .ref 216]) (M' := M0) rfl ?_
      refine ev_cl0 (ins := .invokestatic 106) kc_291 rfl rfl (a := 183) (as := [.int l2, .int l3]) (rest := [.int (f_X12_at l3 (3 : Int32)), .ref 216]) rfl rfl (Cs.deep (c_X12_has (M0 := M0)) (by decide)) ?_
      rcases o_bif h with ⟨hb21, h⟩ | ⟨hb21, h⟩
      · refine ev_goF kc_291 1 (t := 43) (e := 41) (L' := [some (.ref 215), some (.int l1), some (.int l2), some (.int l3)]) (st' := [.int (f_X12_at l3 (3 : Int32)), .ref 216]) rfl (mB_e0f hb21) ?_
        refine ev_go kc_291 2 (i' := 44) (L' := [some (.ref 215), some (.int l1), some (.int l2), some (.int l3)]) (st' := [.int (1 : Int32), .int (f_X12_at l3 (3 : Int32)), .ref 216]) (M' := M0) rfl ?_
        exact Ev.forget (mLe.kp (mLe.kp (mLe.kp (mLe.kp mLe.nl)))) (e_X12_laysSleepers_44  h hk)
      · refine ev_goT kc_291 1 (t := 43) (e := 41) (L' := [some (.ref 215), some (.int l1), some (.int l2), some (.int l3)]) (st' := [.int (f_X12_at l3 (3 : Int32)), .ref 216]) rfl (mB_e0t hb21) ?_
        refine ev_go kc_291 1 (i' := 44) (L' := [some (.ref 215), some (.int l1), some (.int l2), some (.int l3)]) (st' := [.int (0 : Int32), .int (f_X12_at l3 (3 : Int32)), .ref 216]) (M' := M0) rfl ?_
        exact Ev.forget (mLe.kp (mLe.kp (mLe.kp (mLe.kp mLe.nl)))) (e_X12_laysSleepers_44  h hk)
    · refine ev_goT kc_291 1 (t := 45) (e := 32) (L' := [some (.ref 215), some (.int l1), some (.int l2), some (.int l3)]) (st' := []) rfl (mB_e0t hb18) ?_
      refine ev_go kc_291 2 (i' := 24) (L' := [some (.ref 215), some (.int l1), some (.int l2), some (.int (l3 + (1 : Int32)))]) (st' := []) (M' := M0) rfl ?_
      obtain rfl := Option.some.inj h
      exact Ev.forget (mLe.kp (mLe.kp (mLe.kp (mLe.kp mLe.nl)))) (hk.1 ((l3 + (1 : Int32)), M0) rfl)
def f_X12_laysSleepers_l24 (l1 : Int32) (l2 : Int32) (l3 : Int32) (M0 : mM) : Option ((Unit × mM) ⊕ (Int32 × mM)) :=
  wh 100000 (fun s : Int32 × mM => f_X12_laysSleepers_24 l1 l2 s.1 s.2) (l3, M0)
theorem e_X12_laysSleepers_l24 {l1 : Int32} {l2 : Int32} {l3 : Int32} {M0 : mM} {R : mZ} {out : ((Unit × mM) ⊕ (Int32 × mM))}  (h : f_X12_laysSleepers_l24 l1 l2 l3 M0 = some out) (hk : (∀ s' : Int32 × mM, out = .inr s' → Ev (7) 291 7 [some (.ref 215), some (.int l1), some (.int s'.1), none] [] (s'.2) R) ∧ (∀ e1 : (Unit × mM), out = .inl e1 → R = emW eU e1)) : Ev (7) 291 24 [some (.ref 215), some (.int l1), some (.int l2), some (.int l3)] [] M0 R := by
  unfold f_X12_laysSleepers_l24 at h
  exact wh_ev (P := fun s : Int32 × mM => Ev (7) 291 24 [some (.ref 215), some (.int l1), some (.int l2), some (.int s.1)] [] s.2 R) (Q := fun e : ((Unit × mM) ⊕ (Int32 × mM)) => (∀ s' : Int32 × mM, e = .inr s' → Ev (7) 291 7 [some (.ref 215), some (.int l1), some (.int s'.1), none] [] (s'.2) R) ∧ (∀ e1 : (Unit × mM), e = .inl e1 → R = emW eU e1)) (fun s o hb h1 h2 => e_X12_laysSleepers_24  hb ⟨h1, h2⟩) 100000 _ _ h hk
def f_X12_laysSleepers_7 (l1 : Int32) (l2 : Int32) (M0 : mM) : Option ((Unit × mM) ⊕ (Int32 × mM)) :=
  bif decide ((256 : Int32) ≤ l2) then (b2 (f_X12_bringsBack M0) (fun v23 M23 => some (.inl ((), M23)))) else (gd (mIn l2 256) (wr (mst M0 228 (ix l2) (vp_nar .boolean (0 : Int32))) (fun M24 => bif decide ((l2 &&& (l1 ^^^ (-1 : Int32))) = 0) then (f_X12_laysSleepers_l24 l1 l2 (0 : Int32) M24) else (some (.inr ((l2 + (1 : Int32)), M24))))))
set_option maxRecDepth 8000 in
theorem e_X12_laysSleepers_7 {l1 : Int32} {l2 : Int32} {M0 : mM} {R : mZ} {out : ((Unit × mM) ⊕ (Int32 × mM))}  (h : f_X12_laysSleepers_7 l1 l2 M0 = some out) (hk : (∀ s' : Int32 × mM, out = .inr s' → Ev (7) 291 7 [some (.ref 215), some (.int l1), some (.int s'.1), none] [] (s'.2) R) ∧ (∀ e1 : (Unit × mM), out = .inl e1 → R = emW eU e1)) : Ev (7) 291 7 [some (.ref 215), some (.int l1), some (.int l2), none] [] M0 R := by
  unfold f_X12_laysSleepers_7 at h
  rcases o_bif h with ⟨hb22, h⟩ | ⟨hb22, h⟩
  · refine ev_goT kc_291 3 (t := 81) (e := 10) (L' := [some (.ref 215), some (.int l1), some (.int l2), none]) (st' := []) rfl hb22 ?_
    refine ev_go kc_291 1 (i' := 82) (L' := [some (.ref 215), some (.int l1), some (.int l2), none]) (st' := [.ref 215]) (M' := M0) rfl ?_
    obtain ⟨v23, M23, hc23, h⟩ := o_b2 h
    refine ev_cl0 (ins := .invokevirtual 363) kc_291 rfl rfl (a := 189) (as := [.ref 215]) (rest := []) rfl rfl (Cs.deep (c_X12_bringsBack hc23) (by decide)) ?_
    obtain rfl := Option.some.inj h
    rw [show _ from (hk.2 _ rfl)]
    exact ev_vret kc_291 rfl rfl rfl
  · refine ev_goF kc_291 3 (t := 81) (e := 10) (L' := [some (.ref 215), some (.int l1), some (.int l2), none]) (st' := []) rfl hb22 ?_
    refine ev_go kc_291 4 (i' := 14) (L' := [some (.ref 215), some (.int l1), some (.int l2), none]) (st' := [.int (0 : Int32), .int l2, .ref 228]) (M' := M0) rfl ?_
    obtain ⟨hg25, h⟩ := o_gd h
    obtain ⟨M24, hM24, h⟩ := o_wr h
    refine ev_bsZ kc_291 rfl rfl hg25 hM24 ?_
    rcases o_bif h with ⟨hb26, h⟩ | ⟨hb26, h⟩
    · refine ev_goT kc_291 6 (t := 22) (e := 21) (L' := [some (.ref 215), some (.int l1), some (.int l2), none]) (st' := []) rfl hb26 ?_
      refine ev_go kc_291 2 (i' := 24) (L' := [some (.ref 215), some (.int l1), some (.int l2), some (.int (0 : Int32))]) (st' := []) (M' := M24) rfl ?_
      exact Ev.forget (mLe.kp (mLe.kp (mLe.kp (mLe.kp mLe.nl)))) (e_X12_laysSleepers_l24  h hk)
    · refine ev_goF kc_291 6 (t := 22) (e := 21) (L' := [some (.ref 215), some (.int l1), some (.int l2), none]) (st' := []) rfl hb26 ?_
      refine ev_go kc_291 3 (i' := 7) (L' := [some (.ref 215), some (.int l1), some (.int (l2 + (1 : Int32))), none]) (st' := []) (M' := M24) rfl ?_
      obtain rfl := Option.some.inj h
      exact Ev.forget (mLe.kp (mLe.kp (mLe.kp (mLe.sk mLe.nl)))) (hk.1 ((l2 + (1 : Int32)), M24) rfl)
def f_X12_laysSleepers_l7 (l1 : Int32) (l2 : Int32) (M0 : mM) : Option (Unit × mM) :=
  wh 100000 (fun s : Int32 × mM => f_X12_laysSleepers_7 l1 s.1 s.2) (l2, M0)
theorem e_X12_laysSleepers_l7 {l1 : Int32} {l2 : Int32} {M0 : mM} {R : mZ} {out : (Unit × mM)}  (h : f_X12_laysSleepers_l7 l1 l2 M0 = some out) (hk : R = emW eU out) : Ev (7) 291 7 [some (.ref 215), some (.int l1), some (.int l2), none] [] M0 R := by
  unfold f_X12_laysSleepers_l7 at h
  exact wh_ev (P := fun s : Int32 × mM => Ev (7) 291 7 [some (.ref 215), some (.int l1), some (.int s.1), none] [] s.2 R) (Q := fun e : (Unit × mM) => R = emW eU e) (fun s o hb h1 h2 => e_X12_laysSleepers_7  hb ⟨h1, h2⟩) 100000 _ _ h hk
def f_X12_laysSleepers  (M0 : mM) : Option (Unit × mM) :=
  b1 (f_X12_upOnes M0) (fun v27 => b2 (f_X12_keepsAll M0) (fun v28 M28 => f_X12_laysSleepers_l7 v27 (0 : Int32) M28))
set_option maxRecDepth 8000 in
theorem c_X12_laysSleepers  {M0 : mM} {out : (Unit × mM)} (h : f_X12_laysSleepers M0 = some out) : Cs (7) 291 [.ref 215] M0 (emW eU out) := by
  generalize hk : emW eU out = R
  replace hk := hk.symm
  unfold f_X12_laysSleepers at h
  show Ev (7) 291 0 [some (.ref 215), none, none, none] [] M0 R
  refine ev_go kc_291 1 (i' := 1) (L' := [some (.ref 215), none, none, none]) (st' := [.ref 215]) (M' := M0) rfl ?_
  obtain ⟨v27, hc27, h⟩ := o_b1 h
  refine ev_cl0 (ins := .invokevirtual 394) kc_291 rfl rfl (a := 197) (as := [.ref 215]) (rest := []) rfl rfl (Cs.deep (c_X12_upOnes (M0 := M0) hc27) (by decide)) ?_
  refine ev_go kc_291 2 (i' := 4) (L' := [some (.ref 215), some (.int v27), none, none]) (st' := [.ref 215]) (M' := M0) rfl ?_
  obtain ⟨v28, M28, hc28, h⟩ := o_b2 h
  refine ev_cl0 (ins := .invokevirtual 353) kc_291 rfl rfl (a := 188) (as := [.ref 215]) (rest := []) rfl rfl (Cs.deep (c_X12_keepsAll hc28) (by decide)) ?_
  refine ev_go kc_291 2 (i' := 7) (L' := [some (.ref 215), some (.int v27), some (.int (0 : Int32)), none]) (st' := []) (M' := M28) rfl ?_
  exact Ev.forget (mLe.kp (mLe.kp (mLe.kp (mLe.sk mLe.nl)))) (e_X12_laysSleepers_l7  h hk)
/-- WakeTowerModel.feelsSo(III)Z: 292, R -/
theorem kc_292 : mKc 292 = k_X12_feelsSo := rfl
def f_X12_feelsSo (p1 : Int32) (p2 : Int32) (p3 : Int32) (M0 : mM) : Option Bool :=
  gd (mIn p1 256) (bif decide ((M0 228 (ix p1)) = 0) then (some false) else (bif (f_X12_has p1 p2) then (some false) else (gd (mIn (((8 : Int32) * p1) + p2) 2048) (gd (mIn (((8 : Int32) * p3) + p2) 2048) (bif decide (¬ (M0 229 (ix (((8 : Int32) * p1) + p2))) = (M0 229 (ix (((8 : Int32) * p3) + p2)))) then (some false) else (some true))))))
set_option maxRecDepth 8000 in
theorem c_X12_feelsSo {p1 : Int32} {p2 : Int32} {p3 : Int32} {M0 : mM} {out : Bool} (h : f_X12_feelsSo p1 p2 p3 M0 = some out) : Cs (1) 292 [.ref 215, .int p1, .int p2, .int p3] M0 (emR eB M0 out) := by
  generalize hk : emR eB M0 out = R
  replace hk := hk.symm
  unfold f_X12_feelsSo at h
  show Ev (1) 292 0 [some (.ref 215), some (.int p1), some (.int p2), some (.int p3)] [] M0 R
  refine ev_go kc_292 3 (i' := 3) (L' := [some (.ref 215), some (.int p1), some (.int p2), some (.int p3)]) (st' := [.int p1, .ref 228]) (M' := M0) rfl ?_
  obtain ⟨hg1, h⟩ := o_gd h
  refine ev_ba kc_292 rfl (n := 256) (Or.inr rfl) hg1 ?_
  rcases o_bif h with ⟨hb2, h⟩ | ⟨hb2, h⟩
  · refine ev_goT kc_292 1 (t := 28) (e := 5) (L' := [some (.ref 215), some (.int p1), some (.int p2), some (.int p3)]) (st' := []) rfl hb2 ?_
    refine ev_go kc_292 1 (i' := 29) (L' := [some (.ref 215), some (.int p1), some (.int p2), some (.int p3)]) (st' := [.int (0 : Int32)]) (M' := M0) rfl ?_
    obtain rfl := Option.some.inj h
    rw [hk]
    exact ev_ret kc_292 rfl rfl rfl
  · refine ev_goF kc_292 1 (t := 28) (e := 5) (L' := [some (.ref 215), some (.int p1), some (.int p2), some (.int p3)]) (st' := []) rfl hb2 ?_
    refine ev_go kc_292 2 (i' := 7) (L' := [some (.ref 215), some (.int p1), some (.int p2), some (.int p3)]) (st' := [.int p2, .int p1]) (M' := M0) rfl ?_
    refine ev_cl0 (ins := .invokestatic 106) kc_292 rfl rfl (a := 183) (as := [.int p1, .int p2]) (rest := []) rfl rfl (Cs.deep (c_X12_has (M0 := M0)) (by decide)) ?_
    rcases o_bif h with ⟨hb4, h⟩ | ⟨hb4, h⟩
    · refine ev_goT kc_292 1 (t := 28) (e := 9) (L' := [some (.ref 215), some (.int p1), some (.int p2), some (.int p3)]) (st' := []) rfl (mB_n0t hb4) ?_
      refine ev_go kc_292 1 (i' := 29) (L' := [some (.ref 215), some (.int p1), some (.int p2), some (.int p3)]) (st' := [.int (0 : Int32)]) (M' := M0) rfl ?_
      obtain rfl := Option.some.inj h
      rw [hk]
      exact ev_ret kc_292 rfl rfl rfl
    · refine ev_goF kc_292 1 (t := 28) (e := 9) (L' := [some (.ref 215), some (.int p1), some (.int p2), some (.int p3)]) (st' := []) rfl (mB_n0f hb4) ?_
      refine ev_go kc_292 7 (i' := 16) (L' := [some (.ref 215), some (.int p1), some (.int p2), some (.int p3)]) (st' := [.int (((8 : Int32) * p1) + p2), .ref 229]) (M' := M0) rfl ?_
      obtain ⟨hg5, h⟩ := o_gd h
      refine ev_ia kc_292 rfl rfl hg5 ?_
      refine ev_go kc_292 7 (i' := 24) (L' := [some (.ref 215), some (.int p1), some (.int p2), some (.int p3)]) (st' := [.int (((8 : Int32) * p3) + p2), .ref 229, .int (M0 229 (ix (((8 : Int32) * p1) + p2)))]) (M' := M0) rfl ?_
      obtain ⟨hg6, h⟩ := o_gd h
      refine ev_ia kc_292 rfl rfl hg6 ?_
      rcases o_bif h with ⟨hb7, h⟩ | ⟨hb7, h⟩
      · refine ev_goT kc_292 1 (t := 28) (e := 26) (L' := [some (.ref 215), some (.int p1), some (.int p2), some (.int p3)]) (st' := []) rfl hb7 ?_
        refine ev_go kc_292 1 (i' := 29) (L' := [some (.ref 215), some (.int p1), some (.int p2), some (.int p3)]) (st' := [.int (0 : Int32)]) (M' := M0) rfl ?_
        obtain rfl := Option.some.inj h
        rw [hk]
        exact ev_ret kc_292 rfl rfl rfl
      · refine ev_goF kc_292 1 (t := 28) (e := 26) (L' := [some (.ref 215), some (.int p1), some (.int p2), some (.int p3)]) (st' := []) rfl hb7 ?_
        refine ev_go kc_292 2 (i' := 29) (L' := [some (.ref 215), some (.int p1), some (.int p2), some (.int p3)]) (st' := [.int (1 : Int32)]) (M' := M0) rfl ?_
        obtain rfl := Option.some.inj h
        rw [hk]
        exact ev_ret kc_292 rfl rfl rfl
/-- WakeTowerModel.sleepersUp()I: 293, R -/
theorem kc_293 : mKc 293 = k_X12_sleepersUp := rfl
def f_X12_sleepersUp  (M0 : mM) : Option Int32 :=
  b1 (f_X12_asleepOnes M0) (fun v1 => b1 (f_X12_upOnes M0) (fun v2 => some (v1 &&& v2)))
set_option maxRecDepth 8000 in
theorem c_X12_sleepersUp  {M0 : mM} {out : Int32} (h : f_X12_sleepersUp M0 = some out) : Cs (4) 293 [.ref 215] M0 (emR eI M0 out) := by
  generalize hk : emR eI M0 out = R
  replace hk := hk.symm
  unfold f_X12_sleepersUp at h
  show Ev (4) 293 0 [some (.ref 215)] [] M0 R
  refine ev_go kc_293 1 (i' := 1) (L' := [some (.ref 215)]) (st' := [.ref 215]) (M' := M0) rfl ?_
  obtain ⟨v1, hc1, h⟩ := o_b1 h
  refine ev_cl0 (ins := .invokevirtual 409) kc_293 rfl rfl (a := 199) (as := [.ref 215]) (rest := []) rfl rfl (Cs.deep (c_X12_asleepOnes (M0 := M0) hc1) (by decide)) ?_
  refine ev_go kc_293 1 (i' := 3) (L' := [some (.ref 215)]) (st' := [.ref 215, .int v1]) (M' := M0) rfl ?_
  obtain ⟨v2, hc2, h⟩ := o_b1 h
  refine ev_cl0 (ins := .invokevirtual 394) kc_293 rfl rfl (a := 197) (as := [.ref 215]) (rest := [.int v1]) rfl rfl (Cs.deep (c_X12_upOnes (M0 := M0) hc2) (by decide)) ?_
  refine ev_go kc_293 1 (i' := 5) (L' := [some (.ref 215)]) (st' := [.int (v1 &&& v2)]) (M' := M0) rfl ?_
  obtain rfl := Option.some.inj h
  rw [hk]
  exact ev_ret kc_293 rfl rfl rfl
