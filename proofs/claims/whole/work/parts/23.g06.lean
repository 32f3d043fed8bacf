/-! the methods, by program -/
/-- WakeTowerModel.in(III)Z: 182, P -/
theorem kc_182 : mKc 182 = k_X12_in := rfl
def f_X12_in (p0 : Int32) (p1 : Int32) (p2 : Int32) : Bool :=
  bif decide (p0 < p1) then false else (bif decide (p2 < p0) then false else true)
set_option maxRecDepth 8000 in
theorem c_X12_in {p0 : Int32} {p1 : Int32} {p2 : Int32} {M0 : mM} : Cs (0) 182 [.int p0, .int p1, .int p2] M0 (emR eB M0 (f_X12_in p0 p1 p2)) := by
  generalize h : f_X12_in p0 p1 p2 = out
  generalize hk : emR eB M0 out = R
  replace hk := hk.symm
  unfold f_X12_in at h
  show Ev (0) 182 0 [some (.int p0), some (.int p1), some (.int p2)] [] M0 R
  rcases o_bif h with ⟨hb1, h⟩ | ⟨hb1, h⟩
  · refine ev_goT kc_182 3 (t := 8) (e := 3) (L' := [some (.int p0), some (.int p1), some (.int p2)]) (st' := []) rfl hb1 ?_
    refine ev_go kc_182 1 (i' := 9) (L' := [some (.int p0), some (.int p1), some (.int p2)]) (st' := [.int (0 : Int32)]) (M' := M0) rfl ?_
    subst h
    rw [hk]
    exact ev_ret kc_182 rfl rfl rfl
  · refine ev_goF kc_182 3 (t := 8) (e := 3) (L' := [some (.int p0), some (.int p1), some (.int p2)]) (st' := []) rfl hb1 ?_
    rcases o_bif h with ⟨hb2, h⟩ | ⟨hb2, h⟩
    · refine ev_goT kc_182 3 (t := 8) (e := 6) (L' := [some (.int p0), some (.int p1), some (.int p2)]) (st' := []) rfl hb2 ?_
      refine ev_go kc_182 1 (i' := 9) (L' := [some (.int p0), some (.int p1), some (.int p2)]) (st' := [.int (0 : Int32)]) (M' := M0) rfl ?_
      subst h
      rw [hk]
      exact ev_ret kc_182 rfl rfl rfl
    · refine ev_goF kc_182 3 (t := 8) (e := 6) (L' := [some (.int p0), some (.int p1), some (.int p2)]) (st' := []) rfl hb2 ?_
      refine ev_go kc_182 2 (i' := 9) (L' := [some (.int p0), some (.int p1), some (.int p2)]) (st' := [.int (1 : Int32)]) (M' := M0) rfl ?_
      subst h
      rw [hk]
      exact ev_ret kc_182 rfl rfl rfl
/-- WakeTowerModel.has(II)Z: 183, P -/
theorem kc_183 : mKc 183 = k_X12_has := rfl
def f_X12_has (p0 : Int32) (p1 : Int32) : Bool :=
  bif decide (¬ ((p0 >>> (p1 &&& (31 : Int32))) &&& (1 : Int32)) = (1 : Int32)) then false else true
set_option maxRecDepth 8000 in
theorem c_X12_has {p0 : Int32} {p1 : Int32} {M0 : mM} : Cs (0) 183 [.int p0, .int p1] M0 (emR eB M0 (f_X12_has p0 p1)) := by
  generalize h : f_X12_has p0 p1 = out
  generalize hk : emR eB M0 out = R
  replace hk := hk.symm
  unfold f_X12_has at h
  show Ev (0) 183 0 [some (.int p0), some (.int p1)] [] M0 R
  rcases o_bif h with ⟨hb1, h⟩ | ⟨hb1, h⟩
  · refine ev_goT kc_183 7 (t := 9) (e := 7) (L' := [some (.int p0), some (.int p1)]) (st' := []) rfl hb1 ?_
    refine ev_go kc_183 1 (i' := 10) (L' := [some (.int p0), some (.int p1)]) (st' := [.int (0 : Int32)]) (M' := M0) rfl ?_
    subst h
    rw [hk]
    exact ev_ret kc_183 rfl rfl rfl
  · refine ev_goF kc_183 7 (t := 9) (e := 7) (L' := [some (.int p0), some (.int p1)]) (st' := []) rfl hb1 ?_
    refine ev_go kc_183 2 (i' := 10) (L' := [some (.int p0), some (.int p1)]) (st' := [.int (1 : Int32)]) (M' := M0) rfl ?_
    subst h
    rw [hk]
    exact ev_ret kc_183 rfl rfl rfl
/-- WakeTowerModel.image()V: 184, W -/
theorem kc_184 : mKc 184 = k_X12_image := rfl
def f_X12_image_5 (l1 : Int32) (M0 : mM) : Option ((Unit × mM) ⊕ (Int32 × mM)) :=
  bif decide ((1273 : Int32) ≤ l1) then (wr (mst M0 215 6 (1 : Int32)) (fun M2 => some (.inl ((), M2)))) else (gd (mIn l1 2122) (gd (mIn l1 1273) (wr (mst M0 217 (ix l1) (M0 216 (ix l1))) (fun M4 => some (.inr ((l1 + (1 : Int32)), M4))))))
set_option maxRecDepth 8000 in
theorem e_X12_image_5 {l1 : Int32} {M0 : mM} {R : mZ} {out : ((Unit × mM) ⊕ (Int32 × mM))}  (h : f_X12_image_5 l1 M0 = some out) (hk : (∀ s' : Int32 × mM, out = .inr s' → Ev (0) 184 5 [some (.ref 215), some (.int s'.1)] [] (s'.2) R) ∧ (∀ e1 : (Unit × mM), out = .inl e1 → R = emW eU e1)) : Ev (0) 184 5 [some (.ref 215), some (.int l1)] [] M0 R := by
  unfold f_X12_image_5 at h
  rcases o_bif h with ⟨hb1, h⟩ | ⟨hb1, h⟩
  · refine ev_goT kc_184 3 (t := 18) (e := 8) (L' := [some (.ref 215), some (.int l1)]) (st' := []) rfl hb1 ?_
    refine ev_go kc_184 2 (i' := 20) (L' := [some (.ref 215), some (.int l1)]) (st' := [.int (1 : Int32), .ref 215]) (M' := M0) rfl ?_
    obtain ⟨M2, hM2, h⟩ := o_wr h
    refine ev_pf kc_184 rfl rfl rfl rfl (fun _ => Or.inr rfl) hM2 ?_
    obtain rfl := Option.some.inj h
    rw [show _ from (hk.2 _ rfl)]
    exact ev_vret kc_184 rfl rfl rfl
  · refine ev_goF kc_184 3 (t := 18) (e := 8) (L' := [some (.ref 215), some (.int l1)]) (st' := []) rfl hb1 ?_
    refine ev_go kc_184 6 (i' := 14) (L' := [some (.ref 215), some (.int l1)]) (st' := [.int l1, .ref 216, .int l1, .ref 217]) (M' := M0) rfl ?_
    obtain ⟨hg3, h⟩ := o_gd h
    refine ev_ia kc_184 rfl rfl hg3 ?_
    obtain ⟨hg5, h⟩ := o_gd h
    obtain ⟨M4, hM4, h⟩ := o_wr h
    refine ev_is kc_184 rfl rfl hg5 hM4 ?_
    refine ev_go kc_184 2 (i' := 5) (L' := [some (.ref 215), some (.int (l1 + (1 : Int32)))]) (st' := []) (M' := M4) rfl ?_
    obtain rfl := Option.some.inj h
    exact Ev.forget (mLe.kp (mLe.kp mLe.nl)) (hk.1 ((l1 + (1 : Int32)), M4) rfl)
def f_X12_image_l5 (l1 : Int32) (M0 : mM) : Option (Unit × mM) :=
  wh 100000 (fun s : Int32 × mM => f_X12_image_5 s.1 s.2) (l1, M0)
theorem e_X12_image_l5 {l1 : Int32} {M0 : mM} {R : mZ} {out : (Unit × mM)}  (h : f_X12_image_l5 l1 M0 = some out) (hk : R = emW eU out) : Ev (0) 184 5 [some (.ref 215), some (.int l1)] [] M0 R := by
  unfold f_X12_image_l5 at h
  exact wh_ev (P := fun s : Int32 × mM => Ev (0) 184 5 [some (.ref 215), some (.int s.1)] [] s.2 R) (Q := fun e : (Unit × mM) => R = emW eU e) (fun s o hb h1 h2 => e_X12_image_5  hb ⟨h1, h2⟩) 100000 _ _ h hk
def f_X12_image  (M0 : mM) : Option (Unit × mM) :=
  wr (mst M0 215 0 (0 : Int32)) (fun M6 => f_X12_image_l5 (0 : Int32) M6)
set_option maxRecDepth 8000 in
theorem c_X12_image  {M0 : mM} {out : (Unit × mM)} (h : f_X12_image M0 = some out) : Cs (0) 184 [.ref 215] M0 (emW eU out) := by
  generalize hk : emW eU out = R
  replace hk := hk.symm
  unfold f_X12_image at h
  show Ev (0) 184 0 [some (.ref 215), none] [] M0 R
  refine ev_go kc_184 2 (i' := 2) (L' := [some (.ref 215), none]) (st' := [.int (0 : Int32), .ref 215]) (M' := M0) rfl ?_
  obtain ⟨M6, hM6, h⟩ := o_wr h
  refine ev_pf kc_184 rfl rfl rfl rfl (fun hc => absurd hc (by decide)) hM6 ?_
  refine ev_go kc_184 2 (i' := 5) (L' := [some (.ref 215), some (.int (0 : Int32))]) (st' := []) (M' := M6) rfl ?_
  exact Ev.forget (mLe.kp (mLe.kp mLe.nl)) (e_X12_image_l5  h hk)
/-- WakeTowerModel.back()Z: 185, W -/
theorem kc_185 : mKc 185 = k_X12_back := rfl
def f_X12_back_10 (l1 : Int32) (M0 : mM) : Option ((Bool × mM) ⊕ (Int32 × mM)) :=
  bif decide ((1273 : Int32) ≤ l1) then (wr (mst M0 215 7 (0 : Int32)) (fun M2 => some (.inl (true, M2)))) else (gd (mIn l1 1273) (gd (mIn l1 2122) (wr (mst M0 216 (ix l1) (M0 217 (ix l1))) (fun M4 => some (.inr ((l1 + (1 : Int32)), M4))))))
set_option maxRecDepth 8000 in
theorem e_X12_back_10 {l1 : Int32} {M0 : mM} {R : mZ} {out : ((Bool × mM) ⊕ (Int32 × mM))}  (h : f_X12_back_10 l1 M0 = some out) (hk : (∀ s' : Int32 × mM, out = .inr s' → Ev (0) 185 10 [some (.ref 215), some (.int s'.1)] [] (s'.2) R) ∧ (∀ e1 : (Bool × mM), out = .inl e1 → R = emW eB e1)) : Ev (0) 185 10 [some (.ref 215), some (.int l1)] [] M0 R := by
  unfold f_X12_back_10 at h
  rcases o_bif h with ⟨hb1, h⟩ | ⟨hb1, h⟩
  · refine ev_goT kc_185 3 (t := 23) (e := 13) (L' := [some (.ref 215), some (.int l1)]) (st' := []) rfl hb1 ?_
    refine ev_go kc_185 2 (i' := 25) (L' := [some (.ref 215), some (.int l1)]) (st' := [.int (0 : Int32), .ref 215]) (M' := M0) rfl ?_
    obtain ⟨M2, hM2, h⟩ := o_wr h
    refine ev_pf kc_185 rfl rfl rfl rfl (fun hc => absurd hc (by decide)) hM2 ?_
    refine ev_go kc_185 1 (i' := 27) (L' := [some (.ref 215), some (.int l1)]) (st' := [.int (1 : Int32)]) (M' := M2) rfl ?_
    obtain rfl := Option.some.inj h
    rw [show _ from (hk.2 _ rfl)]
    exact ev_ret kc_185 rfl rfl rfl
  · refine ev_goF kc_185 3 (t := 23) (e := 13) (L' := [some (.ref 215), some (.int l1)]) (st' := []) rfl hb1 ?_
    refine ev_go kc_185 6 (i' := 19) (L' := [some (.ref 215), some (.int l1)]) (st' := [.int l1, .ref 217, .int l1, .ref 216]) (M' := M0) rfl ?_
    obtain ⟨hg3, h⟩ := o_gd h
    refine ev_ia kc_185 rfl rfl hg3 ?_
    obtain ⟨hg5, h⟩ := o_gd h
    obtain ⟨M4, hM4, h⟩ := o_wr h
    refine ev_is kc_185 rfl rfl hg5 hM4 ?_
    refine ev_go kc_185 2 (i' := 10) (L' := [some (.ref 215), some (.int (l1 + (1 : Int32)))]) (st' := []) (M' := M4) rfl ?_
    obtain rfl := Option.some.inj h
    exact Ev.forget (mLe.kp (mLe.kp mLe.nl)) (hk.1 ((l1 + (1 : Int32)), M4) rfl)
def f_X12_back_l10 (l1 : Int32) (M0 : mM) : Option (Bool × mM) :=
  wh 100000 (fun s : Int32 × mM => f_X12_back_10 s.1 s.2) (l1, M0)
theorem e_X12_back_l10 {l1 : Int32} {M0 : mM} {R : mZ} {out : (Bool × mM)}  (h : f_X12_back_l10 l1 M0 = some out) (hk : R = emW eB out) : Ev (0) 185 10 [some (.ref 215), some (.int l1)] [] M0 R := by
  unfold f_X12_back_l10 at h
  exact wh_ev (P := fun s : Int32 × mM => Ev (0) 185 10 [some (.ref 215), some (.int s.1)] [] s.2 R) (Q := fun e : (Bool × mM) => R = emW eB e) (fun s o hb h1 h2 => e_X12_back_10  hb ⟨h1, h2⟩) 100000 _ _ h hk
def f_X12_back  (M0 : mM) : Option (Bool × mM) :=
  wr (mst M0 215 0 (0 : Int32)) (fun M6 => bif decide (¬ (M6 215 6) = 0) then (f_X12_back_l10 (0 : Int32) M6) else (some (false, M6)))
set_option maxRecDepth 8000 in
theorem c_X12_back  {M0 : mM} {out : (Bool × mM)} (h : f_X12_back M0 = some out) : Cs (0) 185 [.ref 215] M0 (emW eB out) := by
  generalize hk : emW eB out = R
  replace hk := hk.symm
  unfold f_X12_back at h
  show Ev (0) 185 0 [some (.ref 215), none] [] M0 R
  refine ev_go kc_185 2 (i' := 2) (L' := [some (.ref 215), none]) (st' := [.int (0 : Int32), .ref 215]) (M' := M0) rfl ?_
  obtain ⟨M6, hM6, h⟩ := o_wr h
  refine ev_pf kc_185 rfl rfl rfl rfl (fun hc => absurd hc (by decide)) hM6 ?_
  rcases o_bif h with ⟨hb7, h⟩ | ⟨hb7, h⟩
  · refine ev_goT kc_185 3 (t := 8) (e := 6) (L' := [some (.ref 215), none]) (st' := []) rfl hb7 ?_
    refine ev_go kc_185 2 (i' := 10) (L' := [some (.ref 215), some (.int (0 : Int32))]) (st' := []) (M' := M6) rfl ?_
    exact Ev.forget (mLe.kp (mLe.kp mLe.nl)) (e_X12_back_l10  h hk)
  · refine ev_goF kc_185 3 (t := 8) (e := 6) (L' := [some (.ref 215), none]) (st' := []) rfl hb7 ?_
    refine ev_go kc_185 1 (i' := 7) (L' := [some (.ref 215), none]) (st' := [.int (0 : Int32)]) (M' := M6) rfl ?_
    obtain rfl := Option.some.inj h
    rw [hk]
    exact ev_ret kc_185 rfl rfl rfl
/-- WakeTowerModel.remembers()V: 186, W -/
theorem kc_186 : mKc 186 = k_X12_remembers := rfl
def f_X12_remembers_30 (l1 : Int32) (M0 : mM) : Option ((Unit × mM) ⊕ (Int32 × mM)) :=
  bif decide ((424 : Int32) ≤ l1) then (some (.inl ((), M0))) else (gd (mIn l1 424) (gd (mIn (((424 : Int32) * ((M0 215 7) - (1 : Int32))) + l1) 5088) (wr (mst M0 220 (ix (((424 : Int32) * ((M0 215 7) - (1 : Int32))) + l1)) (M0 219 (ix l1))) (fun M3 => some (.inr ((l1 + (1 : Int32)), M3))))))
set_option maxRecDepth 8000 in
theorem e_X12_remembers_30 {l1 : Int32} {M0 : mM} {R : mZ} {out : ((Unit × mM) ⊕ (Int32 × mM))}  (h : f_X12_remembers_30 l1 M0 = some out) (hk : (∀ s' : Int32 × mM, out = .inr s' → Ev (0) 186 30 [some (.ref 215), some (.int s'.1)] [] (s'.2) R) ∧ (∀ e1 : (Unit × mM), out = .inl e1 → R = emW eU e1)) : Ev (0) 186 30 [some (.ref 215), some (.int l1)] [] M0 R := by
  unfold f_X12_remembers_30 at h
  rcases o_bif h with ⟨hb1, h⟩ | ⟨hb1, h⟩
  · refine ev_goT kc_186 3 (t := 50) (e := 33) (L' := [some (.ref 215), some (.int l1)]) (st' := []) rfl hb1 ?_
    obtain rfl := Option.some.inj h
    rw [show _ from (hk.2 _ rfl)]
    exact ev_vret kc_186 rfl rfl rfl
  · refine ev_goF kc_186 3 (t := 50) (e := 33) (L' := [some (.ref 215), some (.int l1)]) (st' := []) rfl hb1 ?_
    refine ev_go kc_186 13 (i' := 46) (L' := [some (.ref 215), some (.int l1)]) (st' := [.int l1, .ref 219, .int (((424 : Int32) * ((M0 215 7) - (1 : Int32))) + l1), .ref 220]) (M' := M0) rfl ?_
    obtain ⟨hg2, h⟩ := o_gd h
    refine ev_ia kc_186 rfl rfl hg2 ?_
    obtain ⟨hg4, h⟩ := o_gd h
    obtain ⟨M3, hM3, h⟩ := o_wr h
    refine ev_is kc_186 rfl rfl hg4 hM3 ?_
    refine ev_go kc_186 2 (i' := 30) (L' := [some (.ref 215), some (.int (l1 + (1 : Int32)))]) (st' := []) (M' := M3) rfl ?_
    obtain rfl := Option.some.inj h
    exact Ev.forget (mLe.kp (mLe.kp mLe.nl)) (hk.1 ((l1 + (1 : Int32)), M3) rfl)
def f_X12_remembers_l30 (l1 : Int32) (M0 : mM) : Option (Unit × mM) :=
  wh 100000 (fun s : Int32 × mM => f_X12_remembers_30 s.1 s.2) (l1, M0)
theorem e_X12_remembers_l30 {l1 : Int32} {M0 : mM} {R : mZ} {out : (Unit × mM)}  (h : f_X12_remembers_l30 l1 M0 = some out) (hk : R = emW eU out) : Ev (0) 186 30 [some (.ref 215), some (.int l1)] [] M0 R := by
  unfold f_X12_remembers_l30 at h
  exact wh_ev (P := fun s : Int32 × mM => Ev (0) 186 30 [some (.ref 215), some (.int s.1)] [] s.2 R) (Q := fun e : (Unit × mM) => R = emW eU e) (fun s o hb h1 h2 => e_X12_remembers_30  hb ⟨h1, h2⟩) 100000 _ _ h hk
def f_X12_remembers_6 (l1 : Int32) (M0 : mM) : Option ((Unit × mM) ⊕ (Int32 × mM)) :=
  bif decide ((4664 : Int32) ≤ l1) then (b1 (f_X12_remembers_l30 (0 : Int32) M0) (fun r6 => some (.inl r6))) else (gd (mIn (l1 + (424 : Int32)) 5088) (gd (mIn l1 5088) (wr (mst M0 220 (ix l1) (M0 220 (ix (l1 + (424 : Int32))))) (fun M8 => some (.inr ((l1 + (1 : Int32)), M8))))))
set_option maxRecDepth 8000 in
theorem e_X12_remembers_6 {l1 : Int32} {M0 : mM} {R : mZ} {out : ((Unit × mM) ⊕ (Int32 × mM))}  (h : f_X12_remembers_6 l1 M0 = some out) (hk : (∀ s' : Int32 × mM, out = .inr s' → Ev (0) 186 6 [some (.ref 215), some (.int s'.1)] [] (s'.2) R) ∧ (∀ e1 : (Unit × mM), out = .inl e1 → R = emW eU e1)) : Ev (0) 186 6 [some (.ref 215), some (.int l1)] [] M0 R := by
  unfold f_X12_remembers_6 at h
  rcases o_bif h with ⟨hb5, h⟩ | ⟨hb5, h⟩
  · refine ev_goT kc_186 3 (t := 21) (e := 9) (L' := [some (.ref 215), some (.int l1)]) (st' := []) rfl hb5 ?_
    refine ev_go kc_186 3 (i' := 30) (L' := [some (.ref 215), some (.int (0 : Int32))]) (st' := []) (M' := M0) rfl ?_
    obtain ⟨r6, hr6, h⟩ := o_b1 h
    obtain rfl := Option.some.inj h
    exact Ev.forget (mLe.kp (mLe.kp mLe.nl)) (e_X12_remembers_l30  hr6 (hk.2 _ rfl))
  · refine ev_goF kc_186 3 (t := 21) (e := 9) (L' := [some (.ref 215), some (.int l1)]) (st' := []) rfl hb5 ?_
    refine ev_go kc_186 8 (i' := 17) (L' := [some (.ref 215), some (.int l1)]) (st' := [.int (l1 + (424 : Int32)), .ref 220, .int l1, .ref 220]) (M' := M0) rfl ?_
    obtain ⟨hg7, h⟩ := o_gd h
    refine ev_ia kc_186 rfl rfl hg7 ?_
    obtain ⟨hg9, h⟩ := o_gd h
    obtain ⟨M8, hM8, h⟩ := o_wr h
    refine ev_is kc_186 rfl rfl hg9 hM8 ?_
    refine ev_go kc_186 2 (i' := 6) (L' := [some (.ref 215), some (.int (l1 + (1 : Int32)))]) (st' := []) (M' := M8) rfl ?_
    obtain rfl := Option.some.inj h
    exact Ev.forget (mLe.kp (mLe.kp mLe.nl)) (hk.1 ((l1 + (1 : Int32)), M8) rfl)
def f_X12_remembers_l6 (l1 : Int32) (M0 : mM) : Option (Unit × mM) :=
  wh 100000 (fun s : Int32 × mM => f_X12_remembers_6 s.1 s.2) (l1, M0)
theorem e_X12_remembers_l6 {l1 : Int32} {M0 : mM} {R : mZ} {out : (Unit × mM)}  (h : f_X12_remembers_l6 l1 M0 = some out) (hk : R = emW eU out) : Ev (0) 186 6 [some (.ref 215), some (.int l1)] [] M0 R := by
  unfold f_X12_remembers_l6 at h
  exact wh_ev (P := fun s : Int32 × mM => Ev (0) 186 6 [some (.ref 215), some (.int s.1)] [] s.2 R) (Q := fun e : (Unit × mM) => R = emW eU e) (fun s o hb h1 h2 => e_X12_remembers_6  hb ⟨h1, h2⟩) 100000 _ _ h hk
def f_X12_remembers  (M0 : mM) : Option (Unit × mM) :=
  bif decide (¬ (M0 215 7) = (12 : Int32)) then (wr (mst M0 215 7 ((M0 215 7) + (1 : Int32))) (fun M11 => f_X12_remembers_l30 (0 : Int32) M11)) else (f_X12_remembers_l6 (0 : Int32) M0)
set_option maxRecDepth 8000 in
theorem c_X12_remembers  {M0 : mM} {out : (Unit × mM)} (h : f_X12_remembers M0 = some out) : Cs (0) 186 [.ref 215] M0 (emW eU out) := by
  generalize hk : emW eU out = R
  replace hk := hk.symm
  unfold f_X12_remembers at h
  show Ev (0) 186 0 [some (.ref 215), none] [] M0 R
  rcases o_bif h with ⟨hb10, h⟩ | ⟨hb10, h⟩
  · refine ev_goT kc_186 4 (t := 22) (e := 4) (L' := [some (.ref 215), none]) (st' := []) rfl hb10 ?_
    refine ev_go kc_186 5 (i' := 27) (L' := [some (.ref 215), none]) (st' := [.int ((M0 215 7) + (1 : Int32)), .ref 215]) (M' := M0) rfl ?_
    obtain ⟨M11, hM11, h⟩ := o_wr h
    refine ev_pf kc_186 rfl rfl rfl rfl (fun hc => absurd hc (by decide)) hM11 ?_
    refine ev_go kc_186 2 (i' := 30) (L' := [some (.ref 215), some (.int (0 : Int32))]) (st' := []) (M' := M11) rfl ?_
    exact Ev.forget (mLe.kp (mLe.kp mLe.nl)) (e_X12_remembers_l30  h hk)
  · refine ev_goF kc_186 4 (t := 22) (e := 4) (L' := [some (.ref 215), none]) (st' := []) rfl hb10 ?_
    refine ev_go kc_186 2 (i' := 6) (L' := [some (.ref 215), some (.int (0 : Int32))]) (st' := []) (M' := M0) rfl ?_
    exact Ev.forget (mLe.kp (mLe.kp mLe.nl)) (e_X12_remembers_l6  h hk)
/-- WakeTowerModel.undo()Z: 187, W -/
theorem kc_187 : mKc 187 = k_X12_undo := rfl
def f_X12_undo_16 (l1 : Int32) (M0 : mM) : Option ((Bool × mM) ⊕ (Int32 × mM)) :=
  bif decide ((424 : Int32) ≤ l1) then (some (.inl (true, M0))) else (gd (mIn (((424 : Int32) * (M0 215 7)) + l1) 5088) (gd (mIn l1 2122) (wr (mst M0 216 (ix l1) (M0 220 (ix (((424 : Int32) * (M0 215 7)) + l1)))) (fun M3 => some (.inr ((l1 + (1 : Int32)), M3))))))
set_option maxRecDepth 8000 in
theorem e_X12_undo_16 {l1 : Int32} {M0 : mM} {R : mZ} {out : ((Bool × mM) ⊕ (Int32 × mM))}  (h : f_X12_undo_16 l1 M0 = some out) (hk : (∀ s' : Int32 × mM, out = .inr s' → Ev (0) 187 16 [some (.ref 215), some (.int s'.1)] [] (s'.2) R) ∧ (∀ e1 : (Bool × mM), out = .inl e1 → R = emW eB e1)) : Ev (0) 187 16 [some (.ref 215), some (.int l1)] [] M0 R := by
  unfold f_X12_undo_16 at h
  rcases o_bif h with ⟨hb1, h⟩ | ⟨hb1, h⟩
  · refine ev_goT kc_187 3 (t := 34) (e := 19) (L' := [some (.ref 215), some (.int l1)]) (st' := []) rfl hb1 ?_
    refine ev_go kc_187 1 (i' := 35) (L' := [some (.ref 215), some (.int l1)]) (st' := [.int (1 : Int32)]) (M' := M0) rfl ?_
    obtain rfl := Option.some.inj h
    rw [show _ from (hk.2 _ rfl)]
    exact ev_ret kc_187 rfl rfl rfl
  · refine ev_goF kc_187 3 (t := 34) (e := 19) (L' := [some (.ref 215), some (.int l1)]) (st' := []) rfl hb1 ?_
    refine ev_go kc_187 11 (i' := 30) (L' := [some (.ref 215), some (.int l1)]) (st' := [.int (((424 : Int32) * (M0 215 7)) + l1), .ref 220, .int l1, .ref 216]) (M' := M0) rfl ?_
    obtain ⟨hg2, h⟩ := o_gd h
    refine ev_ia kc_187 rfl rfl hg2 ?_
    obtain ⟨hg4, h⟩ := o_gd h
    obtain ⟨M3, hM3, h⟩ := o_wr h
    refine ev_is kc_187 rfl rfl hg4 hM3 ?_
    refine ev_go kc_187 2 (i' := 16) (L' := [some (.ref 215), some (.int (l1 + (1 : Int32)))]) (st' := []) (M' := M3) rfl ?_
    obtain rfl := Option.some.inj h
    exact Ev.forget (mLe.kp (mLe.kp mLe.nl)) (hk.1 ((l1 + (1 : Int32)), M3) rfl)
def f_X12_undo_l16 (l1 : Int32) (M0 : mM) : Option (Bool × mM) :=
  wh 100000 (fun s : Int32 × mM => f_X12_undo_16 s.1 s.2) (l1, M0)
theorem e_X12_undo_l16 {l1 : Int32} {M0 : mM} {R : mZ} {out : (Bool × mM)}  (h : f_X12_undo_l16 l1 M0 = some out) (hk : R = emW eB out) : Ev (0) 187 16 [some (.ref 215), some (.int l1)] [] M0 R := by
  unfold f_X12_undo_l16 at h
  exact wh_ev (P := fun s : Int32 × mM => Ev (0) 187 16 [some (.ref 215), some (.int s.1)] [] s.2 R) (Q := fun e : (Bool × mM) => R = emW eB e) (fun s o hb h1 h2 => e_X12_undo_16  hb ⟨h1, h2⟩) 100000 _ _ h hk
def f_X12_undo  (M0 : mM) : Option (Bool × mM) :=
  wr (mst M0 215 0 (0 : Int32)) (fun M5 => bif decide (¬ (M5 215 7) = 0) then (wr (mst M5 215 7 ((M5 215 7) - (1 : Int32))) (fun M7 => f_X12_undo_l16 (0 : Int32) M7)) else (some (false, M5)))
set_option maxRecDepth 8000 in
theorem c_X12_undo  {M0 : mM} {out : (Bool × mM)} (h : f_X12_undo M0 = some out) : Cs (0) 187 [.ref 215] M0 (emW eB out) := by
  generalize hk : emW eB out = R
  replace hk := hk.symm
  unfold f_X12_undo at h
  show Ev (0) 187 0 [some (.ref 215), none] [] M0 R
  refine ev_go kc_187 2 (i' := 2) (L' := [some (.ref 215), none]) (st' := [.int (0 : Int32), .ref 215]) (M' := M0) rfl ?_
  obtain ⟨M5, hM5, h⟩ := o_wr h
  refine ev_pf kc_187 rfl rfl rfl rfl (fun hc => absurd hc (by decide)) hM5 ?_
  rcases o_bif h with ⟨hb6, h⟩ | ⟨hb6, h⟩
  · refine ev_goT kc_187 3 (t := 8) (e := 6) (L' := [some (.ref 215), none]) (st' := []) rfl hb6 ?_
    refine ev_go kc_187 5 (i' := 13) (L' := [some (.ref 215), none]) (st' := [.int ((M5 215 7) - (1 : Int32)), .ref 215]) (M' := M5) rfl ?_
    obtain ⟨M7, hM7, h⟩ := o_wr h
    refine ev_pf kc_187 rfl rfl rfl rfl (fun hc => absurd hc (by decide)) hM7 ?_
    refine ev_go kc_187 2 (i' := 16) (L' := [some (.ref 215), some (.int (0 : Int32))]) (st' := []) (M' := M7) rfl ?_
    exact Ev.forget (mLe.kp (mLe.kp mLe.nl)) (e_X12_undo_l16  h hk)
  · refine ev_goF kc_187 3 (t := 8) (e := 6) (L' := [some (.ref 215), none]) (st' := []) rfl hb6 ?_
    refine ev_go kc_187 1 (i' := 7) (L' := [some (.ref 215), none]) (st' := [.int (0 : Int32)]) (M' := M5) rfl ?_
    obtain rfl := Option.some.inj h
    rw [hk]
    exact ev_ret kc_187 rfl rfl rfl
/-- WakeTowerModel.keepsAll()V: 188, W -/
theorem kc_188 : mKc 188 = k_X12_keepsAll := rfl
def f_X12_keepsAll_2 (l1 : Int32) (M0 : mM) : Option ((Unit × mM) ⊕ (Int32 × mM)) :=
  bif decide ((424 : Int32) ≤ l1) then (some (.inl ((), M0))) else (gd (mIn l1 2122) (gd (mIn l1 424) (wr (mst M0 219 (ix l1) (M0 216 (ix l1))) (fun M3 => some (.inr ((l1 + (1 : Int32)), M3))))))
set_option maxRecDepth 8000 in
theorem e_X12_keepsAll_2 {l1 : Int32} {M0 : mM} {R : mZ} {out : ((Unit × mM) ⊕ (Int32 × mM))}  (h : f_X12_keepsAll_2 l1 M0 = some out) (hk : (∀ s' : Int32 × mM, out = .inr s' → Ev (0) 188 2 [some (.ref 215), some (.int s'.1)] [] (s'.2) R) ∧ (∀ e1 : (Unit × mM), out = .inl e1 → R = emW eU e1)) : Ev (0) 188 2 [some (.ref 215), some (.int l1)] [] M0 R := by
  unfold f_X12_keepsAll_2 at h
  rcases o_bif h with ⟨hb1, h⟩ | ⟨hb1, h⟩
  · refine ev_goT kc_188 3 (t := 15) (e := 5) (L' := [some (.ref 215), some (.int l1)]) (st' := []) rfl hb1 ?_
    obtain rfl := Option.some.inj h
    rw [show _ from (hk.2 _ rfl)]
    exact ev_vret kc_188 rfl rfl rfl
  · refine ev_goF kc_188 3 (t := 15) (e := 5) (L' := [some (.ref 215), some (.int l1)]) (st' := []) rfl hb1 ?_
    refine ev_go kc_188 6 (i' := 11) (L' := [some (.ref 215), some (.int l1)]) (st' := [.int l1, .ref 216, .int l1, .ref 219]) (M' := M0) rfl ?_
    obtain ⟨hg2, h⟩ := o_gd h
    refine ev_ia kc_188 rfl rfl hg2 ?_
    obtain ⟨hg4, h⟩ := o_gd h
    obtain ⟨M3, hM3, h⟩ := o_wr h
    refine ev_is kc_188 rfl rfl hg4 hM3 ?_
    refine ev_go kc_188 2 (i' := 2) (L' := [some (.ref 215), some (.int (l1 + (1 : Int32)))]) (st' := []) (M' := M3) rfl ?_
    obtain rfl := Option.some.inj h
    exact Ev.forget (mLe.kp (mLe.kp mLe.nl)) (hk.1 ((l1 + (1 : Int32)), M3) rfl)
def f_X12_keepsAll_l2 (l1 : Int32) (M0 : mM) : Option (Unit × mM) :=
  wh 100000 (fun s : Int32 × mM => f_X12_keepsAll_2 s.1 s.2) (l1, M0)
theorem e_X12_keepsAll_l2 {l1 : Int32} {M0 : mM} {R : mZ} {out : (Unit × mM)}  (h : f_X12_keepsAll_l2 l1 M0 = some out) (hk : R = emW eU out) : Ev (0) 188 2 [some (.ref 215), some (.int l1)] [] M0 R := by
  unfold f_X12_keepsAll_l2 at h
  exact wh_ev (P := fun s : Int32 × mM => Ev (0) 188 2 [some (.ref 215), some (.int s.1)] [] s.2 R) (Q := fun e : (Unit × mM) => R = emW eU e) (fun s o hb h1 h2 => e_X12_keepsAll_2  hb ⟨h1, h2⟩) 100000 _ _ h hk
def f_X12_keepsAll  (M0 : mM) : Option (Unit × mM) :=
  f_X12_keepsAll_l2 (0 : Int32) M0
set_option maxRecDepth 8000 in
theorem c_X12_keepsAll  {M0 : mM} {out : (Unit × mM)} (h : f_X12_keepsAll M0 = some out) : Cs (0) 188 [.ref 215] M0 (emW eU out) := by
  generalize hk : emW eU out = R
  replace hk := hk.symm
  unfold f_X12_keepsAll at h
  show Ev (0) 188 0 [some (.ref 215), none] [] M0 R
  refine ev_go kc_188 2 (i' := 2) (L' := [some (.ref 215), some (.int (0 : Int32))]) (st' := []) (M' := M0) rfl ?_
  exact Ev.forget (mLe.kp (mLe.kp mLe.nl)) (e_X12_keepsAll_l2  h hk)
/-- WakeTowerModel.bringsBack()V: 189, W -/
theorem kc_189 : mKc 189 = k_X12_bringsBack := rfl
def f_X12_bringsBack_2 (l1 : Int32) (M0 : mM) : Option ((Unit × mM) ⊕ (Int32 × mM)) :=
  bif decide ((424 : Int32) ≤ l1) then (some (.inl ((), M0))) else (gd (mIn l1 424) (gd (mIn l1 2122) (wr (mst M0 216 (ix l1) (M0 219 (ix l1))) (fun M3 => some (.inr ((l1 + (1 : Int32)), M3))))))
set_option maxRecDepth 8000 in
theorem e_X12_bringsBack_2 {l1 : Int32} {M0 : mM} {R : mZ} {out : ((Unit × mM) ⊕ (Int32 × mM))}  (h : f_X12_bringsBack_2 l1 M0 = some out) (hk : (∀ s' : Int32 × mM, out = .inr s' → Ev (0) 189 2 [some (.ref 215), some (.int s'.1)] [] (s'.2) R) ∧ (∀ e1 : (Unit × mM), out = .inl e1 → R = emW eU e1)) : Ev (0) 189 2 [some (.ref 215), some (.int l1)] [] M0 R := by
  unfold f_X12_bringsBack_2 at h
  rcases o_bif h with ⟨hb1, h⟩ | ⟨hb1, h⟩
  · refine ev_goT kc_189 3 (t := 15) (e := 5) (L' := [some (.ref 215), some (.int l1)]) (st' := []) rfl hb1 ?_
    obtain rfl := Option.some.inj h
    rw [show _ from (hk.2 _ rfl)]
    exact ev_vret kc_189 rfl rfl rfl
  · refine ev_goF kc_189 3 (t := 15) (e := 5) (L' := [some (.ref 215), some (.int l1)]) (st' := []) rfl hb1 ?_
    refine ev_go kc_189 6 (i' := 11) (L' := [some (.ref 215), some (.int l1)]) (st' := [.int l1, .ref 219, .int l1, .ref 216]) (M' := M0) rfl ?_
    obtain ⟨hg2, h⟩ := o_gd h
    refine ev_ia kc_189 rfl rfl hg2 ?_
    obtain ⟨hg4, h⟩ := o_gd h
    obtain ⟨M3, hM3, h⟩ := o_wr h
    refine ev_is kc_189 rfl rfl hg4 hM3 ?_
    refine ev_go kc_189 2 (i' := 2) (L' := [some (.ref 215), some (.int (l1 + (1 : Int32)))]) (st' := []) (M' := M3) rfl ?_
    obtain rfl := Option.some.inj h
    exact Ev.forget (mLe.kp (mLe.kp mLe.nl)) (hk.1 ((l1 + (1 : Int32)), M3) rfl)
def f_X12_bringsBack_l2 (l1 : Int32) (M0 : mM) : Option (Unit × mM) :=
  wh 100000 (fun s : Int32 × mM => f_X12_bringsBack_2 s.1 s.2) (l1, M0)
theorem e_X12_bringsBack_l2 {l1 : Int32} {M0 : mM} {R : mZ} {out : (Unit × mM)}  (h : f_X12_bringsBack_l2 l1 M0 = some out) (hk : R = emW eU out) : Ev (0) 189 2 [some (.ref 215), some (.int l1)] [] M0 R := by
  unfold f_X12_bringsBack_l2 at h
  exact wh_ev (P := fun s : Int32 × mM => Ev (0) 189 2 [some (.ref 215), some (.int s.1)] [] s.2 R) (Q := fun e : (Unit × mM) => R = emW eU e) (fun s o hb h1 h2 => e_X12_bringsBack_2  hb ⟨h1, h2⟩) 100000 _ _ h hk
def f_X12_bringsBack  (M0 : mM) : Option (Unit × mM) :=
  f_X12_bringsBack_l2 (0 : Int32) M0
set_option maxRecDepth 8000 in
theorem c_X12_bringsBack  {M0 : mM} {out : (Unit × mM)} (h : f_X12_bringsBack M0 = some out) : Cs (0) 189 [.ref 215] M0 (emW eU out) := by
  generalize hk : emW eU out = R
  replace hk := hk.symm
  unfold f_X12_bringsBack at h
  show Ev (0) 189 0 [some (.ref 215), none] [] M0 R
  refine ev_go kc_189 2 (i' := 2) (L' := [some (.ref 215), some (.int (0 : Int32))]) (st' := []) (M' := M0) rfl ?_
  exact Ev.forget (mLe.kp (mLe.kp mLe.nl)) (e_X12_bringsBack_l2  h hk)
/-- WakeTowerModel.people()I: 190, R -/
theorem kc_190 : mKc 190 = k_X12_people := rfl
def f_X12_people  (M0 : mM) : Option Int32 :=
  some (M0 216 (ix (0 : Int32)))
set_option maxRecDepth 8000 in
theorem c_X12_people  {M0 : mM} {out : Int32} (h : f_X12_people M0 = some out) : Cs (0) 190 [.ref 215] M0 (emR eI M0 out) := by
  generalize hk : emR eI M0 out = R
  replace hk := hk.symm
  unfold f_X12_people at h
  show Ev (0) 190 0 [some (.ref 215)] [] M0 R
  refine ev_go kc_190 3 (i' := 3) (L' := [some (.ref 215)]) (st' := [.int (0 : Int32), .ref 216]) (M' := M0) rfl ?_
  refine ev_ia kc_190 rfl rfl rfl ?_
  obtain rfl := Option.some.inj h
  rw [hk]
  exact ev_ret kc_190 rfl rfl rfl
/-- WakeTowerModel.everybody()I: 191, R -/
theorem kc_191 : mKc 191 = k_X12_everybody := rfl
def f_X12_everybody  (M0 : mM) : Option Int32 :=
  b1 (f_X12_people M0) (fun v1 => some (((1 : Int32) <<< (v1 &&& (31 : Int32))) - (1 : Int32)))
set_option maxRecDepth 8000 in
theorem c_X12_everybody  {M0 : mM} {out : Int32} (h : f_X12_everybody M0 = some out) : Cs (1) 191 [.ref 215] M0 (emR eI M0 out) := by
  generalize hk : emR eI M0 out = R
  replace hk := hk.symm
  unfold f_X12_everybody at h
  show Ev (1) 191 0 [some (.ref 215)] [] M0 R
  refine ev_go kc_191 2 (i' := 2) (L' := [some (.ref 215)]) (st' := [.ref 215, .int (1 : Int32)]) (M' := M0) rfl ?_
  obtain ⟨v1, hc1, h⟩ := o_b1 h
  refine ev_cl0 (ins := .invokevirtual 71) kc_191 rfl rfl (a := 190) (as := [.ref 215]) (rest := [.int (1 : Int32)]) rfl rfl (Cs.deep (c_X12_people (M0 := M0) hc1) (by decide)) ?_
  refine ev_go kc_191 3 (i' := 6) (L' := [some (.ref 215)]) (st' := [.int (((1 : Int32) <<< (v1 &&& (31 : Int32))) - (1 : Int32))]) (M' := M0) rfl ?_
  obtain rfl := Option.some.inj h
  rw [hk]
  exact ev_ret kc_191 rfl rfl rfl
/-- WakeTowerModel.at(II)I: 192, P -/
theorem kc_192 : mKc 192 = k_X12_at := rfl
def f_X12_at (p0 : Int32) (p1 : Int32) : Int32 :=
  (((8 : Int32) + ((7 : Int32) * p0)) + p1)
set_option maxRecDepth 8000 in
theorem c_X12_at {p0 : Int32} {p1 : Int32} {M0 : mM} : Cs (0) 192 [.int p0, .int p1] M0 (emR eI M0 (f_X12_at p0 p1)) := by
  generalize h : f_X12_at p0 p1 = out
  generalize hk : emR eI M0 out = R
  replace hk := hk.symm
  unfold f_X12_at at h
  show Ev (0) 192 0 [some (.int p0), some (.int p1)] [] M0 R
  refine ev_go kc_192 7 (i' := 7) (L' := [some (.int p0), some (.int p1)]) (st' := [.int (((8 : Int32) + ((7 : Int32) * p0)) + p1)]) (M' := M0) rfl ?_
  subst h
  rw [hk]
  exact ev_ret kc_192 rfl rfl rfl
/-- WakeTowerModel.of(II)I: 193, R -/
theorem kc_193 : mKc 193 = k_X12_of := rfl
def f_X12_of (p1 : Int32) (p2 : Int32) (M0 : mM) : Option Int32 :=
  gd (mIn (f_X12_at p1 p2) 2122) (some (M0 216 (ix (f_X12_at p1 p2))))
set_option maxRecDepth 8000 in
theorem c_X12_of {p1 : Int32} {p2 : Int32} {M0 : mM} {out : Int32} (h : f_X12_of p1 p2 M0 = some out) : Cs (1) 193 [.ref 215, .int p1, .int p2] M0 (emR eI M0 out) := by
  generalize hk : emR eI M0 out = R
  replace hk := hk.symm
  unfold f_X12_of at h
  show Ev (1) 193 0 [some (.ref 215), some (.int p1), some (.int p2)] [] M0 R
  refine ev_go kc_193 4 (i' := 4) (L' := [some (.ref 215), some (.int p1), some (.int p2)]) (st' := [.int p2, .int p1, .ref 216]) (M' := M0) rfl ?_
  refine ev_cl0 (ins := .invokestatic 75) kc_193 rfl rfl (a := 192) (as := [.int p1, .int p2]) (rest := [.ref 216]) rfl rfl (Cs.deep (c_X12_at (M0 := M0)) (by decide)) ?_
  obtain ⟨hg2, h⟩ := o_gd h
  refine ev_ia kc_193 rfl rfl hg2 ?_
  obtain rfl := Option.some.inj h
  rw [hk]
  exact ev_ret kc_193 rfl rfl rfl
/-- WakeTowerModel.isUp(I)Z: 194, R -/
theorem kc_194 : mKc 194 = k_X12_isUp := rfl
def f_X12_isUp (p1 : Int32) (M0 : mM) : Option Bool :=
  b1 (f_X12_of p1 (5 : Int32) M0) (fun v1 => bif decide (v1 = (-1 : Int32)) then (some false) else (some true))
set_option maxRecDepth 8000 in
theorem c_X12_isUp {p1 : Int32} {M0 : mM} {out : Bool} (h : f_X12_isUp p1 M0 = some out) : Cs (2) 194 [.ref 215, .int p1] M0 (emR eB M0 out) := by
  generalize hk : emR eB M0 out = R
  replace hk := hk.symm
  unfold f_X12_isUp at h
  show Ev (2) 194 0 [some (.ref 215), some (.int p1)] [] M0 R
  refine ev_go kc_194 3 (i' := 3) (L' := [some (.ref 215), some (.int p1)]) (st' := [.int (5 : Int32), .int p1, .ref 215]) (M' := M0) rfl ?_
  obtain ⟨v1, hc1, h⟩ := o_b1 h
  refine ev_cl0 (ins := .invokevirtual 79) kc_194 rfl rfl (a := 193) (as := [.ref 215, .int p1, .int (5 : Int32)]) (rest := []) rfl rfl (Cs.deep (c_X12_of (M0 := M0) hc1) (by decide)) ?_
  rcases o_bif h with ⟨hb2, h⟩ | ⟨hb2, h⟩
  · refine ev_goT kc_194 2 (t := 8) (e := 6) (L' := [some (.ref 215), some (.int p1)]) (st' := []) rfl hb2 ?_
    refine ev_go kc_194 1 (i' := 9) (L' := [some (.ref 215), some (.int p1)]) (st' := [.int (0 : Int32)]) (M' := M0) rfl ?_
    obtain rfl := Option.some.inj h
    rw [hk]
    exact ev_ret kc_194 rfl rfl rfl
  · refine ev_goF kc_194 2 (t := 8) (e := 6) (L' := [some (.ref 215), some (.int p1)]) (st' := []) rfl hb2 ?_
    refine ev_go kc_194 2 (i' := 9) (L' := [some (.ref 215), some (.int p1)]) (st' := [.int (1 : Int32)]) (M' := M0) rfl ?_
    obtain rfl := Option.some.inj h
    rw [hk]
    exact ev_ret kc_194 rfl rfl rfl
/-- WakeTowerModel.isAsleep(I)Z: 195, R -/
theorem kc_195 : mKc 195 = k_X12_isAsleep := rfl
def f_X12_isAsleep (p1 : Int32) (M0 : mM) : Option Bool :=
  b1 (f_X12_of p1 (3 : Int32) M0) (fun v1 => bif decide (¬ v1 = (1 : Int32)) then (some false) else (some true))
set_option maxRecDepth 8000 in
theorem c_X12_isAsleep {p1 : Int32} {M0 : mM} {out : Bool} (h : f_X12_isAsleep p1 M0 = some out) : Cs (2) 195 [.ref 215, .int p1] M0 (emR eB M0 out) := by
  generalize hk : emR eB M0 out = R
  replace hk := hk.symm
  unfold f_X12_isAsleep at h
  show Ev (2) 195 0 [some (.ref 215), some (.int p1)] [] M0 R
  refine ev_go kc_195 3 (i' := 3) (L' := [some (.ref 215), some (.int p1)]) (st' := [.int (3 : Int32), .int p1, .ref 215]) (M' := M0) rfl ?_
  obtain ⟨v1, hc1, h⟩ := o_b1 h
  refine ev_cl0 (ins := .invokevirtual 79) kc_195 rfl rfl (a := 193) (as := [.ref 215, .int p1, .int (3 : Int32)]) (rest := []) rfl rfl (Cs.deep (c_X12_of (M0 := M0) hc1) (by decide)) ?_
  rcases o_bif h with ⟨hb2, h⟩ | ⟨hb2, h⟩
  · refine ev_goT kc_195 2 (t := 8) (e := 6) (L' := [some (.ref 215), some (.int p1)]) (st' := []) rfl hb2 ?_
    refine ev_go kc_195 1 (i' := 9) (L' := [some (.ref 215), some (.int p1)]) (st' := [.int (0 : Int32)]) (M' := M0) rfl ?_
    obtain rfl := Option.some.inj h
    rw [hk]
    exact ev_ret kc_195 rfl rfl rfl
  · refine ev_goF kc_195 2 (t := 8) (e := 6) (L' := [some (.ref 215), some (.int p1)]) (st' := []) rfl hb2 ?_
    refine ev_go kc_195 2 (i' := 9) (L' := [some (.ref 215), some (.int p1)]) (st' := [.int (1 : Int32)]) (M' := M0) rfl ?_
    obtain rfl := Option.some.inj h
    rw [hk]
    exact ev_ret kc_195 rfl rfl rfl
/-- WakeTowerModel.holds(I)Z: 196, R -/
theorem kc_196 : mKc 196 = k_X12_holds := rfl
def f_X12_holds (p1 : Int32) (M0 : mM) : Option Bool :=
  b1 (f_X12_isUp p1 M0) (fun v1 => bif v1 then (b1 (f_X12_isAsleep p1 M0) (fun v3 => bif v3 then (some false) else (some true))) else (some false))
set_option maxRecDepth 8000 in
theorem c_X12_holds {p1 : Int32} {M0 : mM} {out : Bool} (h : f_X12_holds p1 M0 = some out) : Cs (3) 196 [.ref 215, .int p1] M0 (emR eB M0 out) := by
  generalize hk : emR eB M0 out = R
  replace hk := hk.symm
  unfold f_X12_holds at h
  show Ev (3) 196 0 [some (.ref 215), some (.int p1)] [] M0 R
  refine ev_go kc_196 2 (i' := 2) (L' := [some (.ref 215), some (.int p1)]) (st' := [.int p1, .ref 215]) (M' := M0) rfl ?_
  obtain ⟨v1, hc1, h⟩ := o_b1 h
  refine ev_cl0 (ins := .invokevirtual 82) kc_196 rfl rfl (a := 194) (as := [.ref 215, .int p1]) (rest := []) rfl rfl (Cs.deep (c_X12_isUp (M0 := M0) hc1) (by decide)) ?_
  rcases o_bif h with ⟨hb2, h⟩ | ⟨hb2, h⟩
  · refine ev_goF kc_196 1 (t := 10) (e := 4) (L' := [some (.ref 215), some (.int p1)]) (st' := []) rfl (mB_e0f hb2) ?_
    refine ev_go kc_196 2 (i' := 6) (L' := [some (.ref 215), some (.int p1)]) (st' := [.int p1, .ref 215]) (M' := M0) rfl ?_
    obtain ⟨v3, hc3, h⟩ := o_b1 h
    refine ev_cl0 (ins := .invokevirtual 86) kc_196 rfl rfl (a := 195) (as := [.ref 215, .int p1]) (rest := []) rfl rfl (Cs.deep (c_X12_isAsleep (M0 := M0) hc3) (by decide)) ?_
    rcases o_bif h with ⟨hb4, h⟩ | ⟨hb4, h⟩
    · refine ev_goT kc_196 1 (t := 10) (e := 8) (L' := [some (.ref 215), some (.int p1)]) (st' := []) rfl (mB_n0t hb4) ?_
      refine ev_go kc_196 1 (i' := 11) (L' := [some (.ref 215), some (.int p1)]) (st' := [.int (0 : Int32)]) (M' := M0) rfl ?_
      obtain rfl := Option.some.inj h
      rw [hk]
      exact ev_ret kc_196 rfl rfl rfl
    · refine ev_goF kc_196 1 (t := 10) (e := 8) (L' := [some (.ref 215), some (.int p1)]) (st' := []) rfl (mB_n0f hb4) ?_
      refine ev_go kc_196 2 (i' := 11) (L' := [some (.ref 215), some (.int p1)]) (st' := [.int (1 : Int32)]) (M' := M0) rfl ?_
      obtain rfl := Option.some.inj h
      rw [hk]
      exact ev_ret kc_196 rfl rfl rfl
  · refine ev_goT kc_196 1 (t := 10) (e := 4) (L' := [some (.ref 215), some (.int p1)]) (st' := []) rfl (mB_e0t hb2) ?_
    refine ev_go kc_196 1 (i' := 11) (L' := [some (.ref 215), some (.int p1)]) (st' := [.int (0 : Int32)]) (M' := M0) rfl ?_
    obtain rfl := Option.some.inj h
    rw [hk]
    exact ev_ret kc_196 rfl rfl rfl
/-- WakeTowerModel.upOnes()I: 197, R -/
theorem kc_197 : mKc 197 = k_X12_upOnes := rfl
def f_X12_upOnes_4 (l1 : Int32) (l2 : Int32) (M0 : mM) : Option (Int32 ⊕ (Int32 × Int32)) :=
  b1 (f_X12_people M0) (fun v1 => bif decide (v1 ≤ l2) then (some (.inl l1)) else (b1 (f_X12_isUp l2 M0) (fun v3 => bif v3 then (some (.inr ((l1 ||| ((1 : Int32) <<< (l2 &&& (31 : Int32)))), (l2 + (1 : Int32))))) else (some (.inr ((l1 ||| (0 : Int32)), (l2 + (1 : Int32))))))))
set_option maxRecDepth 8000 in
theorem e_X12_upOnes_4 {l1 : Int32} {l2 : Int32} {M0 : mM} {R : mZ} {out : (Int32 ⊕ (Int32 × Int32))}  (h : f_X12_upOnes_4 l1 l2 M0 = some out) (hk : (∀ s' : Int32 × Int32, out = .inr s' → Ev (3) 197 4 [some (.ref 215), some (.int s'.1), some (.int s'.2)] [] M0 R) ∧ (∀ e1 : Int32, out = .inl e1 → R = emR eI M0 e1)) : Ev (3) 197 4 [some (.ref 215), some (.int l1), some (.int l2)] [] M0 R := by
  unfold f_X12_upOnes_4 at h
  refine ev_go kc_197 2 (i' := 6) (L' := [some (.ref 215), some (.int l1), some (.int l2)]) (st' := [.ref 215, .int l2]) (M' := M0) rfl ?_
  obtain ⟨v1, hc1, h⟩ := o_b1 h
  refine ev_cl0 (ins := .invokevirtual 71) kc_197 rfl rfl (a := 190) (as := [.ref 215]) (rest := [.int l2]) rfl rfl (Cs.deep (c_X12_people (M0 := M0) hc1) (by decide)) ?_
  rcases o_bif h with ⟨hb2, h⟩ | ⟨hb2, h⟩
  · refine ev_goT kc_197 1 (t := 22) (e := 8) (L' := [some (.ref 215), some (.int l1), some (.int l2)]) (st' := []) rfl hb2 ?_
    refine ev_go kc_197 1 (i' := 23) (L' := [some (.ref 215), some (.int l1), some (.int l2)]) (st' := [.int l1]) (M' := M0) rfl ?_
    obtain rfl := Option.some.inj h
    rw [show _ from (hk.2 _ rfl)]
    exact ev_ret kc_197 rfl rfl rfl
  · refine ev_goF kc_197 1 (t := 22) (e := 8) (L' := [some (.ref 215), some (.int l1), some (.int l2)]) (st' := []) rfl hb2 ?_
    refine ev_go kc_197 3 (i' := 11) (L' := [some (.ref 215), some (.int l1), some (.int l2)]) (st' := [.int l2, .ref 215, .int l1]) (M' := M0) rfl ?_
    obtain ⟨v3, hc3, h⟩ := o_b1 h
    refine ev_cl0 (ins := .invokevirtual 82) kc_197 rfl rfl (a := 194) (as := [.ref 215, .int l2]) (rest := [.int l1]) rfl rfl (Cs.deep (c_X12_isUp (M0 := M0) hc3) (by decide)) ?_
    rcases o_bif h with ⟨hb4, h⟩ | ⟨hb4, h⟩
    · refine ev_goF kc_197 1 (t := 17) (e := 13) (L' := [some (.ref 215), some (.int l1), some (.int l2)]) (st' := [.int l1]) rfl (mB_e0f hb4) ?_
      refine ev_go kc_197 8 (i' := 4) (L' := [some (.ref 215), some (.int (l1 ||| ((1 : Int32) <<< (l2 &&& (31 : Int32))))), some (.int (l2 + (1 : Int32)))]) (st' := []) (M' := M0) rfl ?_
      obtain rfl := Option.some.inj h
      exact Ev.forget (mLe.kp (mLe.kp (mLe.kp mLe.nl))) (hk.1 ((l1 ||| ((1 : Int32) <<< (l2 &&& (31 : Int32)))), (l2 + (1 : Int32))) rfl)
    · refine ev_goT kc_197 1 (t := 17) (e := 13) (L' := [some (.ref 215), some (.int l1), some (.int l2)]) (st' := [.int l1]) rfl (mB_e0t hb4) ?_
      refine ev_go kc_197 5 (i' := 4) (L' := [some (.ref 215), some (.int (l1 ||| (0 : Int32))), some (.int (l2 + (1 : Int32)))]) (st' := []) (M' := M0) rfl ?_
      obtain rfl := Option.some.inj h
      exact Ev.forget (mLe.kp (mLe.kp (mLe.kp mLe.nl))) (hk.1 ((l1 ||| (0 : Int32)), (l2 + (1 : Int32))) rfl)
def f_X12_upOnes_l4 (l1 : Int32) (l2 : Int32) (M0 : mM) : Option Int32 :=
  wh 100000 (fun s : Int32 × Int32 => f_X12_upOnes_4 s.1 s.2 M0) (l1, l2)
theorem e_X12_upOnes_l4 {l1 : Int32} {l2 : Int32} {M0 : mM} {R : mZ} {out : Int32}  (h : f_X12_upOnes_l4 l1 l2 M0 = some out) (hk : R = emR eI M0 out) : Ev (3) 197 4 [some (.ref 215), some (.int l1), some (.int l2)] [] M0 R := by
  unfold f_X12_upOnes_l4 at h
  exact wh_ev (P := fun s : Int32 × Int32 => Ev (3) 197 4 [some (.ref 215), some (.int s.1), some (.int s.2)] [] M0 R) (Q := fun e : Int32 => R = emR eI M0 e) (fun s o hb h1 h2 => e_X12_upOnes_4  hb ⟨h1, h2⟩) 100000 _ _ h hk
def f_X12_upOnes  (M0 : mM) : Option Int32 :=
  f_X12_upOnes_l4 (0 : Int32) (0 : Int32) M0
set_option maxRecDepth 8000 in
theorem c_X12_upOnes  {M0 : mM} {out : Int32} (h : f_X12_upOnes M0 = some out) : Cs (3) 197 [.ref 215] M0 (emR eI M0 out) := by
  generalize hk : emR eI M0 out = R
  replace hk := hk.symm
  unfold f_X12_upOnes at h
  show Ev (3) 197 0 [some (.ref 215), none, none] [] M0 R
  refine ev_go kc_197 4 (i' := 4) (L' := [some (.ref 215), some (.int (0 : Int32)), some (.int (0 : Int32))]) (st' := []) (M' := M0) rfl ?_
  exact Ev.forget (mLe.kp (mLe.kp (mLe.kp mLe.nl))) (e_X12_upOnes_l4  h hk)
/-- WakeTowerModel.holders()I: 198, R -/
theorem kc_198 : mKc 198 = k_X12_holders := rfl
def f_X12_holders_4 (l1 : Int32) (l2 : Int32) (M0 : mM) : Option (Int32 ⊕ (Int32 × Int32)) :=
  b1 (f_X12_people M0) (fun v1 => bif decide (v1 ≤ l2) then (some (.inl l1)) else (b1 (f_X12_holds l2 M0) (fun v3 => bif v3 then (some (.inr ((l1 ||| ((1 : Int32) <<< (l2 &&& (31 : Int32)))), (l2 + (1 : Int32))))) else (some (.inr ((l1 ||| (0 : Int32)), (l2 + (1 : Int32))))))))
set_option maxRecDepth 8000 in
theorem e_X12_holders_4 {l1 : Int32} {l2 : Int32} {M0 : mM} {R : mZ} {out : (Int32 ⊕ (Int32 × Int32))}  (h : f_X12_holders_4 l1 l2 M0 = some out) (hk : (∀ s' : Int32 × Int32, out = .inr s' → Ev (4) 198 4 [some (.ref 215), some (.int s'.1), some (.int s'.2)] [] M0 R) ∧ (∀ e1 : Int32, out = .inl e1 → R = emR eI M0 e1)) : Ev (4) 198 4 [some (.ref 215), some (.int l1), some (.int l2)] [] M0 R := by
  unfold f_X12_holders_4 at h
  refine ev_go kc_198 2 (i' := 6) (L' := [some (.ref 215), some (.int l1), some (.int l2)]) (st' := [.ref 215, .int l2]) (M' := M0) rfl ?_
  obtain ⟨v1, hc1, h⟩ := o_b1 h
  refine ev_cl0 (ins := .invokevirtual 71) kc_198 rfl rfl (a := 190) (as := [.ref 215]) (rest := [.int l2]) rfl rfl (Cs.deep (c_X12_people (M0 := M0) hc1) (by decide)) ?_
  rcases o_bif h with ⟨hb2, h⟩ | ⟨hb2, h⟩
  · refine ev_goT kc_198 1 (t := 22) (e := 8) (L' := [some (.ref 215), some (.int l1), some (.int l2)]) (st' := []) rfl hb2 ?_
    refine ev_go kc_198 1 (i' := 23) (L' := [some (.ref 215), some (.int l1), some (.int l2)]) (st' := [.int l1]) (M' := M0) rfl ?_
    obtain rfl := Option.some.inj h
    rw [show _ from (hk.2 _ rfl)]
    exact ev_ret kc_198 rfl rfl rfl
  · refine ev_goF kc_198 1 (t := 22) (e := 8) (L' := [some (.ref 215), some (.int l1), some (.int l2)]) (st' := []) rfl hb2 ?_
    refine ev_go kc_198 3 (i' := 11) (L' := [some (.ref 215), some (.int l1), some (.int l2)]) (st' := [.int l2, .ref 215, .int l1]) (M' := M0) rfl ?_
    obtain ⟨v3, hc3, h⟩ := o_b1 h
    refine ev_cl0 (ins := .invokevirtual 89) kc_198 rfl rfl (a := 196) (as := [.ref 215, .int l2]) (rest := [.int l1]) rfl rfl (Cs.deep (c_X12_holds (M0 := M0) hc3) (by decide)) ?_
    rcases o_bif h with ⟨hb4, h⟩ | ⟨hb4, h⟩
    · refine ev_goF kc_198 1 (t := 17) (e := 13) (L' := [some (.ref 215), some (.int l1), some (.int l2)]) (st' := [.int l1]) rfl (mB_e0f hb4) ?_
      refine ev_go kc_198 8 (i' := 4) (L' := [some (.ref 215), some (.int (l1 ||| ((1 : Int32) <<< (l2 &&& (31 : Int32))))), some (.int (l2 + (1 : Int32)))]) (st' := []) (M' := M0) rfl ?_
      obtain rfl := Option.some.inj h
      exact Ev.forget (mLe.kp (mLe.kp (mLe.kp mLe.nl))) (hk.1 ((l1 ||| ((1 : Int32) <<< (l2 &&& (31 : Int32)))), (l2 + (1 : Int32))) rfl)
    · refine ev_goT kc_198 1 (t := 17) (e := 13) (L' := [some (.ref 215), some (.int l1), some (.int l2)]) (st' := [.int l1]) rfl (mB_e0t hb4) ?_
      refine ev_go kc_198 5 (i' := 4) (L' := [some (.ref 215), some (.int (l1 ||| (0 : Int32))), some (.int (l2 + (1 : Int32)))]) (st' := []) (M' := M0) rfl ?_
      obtain rfl := Option.some.inj h
      exact Ev.forget (mLe.kp (mLe.kp (mLe.kp mLe.nl))) (hk.1 ((l1 ||| (0 : Int32)), (l2 + (1 : Int32))) rfl)
def f_X12_holders_l4 (l1 : Int32) (l2 : Int32) (M0 : mM) : Option Int32 :=
  wh 100000 (fun s : Int32 × Int32 => f_X12_holders_4 s.1 s.2 M0) (l1, l2)
theorem e_X12_holders_l4 {l1 : Int32} {l2 : Int32} {M0 : mM} {R : mZ} {out : Int32}  (h : f_X12_holders_l4 l1 l2 M0 = some out) (hk : R = emR eI M0 out) : Ev (4) 198 4 [some (.ref 215), some (.int l1), some (.int l2)] [] M0 R := by
  unfold f_X12_holders_l4 at h
  exact wh_ev (P := fun s : Int32 × Int32 => Ev (4) 198 4 [some (.ref 215), some (.int s.1), some (.int s.2)] [] M0 R) (Q := fun e : Int32 => R = emR eI M0 e) (fun s o hb h1 h2 => e_X12_holders_4  hb ⟨h1, h2⟩) 100000 _ _ h hk
def f_X12_holders  (M0 : mM) : Option Int32 :=
  f_X12_holders_l4 (0 : Int32) (0 : Int32) M0
set_option maxRecDepth 8000 in
theorem c_X12_holders  {M0 : mM} {out : Int32} (h : f_X12_holders M0 = some out) : Cs (4) 198 [.ref 215] M0 (emR eI M0 out) := by
  generalize hk : emR eI M0 out = R
  replace hk := hk.symm
  unfold f_X12_holders at h
  show Ev (4) 198 0 [some (.ref 215), none, none] [] M0 R
  refine ev_go kc_198 4 (i' := 4) (L' := [some (.ref 215), some (.int (0 : Int32)), some (.int (0 : Int32))]) (st' := []) (M' := M0) rfl ?_
  exact Ev.forget (mLe.kp (mLe.kp (mLe.kp mLe.nl))) (e_X12_holders_l4  h hk)
/-- WakeTowerModel.asleepOnes()I: 199, R -/
theorem kc_199 : mKc 199 = k_X12_asleepOnes := rfl
def f_X12_asleepOnes_4 (l1 : Int32) (l2 : Int32) (M0 : mM) : Option (Int32 ⊕ (Int32 × Int32)) :=
  b1 (f_X12_people M0) (fun v1 => bif decide (v1 ≤ l2) then (some (.inl l1)) else (b1 (f_X12_isAsleep l2 M0) (fun v3 => bif v3 then (some (.inr ((l1 ||| ((1 : Int32) <<< (l2 &&& (31 : Int32)))), (l2 + (1 : Int32))))) else (some (.inr ((l1 ||| (0 : Int32)), (l2 + (1 : Int32))))))))
set_option maxRecDepth 8000 in
theorem e_X12_asleepOnes_4 {l1 : Int32} {l2 : Int32} {M0 : mM} {R : mZ} {out : (Int32 ⊕ (Int32 × Int32))}  (h : f_X12_asleepOnes_4 l1 l2 M0 = some out) (hk : (∀ s' : Int32 × Int32, out = .inr s' → Ev (3) 199 4 [some (.ref 215), some (.int s'.1), some (.int s'.2)] [] M0 R) ∧ (∀ e1 : Int32, out = .inl e1 → R = emR eI M0 e1)) : Ev (3) 199 4 [some (.ref 215), some (.int l1), some (.int l2)] [] M0 R := by
  unfold f_X12_asleepOnes_4 at h
  refine ev_go kc_199 2 (i' := 6) (L' := [some (.ref 215), some (.int l1), some (.int l2)]) (st' := [.ref 215, .int l2]) (M' := M0) rfl ?_
  obtain ⟨v1, hc1, h⟩ := o_b1 h
  refine ev_cl0 (ins := .invokevirtual 71) kc_199 rfl rfl (a := 190) (as := [.ref 215]) (rest := [.int l2]) rfl rfl (Cs.deep (c_X12_people (M0 := M0) hc1) (by decide)) ?_
  rcases o_bif h with ⟨hb2, h⟩ | ⟨hb2, h⟩
  · refine ev_goT kc_199 1 (t := 22) (e := 8) (L' := [some (.ref 215), some (.int l1), some (.int l2)]) (st' := []) rfl hb2 ?_
    refine ev_go kc_199 1 (i' := 23) (L' := [some (.ref 215), some (.int l1), some (.int l2)]) (st' := [.int l1]) (M' := M0) rfl ?_
    obtain rfl := Option.some.inj h
    rw [show _ from (hk.2 _ rfl)]
    exact ev_ret kc_199 rfl rfl rfl
  · refine ev_goF kc_199 1 (t := 22) (e := 8) (L' := [some (.ref 215), some (.int l1), some (.int l2)]) (st' := []) rfl hb2 ?_
    refine ev_go kc_199 3 (i' := 11) (L' := [some (.ref 215), some (.int l1), some (.int l2)]) (st' := [.int l2, .ref 215, .int l1]) (M' := M0) rfl ?_
    obtain ⟨v3, hc3, h⟩ := o_b1 h
    refine ev_cl0 (ins := .invokevirtual 86) kc_199 rfl rfl (a := 195) (as := [.ref 215, .int l2]) (rest := [.int l1]) rfl rfl (Cs.deep (c_X12_isAsleep (M0 := M0) hc3) (by decide)) ?_
    rcases o_bif h with ⟨hb4, h⟩ | ⟨hb4, h⟩
    · refine ev_goF kc_199 1 (t := 17) (e := 13) (L' := [some (.ref 215), some (.int l1), some (.int l2)]) (st' := [.int l1]) rfl (mB_e0f hb4) ?_
      refine ev_go kc_199 8 (i' := 4) (L' := [some (.ref 215), some (.int (l1 ||| ((1 : Int32) <<< (l2 &&& (31 : Int32))))), some (.int (l2 + (1 : Int32)))]) (st' := []) (M' := M0) rfl ?_
      obtain rfl := Option.some.inj h
      exact Ev.forget (mLe.kp (mLe.kp (mLe.kp mLe.nl))) (hk.1 ((l1 ||| ((1 : Int32) <<< (l2 &&& (31 : Int32)))), (l2 + (1 : Int32))) rfl)
    · refine ev_goT kc_199 1 (t := 17) (e := 13) (L' := [some (.ref 215), some (.int l1), some (.int l2)]) (st' := [.int l1]) rfl (mB_e0t hb4) ?_
      refine ev_go kc_199 5 (i' := 4) (L' := [some (.ref 215), some (.int (l1 ||| (0 : Int32))), some (.int (l2 + (1 : Int32)))]) (st' := []) (M' := M0) rfl ?_
      obtain rfl := Option.some.inj h
      exact Ev.forget (mLe.kp (mLe.kp (mLe.kp mLe.nl))) (hk.1 ((l1 ||| (0 : Int32)), (l2 + (1 : Int32))) rfl)
def f_X12_asleepOnes_l4 (l1 : Int32) (l2 : Int32) (M0 : mM) : Option Int32 :=
  wh 100000 (fun s : Int32 × Int32 => f_X12_asleepOnes_4 s.1 s.2 M0) (l1, l2)
theorem e_X12_asleepOnes_l4 {l1 : Int32} {l2 : Int32} {M0 : mM} {R : mZ} {out : Int32}  (h : f_X12_asleepOnes_l4 l1 l2 M0 = some out) (hk : R = emR eI M0 out) : Ev (3) 199 4 [some (.ref 215), some (.int l1), some (.int l2)] [] M0 R := by
  unfold f_X12_asleepOnes_l4 at h
  exact wh_ev (P := fun s : Int32 × Int32 => Ev (3) 199 4 [some (.ref 215), some (.int s.1), some (.int s.2)] [] M0 R) (Q := fun e : Int32 => R = emR eI M0 e) (fun s o hb h1 h2 => e_X12_asleepOnes_4  hb ⟨h1, h2⟩) 100000 _ _ h hk
def f_X12_asleepOnes  (M0 : mM) : Option Int32 :=
  f_X12_asleepOnes_l4 (0 : Int32) (0 : Int32) M0
set_option maxRecDepth 8000 in
theorem c_X12_asleepOnes  {M0 : mM} {out : Int32} (h : f_X12_asleepOnes M0 = some out) : Cs (3) 199 [.ref 215] M0 (emR eI M0 out) := by
  generalize hk : emR eI M0 out = R
  replace hk := hk.symm
  unfold f_X12_asleepOnes at h
  show Ev (3) 199 0 [some (.ref 215), none, none] [] M0 R
  refine ev_go kc_199 4 (i' := 4) (L' := [some (.ref 215), some (.int (0 : Int32)), some (.int (0 : Int32))]) (st' := []) (M' := M0) rfl ?_
  exact Ev.forget (mLe.kp (mLe.kp (mLe.kp mLe.nl))) (e_X12_asleepOnes_l4  h hk)
/-- WakeTowerModel.those(I)I: 200, R -/
theorem kc_200 : mKc 200 = k_X12_those := rfl
def f_X12_those_4 (l1 : Int32) (l2 : Int32) (l3 : Int32) (M0 : mM) : Option (Int32 ⊕ (Int32 × Int32)) :=
  b1 (f_X12_people M0) (fun v1 => bif decide (v1 ≤ l3) then (some (.inl l2)) else (b1 (f_X12_of l3 (5 : Int32) M0) (fun v3 => bif decide (¬ v3 = l1) then (some (.inr ((l2 ||| (0 : Int32)), (l3 + (1 : Int32))))) else (some (.inr ((l2 ||| ((1 : Int32) <<< (l3 &&& (31 : Int32)))), (l3 + (1 : Int32))))))))
set_option maxRecDepth 8000 in
theorem e_X12_those_4 {l1 : Int32} {l2 : Int32} {l3 : Int32} {M0 : mM} {R : mZ} {out : (Int32 ⊕ (Int32 × Int32))}  (h : f_X12_those_4 l1 l2 l3 M0 = some out) (hk : (∀ s' : Int32 × Int32, out = .inr s' → Ev (2) 200 4 [some (.ref 215), some (.int l1), some (.int s'.1), some (.int s'.2)] [] M0 R) ∧ (∀ e1 : Int32, out = .inl e1 → R = emR eI M0 e1)) : Ev (2) 200 4 [some (.ref 215), some (.int l1), some (.int l2), some (.int l3)] [] M0 R := by
  unfold f_X12_those_4 at h
  refine ev_go kc_200 2 (i' := 6) (L' := [some (.ref 215), some (.int l1), some (.int l2), some (.int l3)]) (st' := [.ref 215, .int l3]) (M' := M0) rfl ?_
  obtain ⟨v1, hc1, h⟩ := o_b1 h
  refine ev_cl0 (ins := .invokevirtual 71) kc_200 rfl rfl (a := 190) (as := [.ref 215]) (rest := [.int l3]) rfl rfl (Cs.deep (c_X12_people (M0 := M0) hc1) (by decide)) ?_
  rcases o_bif h with ⟨hb2, h⟩ | ⟨hb2, h⟩
  · refine ev_goT kc_200 1 (t := 24) (e := 8) (L' := [some (.ref 215), some (.int l1), some (.int l2), some (.int l3)]) (st' := []) rfl hb2 ?_
    refine ev_go kc_200 1 (i' := 25) (L' := [some (.ref 215), some (.int l1), some (.int l2), some (.int l3)]) (st' := [.int l2]) (M' := M0) rfl ?_
    obtain rfl := Option.some.inj h
    rw [show _ from (hk.2 _ rfl)]
    exact ev_ret kc_200 rfl rfl rfl
  · refine ev_goF kc_200 1 (t := 24) (e := 8) (L' := [some (.ref 215), some (.int l1), some (.int l2), some (.int l3)]) (st' := []) rfl hb2 ?_
    refine ev_go kc_200 4 (i' := 12) (L' := [some (.ref 215), some (.int l1), some (.int l2), some (.int l3)]) (st' := [.int (5 : Int32), .int l3, .ref 215, .int l2]) (M' := M0) rfl ?_
    obtain ⟨v3, hc3, h⟩ := o_b1 h
    refine ev_cl0 (ins := .invokevirtual 79) kc_200 rfl rfl (a := 193) (as := [.ref 215, .int l3, .int (5 : Int32)]) (rest := [.int l2]) rfl rfl (Cs.deep (c_X12_of (M0 := M0) hc3) (by decide)) ?_
    rcases o_bif h with ⟨hb4, h⟩ | ⟨hb4, h⟩
    · refine ev_goT kc_200 2 (t := 19) (e := 15) (L' := [some (.ref 215), some (.int l1), some (.int l2), some (.int l3)]) (st' := [.int l2]) rfl hb4 ?_
      refine ev_go kc_200 5 (i' := 4) (L' := [some (.ref 215), some (.int l1), some (.int (l2 ||| (0 : Int32))), some (.int (l3 + (1 : Int32)))]) (st' := []) (M' := M0) rfl ?_
      obtain rfl := Option.some.inj h
      exact Ev.forget (mLe.kp (mLe.kp (mLe.kp (mLe.kp mLe.nl)))) (hk.1 ((l2 ||| (0 : Int32)), (l3 + (1 : Int32))) rfl)
    · refine ev_goF kc_200 2 (t := 19) (e := 15) (L' := [some (.ref 215), some (.int l1), some (.int l2), some (.int l3)]) (st' := [.int l2]) rfl hb4 ?_
      refine ev_go kc_200 8 (i' := 4) (L' := [some (.ref 215), some (.int l1), some (.int (l2 ||| ((1 : Int32) <<< (l3 &&& (31 : Int32))))), some (.int (l3 + (1 : Int32)))]) (st' := []) (M' := M0) rfl ?_
      obtain rfl := Option.some.inj h
      exact Ev.forget (mLe.kp (mLe.kp (mLe.kp (mLe.kp mLe.nl)))) (hk.1 ((l2 ||| ((1 : Int32) <<< (l3 &&& (31 : Int32)))), (l3 + (1 : Int32))) rfl)
def f_X12_those_l4 (l1 : Int32) (l2 : Int32) (l3 : Int32) (M0 : mM) : Option Int32 :=
  wh 100000 (fun s : Int32 × Int32 => f_X12_those_4 l1 s.1 s.2 M0) (l2, l3)
theorem e_X12_those_l4 {l1 : Int32} {l2 : Int32} {l3 : Int32} {M0 : mM} {R : mZ} {out : Int32}  (h : f_X12_those_l4 l1 l2 l3 M0 = some out) (hk : R = emR eI M0 out) : Ev (2) 200 4 [some (.ref 215), some (.int l1), some (.int l2), some (.int l3)] [] M0 R := by
  unfold f_X12_those_l4 at h
  exact wh_ev (P := fun s : Int32 × Int32 => Ev (2) 200 4 [some (.ref 215), some (.int l1), some (.int s.1), some (.int s.2)] [] M0 R) (Q := fun e : Int32 => R = emR eI M0 e) (fun s o hb h1 h2 => e_X12_those_4  hb ⟨h1, h2⟩) 100000 _ _ h hk
def f_X12_those (p1 : Int32) (M0 : mM) : Option Int32 :=
  f_X12_those_l4 p1 (0 : Int32) (0 : Int32) M0
set_option maxRecDepth 8000 in
theorem c_X12_those {p1 : Int32} {M0 : mM} {out : Int32} (h : f_X12_those p1 M0 = some out) : Cs (2) 200 [.ref 215, .int p1] M0 (emR eI M0 out) := by
  generalize hk : emR eI M0 out = R
  replace hk := hk.symm
  unfold f_X12_those at h
  show Ev (2) 200 0 [some (.ref 215), some (.int p1), none, none] [] M0 R
  refine ev_go kc_200 4 (i' := 4) (L' := [some (.ref 215), some (.int p1), some (.int (0 : Int32)), some (.int (0 : Int32))]) (st' := []) (M' := M0) rfl ?_
  exact Ev.forget (mLe.kp (mLe.kp (mLe.kp (mLe.kp mLe.nl)))) (e_X12_those_l4  h hk)
/-- WakeTowerModel.nobody(I)Z: 201, R -/
theorem kc_201 : mKc 201 = k_X12_nobody := rfl
def f_X12_nobody (p1 : Int32) (M0 : mM) : Option Bool :=
  b1 (f_X12_people M0) (fun v1 => bif (f_X12_in p1 (0 : Int32) (v1 - (1 : Int32))) then (some false) else (some true))
set_option maxRecDepth 8000 in
theorem c_X12_nobody {p1 : Int32} {M0 : mM} {out : Bool} (h : f_X12_nobody p1 M0 = some out) : Cs (1) 201 [.ref 215, .int p1] M0 (emR eB M0 out) := by
  generalize hk : emR eB M0 out = R
  replace hk := hk.symm
  unfold f_X12_nobody at h
  show Ev (1) 201 0 [some (.ref 215), some (.int p1)] [] M0 R
  refine ev_go kc_201 3 (i' := 3) (L' := [some (.ref 215), some (.int p1)]) (st' := [.ref 215, .int (0 : Int32), .int p1]) (M' := M0) rfl ?_
  obtain ⟨v1, hc1, h⟩ := o_b1 h
  refine ev_cl0 (ins := .invokevirtual 71) kc_201 rfl rfl (a := 190) (as := [.ref 215]) (rest := [.int (0 : Int32), .int p1]) rfl rfl (Cs.deep (c_X12_people (M0 := M0) hc1) (by decide)) ?_
  refine ev_go kc_201 2 (i' := 6) (L' := [some (.ref 215), some (.int p1)]) (st' := [.int (v1 - (1 : Int32)), .int (0 : Int32), .int p1]) (M' := M0) rfl ?_
  refine ev_cl0 (ins := .invokestatic 92) kc_201 rfl rfl (a := 182) (as := [.int p1, .int (0 : Int32), .int (v1 - (1 : Int32))]) (rest := []) rfl rfl (Cs.deep (c_X12_in (M0 := M0)) (by decide)) ?_
  rcases o_bif h with ⟨hb3, h⟩ | ⟨hb3, h⟩
  · refine ev_goT kc_201 1 (t := 10) (e := 8) (L' := [some (.ref 215), some (.int p1)]) (st' := []) rfl (mB_n0t hb3) ?_
    refine ev_go kc_201 1 (i' := 11) (L' := [some (.ref 215), some (.int p1)]) (st' := [.int (0 : Int32)]) (M' := M0) rfl ?_
    obtain rfl := Option.some.inj h
    rw [hk]
    exact ev_ret kc_201 rfl rfl rfl
  · refine ev_goF kc_201 1 (t := 10) (e := 8) (L' := [some (.ref 215), some (.int p1)]) (st' := []) rfl (mB_n0f hb3) ?_
    refine ev_go kc_201 2 (i' := 11) (L' := [some (.ref 215), some (.int p1)]) (st' := [.int (1 : Int32)]) (M' := M0) rfl ?_
    obtain rfl := Option.some.inj h
    rw [hk]
    exact ev_ret kc_201 rfl rfl rfl
/-- WakeTowerModel.drawn(I)I: 202, W -/
theorem kc_202 : mKc 202 = k_X12_drawn := rfl
def f_X12_drawn (p1 : Int32) (M0 : mM) : Option (Int32 × mM) :=
  wr (mst M0 216 (ix (7 : Int32)) (((1103515245 : Int32) * (M0 216 (ix (7 : Int32)))) + (12345 : Int32))) (fun M1 => gd (decide (¬ p1 = 0)) (some ((rmd (((M1 216 (ix (7 : Int32))) >>> ((16 : Int32) &&& (31 : Int32))) &&& (32767 : Int32)) p1), M1)))
set_option maxRecDepth 8000 in
theorem c_X12_drawn {p1 : Int32} {M0 : mM} {out : (Int32 × mM)} (h : f_X12_drawn p1 M0 = some out) : Cs (0) 202 [.ref 215, .int p1] M0 (emW eI out) := by
  generalize hk : emW eI out = R
  replace hk := hk.symm
  unfold f_X12_drawn at h
  show Ev (0) 202 0 [some (.ref 215), some (.int p1)] [] M0 R
  refine ev_go kc_202 7 (i' := 7) (L' := [some (.ref 215), some (.int p1)]) (st' := [.int (7 : Int32), .ref 216, .int (1103515245 : Int32), .int (7 : Int32), .ref 216]) (M' := M0) rfl ?_
  refine ev_ia kc_202 rfl rfl rfl ?_
  refine ev_go kc_202 3 (i' := 11) (L' := [some (.ref 215), some (.int p1)]) (st' := [.int (((1103515245 : Int32) * (M0 216 (ix (7 : Int32)))) + (12345 : Int32)), .int (7 : Int32), .ref 216]) (M' := M0) rfl ?_
  obtain ⟨M1, hM1, h⟩ := o_wr h
  refine ev_is kc_202 rfl rfl rfl hM1 ?_
  refine ev_go kc_202 3 (i' := 15) (L' := [some (.ref 215), some (.int p1)]) (st' := [.int (7 : Int32), .ref 216]) (M' := M1) rfl ?_
  refine ev_ia kc_202 rfl rfl rfl ?_
  refine ev_go kc_202 5 (i' := 21) (L' := [some (.ref 215), some (.int p1)]) (st' := [.int p1, .int (((M1 216 (ix (7 : Int32))) >>> ((16 : Int32) &&& (31 : Int32))) &&& (32767 : Int32))]) (M' := M1) rfl ?_
  obtain ⟨hg2, h⟩ := o_gd h
  refine ev_rm kc_202 rfl hg2 ?_
  obtain rfl := Option.some.inj h
  rw [hk]
  exact ev_ret kc_202 rfl rfl rfl
/-- WakeTowerModel.shares(I)V: 203, W -/
theorem kc_203 : mKc 203 = k_X12_shares := rfl
def f_X12_shares_52 (l2 : Int32) (l3 : Int32) (l4 : Int32) (l5 : Int32) (l6 : Int32) (s1 : Int32) (s2 : Int32) (s3 : Int32) (s4 : Bool) (M0 : mM) : Option ((Unit × mM) ⊕ (Int32 × Int32 × mM)) :=
  gd (mIn s1 8) (wr (mst M0 221 (ix s1) (s2 + (s3 + (mB s4)))) (fun M1 => some (.inr ((l5 + (-1 : Int32)), (l6 + (1 : Int32)), M1))))
set_option maxRecDepth 8000 in
theorem e_X12_shares_52 {l2 : Int32} {l3 : Int32} {l4 : Int32} {l5 : Int32} {l6 : Int32} {s1 : Int32} {s2 : Int32} {s3 : Int32} {s4 : Bool} {M0 : mM} {R : mZ} {out : ((Unit × mM) ⊕ (Int32 × Int32 × mM))}  (h : f_X12_shares_52 l2 l3 l4 l5 l6 s1 s2 s3 s4 M0 = some out) (hk : (∀ s' : Int32 × Int32 × mM, out = .inr s' → Ev (5) 203 30 [some (.ref 215), none, some (.int l2), some (.int l3), some (.int l4), some (.int s'.1), some (.int s'.2.1)] [] (s'.2.2) R) ∧ (∀ e1 : (Unit × mM), out = .inl e1 → R = emW eU e1)) : Ev (5) 203 52 [some (.ref 215), none, some (.int l2), some (.int l3), some (.int l4), some (.int l5), some (.int l6)] [.int (mB s4), .int s3, .int s2, .int s1, .ref 221] M0 R := by
  unfold f_X12_shares_52 at h
  refine ev_go kc_203 2 (i' := 54) (L' := [some (.ref 215), none, some (.int l2), some (.int l3), some (.int l4), some (.int l5), some (.int l6)]) (st' := [.int (s2 + (s3 + (mB s4))), .int s1, .ref 221]) (M' := M0) rfl ?_
  obtain ⟨hg2, h⟩ := o_gd h
  obtain ⟨M1, hM1, h⟩ := o_wr h
  refine ev_is kc_203 rfl rfl hg2 hM1 ?_
  refine ev_go kc_203 3 (i' := 30) (L' := [some (.ref 215), none, some (.int l2), some (.int l3), some (.int l4), some (.int (l5 + (-1 : Int32))), some (.int (l6 + (1 : Int32)))]) (st' := []) (M' := M1) rfl ?_
  obtain rfl := Option.some.inj h
  exact Ev.forget (mLe.kp (mLe.sk (mLe.kp (mLe.kp (mLe.kp (mLe.kp (mLe.kp mLe.nl))))))) (hk.1 ((l5 + (-1 : Int32)), (l6 + (1 : Int32)), M1) rfl)
def f_X12_shares_30 (l2 : Int32) (l3 : Int32) (l4 : Int32) (l5 : Int32) (l6 : Int32) (M0 : mM) : Option ((Unit × mM) ⊕ (Int32 × Int32 × mM)) :=
  b1 (f_X12_people M0) (fun v3 => bif decide (v3 ≤ l6) then (some (.inl ((), M0))) else (bif (f_X12_has l2 l6) then (gd (mIn l6 8) (gd (decide (¬ l3 = 0)) (bif decide (l5 ≤ 0) then (f_X12_shares_52 l2 l3 l4 l5 l6 l6 (M0 221 (ix l6)) (l4 / l3) false M0) else (f_X12_shares_52 l2 l3 l4 l5 l6 l6 (M0 221 (ix l6)) (l4 / l3) true M0)))) else (some (.inr (l5, (l6 + (1 : Int32)), M0)))))
set_option maxRecDepth 8000 in
theorem e_X12_shares_30 {l2 : Int32} {l3 : Int32} {l4 : Int32} {l5 : Int32} {l6 : Int32} {M0 : mM} {R : mZ} {out : ((Unit × mM) ⊕ (Int32 × Int32 × mM))}  (h : f_X12_shares_30 l2 l3 l4 l5 l6 M0 = some out) (hk : (∀ s' : Int32 × Int32 × mM, out = .inr s' → Ev (5) 203 30 [some (.ref 215), none, some (.int l2), some (.int l3), some (.int l4), some (.int s'.1), some (.int s'.2.1)] [] (s'.2.2) R) ∧ (∀ e1 : (Unit × mM), out = .inl e1 → R = emW eU e1)) : Ev (5) 203 30 [some (.ref 215), none, some (.int l2), some (.int l3), some (.int l4), some (.int l5), some (.int l6)] [] M0 R := by
  unfold f_X12_shares_30 at h
  refine ev_go kc_203 2 (i' := 32) (L' := [some (.ref 215), none, some (.int l2), some (.int l3), some (.int l4), some (.int l5), some (.int l6)]) (st' := [.ref 215, .int l6]) (M' := M0) rfl ?_
  obtain ⟨v3, hc3, h⟩ := o_b1 h
  refine ev_cl0 (ins := .invokevirtual 71) kc_203 rfl rfl (a := 190) (as := [.ref 215]) (rest := [.int l6]) rfl rfl (Cs.deep (c_X12_people (M0 := M0) hc3) (by decide)) ?_
  rcases o_bif h with ⟨hb4, h⟩ | ⟨hb4, h⟩
  · refine ev_goT kc_203 1 (t := 58) (e := 34) (L' := [some (.ref 215), none, some (.int l2), some (.int l3), some (.int l4), some (.int l5), some (.int l6)]) (st' := []) rfl hb4 ?_
    obtain rfl := Option.some.inj h
    rw [show _ from (hk.2 _ rfl)]
    exact ev_vret kc_203 rfl rfl rfl
  · refine ev_goF kc_203 1 (t := 58) (e := 34) (L' := [some (.ref 215), none, some (.int l2), some (.int l3), some (.int l4), some (.int l5), some (.int l6)]) (st' := []) rfl hb4 ?_
    refine ev_go kc_203 2 (i' := 36) (L' := [some (.ref 215), none, some (.int l2), some (.int l3), some (.int l4), some (.int l5), some (.int l6)]) (st' := [.int l6, .int l2]) (M' := M0) rfl ?_
    refine ev_cl0 (ins := .invokestatic 106) kc_203 rfl rfl (a := 183) (as := [.int l2, .int l6]) (rest := []) rfl rfl (Cs.deep (c_X12_has (M0 := M0)) (by decide)) ?_
    rcases o_bif h with ⟨hb6, h⟩ | ⟨hb6, h⟩
    · refine ev_goT kc_203 1 (t := 39) (e := 38) (L' := [some (.ref 215), none, some (.int l2), some (.int l3), some (.int l4), some (.int l5), some (.int l6)]) (st' := []) rfl (mB_n0t hb6) ?_
      refine ev_go kc_203 4 (i' := 43) (L' := [some (.ref 215), none, some (.int l2), some (.int l3), some (.int l4), some (.int l5), some (.int l6)]) (st' := [.int l6, .ref 221, .int l6, .ref 221]) (M' := M0) rfl ?_
      obtain ⟨hg7, h⟩ := o_gd h
      refine ev_ia kc_203 rfl rfl hg7 ?_
      refine ev_go kc_203 2 (i' := 46) (L' := [some (.ref 215), none, some (.int l2), some (.int l3), some (.int l4), some (.int l5), some (.int l6)]) (st' := [.int l3, .int l4, .int (M0 221 (ix l6)), .int l6, .ref 221]) (M' := M0) rfl ?_
      obtain ⟨hg8, h⟩ := o_gd h
      refine ev_dv kc_203 rfl hg8 ?_
      rcases o_bif h with ⟨hb9, h⟩ | ⟨hb9, h⟩
      · refine ev_goT kc_203 2 (t := 51) (e := 49) (L' := [some (.ref 215), none, some (.int l2), some (.int l3), some (.int l4), some (.int l5), some (.int l6)]) (st' := [.int (l4 / l3), .int (M0 221 (ix l6)), .int l6, .ref 221]) rfl hb9 ?_
        refine ev_go kc_203 1 (i' := 52) (L' := [some (.ref 215), none, some (.int l2), some (.int l3), some (.int l4), some (.int l5), some (.int l6)]) (st' := [.int (0 : Int32), .int (l4 / l3), .int (M0 221 (ix l6)), .int l6, .ref 221]) (M' := M0) rfl ?_
        exact Ev.forget (mLe.kp (mLe.sk (mLe.kp (mLe.kp (mLe.kp (mLe.kp (mLe.kp mLe.nl))))))) (e_X12_shares_52  h hk)
      · refine ev_goF kc_203 2 (t := 51) (e := 49) (L' := [some (.ref 215), none, some (.int l2), some (.int l3), some (.int l4), some (.int l5), some (.int l6)]) (st' := [.int (l4 / l3), .int (M0 221 (ix l6)), .int l6, .ref 221]) rfl hb9 ?_
        refine ev_go kc_203 2 (i' := 52) (L' := [some (.ref 215), none, some (.int l2), some (.int l3), some (.int l4), some (.int l5), some (.int l6)]) (st' := [.int (1 : Int32), .int (l4 / l3), .int (M0 221 (ix l6)), .int l6, .ref 221]) (M' := M0) rfl ?_
        exact Ev.forget (mLe.kp (mLe.sk (mLe.kp (mLe.kp (mLe.kp (mLe.kp (mLe.kp mLe.nl))))))) (e_X12_shares_52  h hk)
    · refine ev_goF kc_203 1 (t := 39) (e := 38) (L' := [some (.ref 215), none, some (.int l2), some (.int l3), some (.int l4), some (.int l5), some (.int l6)]) (st' := []) rfl (mB_n0f hb6) ?_
      refine ev_go kc_203 3 (i' := 30) (L' := [some (.ref 215), none, some (.int l2), some (.int l3), some (.int l4), some (.int l5), some (.int (l6 + (1 : Int32)))]) (st' := []) (M' := M0) rfl ?_
      obtain rfl := Option.some.inj h
      exact Ev.forget (mLe.kp (mLe.sk (mLe.kp (mLe.kp (mLe.kp (mLe.kp (mLe.kp mLe.nl))))))) (hk.1 (l5, (l6 + (1 : Int32)), M0) rfl)
def f_X12_shares_l30 (l2 : Int32) (l3 : Int32) (l4 : Int32) (l5 : Int32) (l6 : Int32) (M0 : mM) : Option (Unit × mM) :=
  wh 100000 (fun s : Int32 × Int32 × mM => f_X12_shares_30 l2 l3 l4 s.1 s.2.1 s.2.2) (l5, l6, M0)
theorem e_X12_shares_l30 {l2 : Int32} {l3 : Int32} {l4 : Int32} {l5 : Int32} {l6 : Int32} {M0 : mM} {R : mZ} {out : (Unit × mM)}  (h : f_X12_shares_l30 l2 l3 l4 l5 l6 M0 = some out) (hk : R = emW eU out) : Ev (5) 203 30 [some (.ref 215), none, some (.int l2), some (.int l3), some (.int l4), some (.int l5), some (.int l6)] [] M0 R := by
  unfold f_X12_shares_l30 at h
  exact wh_ev (P := fun s : Int32 × Int32 × mM => Ev (5) 203 30 [some (.ref 215), none, some (.int l2), some (.int l3), some (.int l4), some (.int s.1), some (.int s.2.1)] [] s.2.2 R) (Q := fun e : (Unit × mM) => R = emW eU e) (fun s o hb h1 h2 => e_X12_shares_30  hb ⟨h1, h2⟩) 100000 _ _ h hk
def f_X12_shares (p1 : Int32) (M0 : mM) : Option (Unit × mM) :=
  b1 (f_X12_of p1 (6 : Int32) M0) (fun v10 => b1 (f_X12_holders M0) (fun v11 => bif decide (¬ (f_J6_bitCount_0f7a4 (v10 &&& v11)) = 0) then (b1 (f_X12_of p1 (0 : Int32) M0) (fun v14 => gd (mIn p1 8) (gd (decide (¬ (f_J6_bitCount_0f7a4 (v10 &&& v11)) = 0)) (f_X12_shares_l30 (v10 &&& v11) (f_J6_bitCount_0f7a4 (v10 &&& v11)) (v14 + (M0 221 (ix p1))) (rmd (v14 + (M0 221 (ix p1))) (f_J6_bitCount_0f7a4 (v10 &&& v11))) (0 : Int32) M0)))) else (some ((), M0))))
set_option maxRecDepth 8000 in
theorem c_X12_shares {p1 : Int32} {M0 : mM} {out : (Unit × mM)} (h : f_X12_shares p1 M0 = some out) : Cs (5) 203 [.ref 215, .int p1] M0 (emW eU out) := by
  generalize hk : emW eU out = R
  replace hk := hk.symm
  unfold f_X12_shares at h
  show Ev (5) 203 0 [some (.ref 215), some (.int p1), none, none, none, none, none] [] M0 R
  refine ev_go kc_203 3 (i' := 3) (L' := [some (.ref 215), some (.int p1), none, none, none, none, none]) (st' := [.int (6 : Int32), .int p1, .ref 215]) (M' := M0) rfl ?_
  obtain ⟨v10, hc10, h⟩ := o_b1 h
  refine ev_cl0 (ins := .invokevirtual 79) kc_203 rfl rfl (a := 193) (as := [.ref 215, .int p1, .int (6 : Int32)]) (rest := []) rfl rfl (Cs.deep (c_X12_of (M0 := M0) hc10) (by decide)) ?_
  refine ev_go kc_203 1 (i' := 5) (L' := [some (.ref 215), some (.int p1), none, none, none, none, none]) (st' := [.ref 215, .int v10]) (M' := M0) rfl ?_
  obtain ⟨v11, hc11, h⟩ := o_b1 h
  refine ev_cl0 (ins := .invokevirtual 97) kc_203 rfl rfl (a := 198) (as := [.ref 215]) (rest := [.int v10]) rfl rfl (Cs.deep (c_X12_holders (M0 := M0) hc11) (by decide)) ?_
  refine ev_go kc_203 3 (i' := 9) (L' := [some (.ref 215), some (.int p1), some (.int (v10 &&& v11)), none, none, none, none]) (st' := [.int (v10 &&& v11)]) (M' := M0) rfl ?_
  refine ev_cl0 (ins := .invokestatic 100) kc_203 rfl rfl (a := 10) (as := [.int (v10 &&& v11)]) (rest := []) rfl rfl (Cs.deep (c_J6_bitCount_0f7a4 (M0 := M0)) (by decide)) ?_
  rcases o_bif h with ⟨hb13, h⟩ | ⟨hb13, h⟩
  · refine ev_goT kc_203 3 (t := 14) (e := 13) (L' := [some (.ref 215), some (.int p1), some (.int (v10 &&& v11)), some (.int (f_J6_bitCount_0f7a4 (v10 &&& v11))), none, none, none]) (st' := []) rfl hb13 ?_
    refine ev_go kc_203 3 (i' := 17) (L' := [some (.ref 215), some (.int p1), some (.int (v10 &&& v11)), some (.int (f_J6_bitCount_0f7a4 (v10 &&& v11))), none, none, none]) (st' := [.int (0 : Int32), .int p1, .ref 215]) (M' := M0) rfl ?_
    obtain ⟨v14, hc14, h⟩ := o_b1 h
    refine ev_cl0 (ins := .invokevirtual 79) kc_203 rfl rfl (a := 193) (as := [.ref 215, .int p1, .int (0 : Int32)]) (rest := []) rfl rfl (Cs.deep (c_X12_of (M0 := M0) hc14) (by decide)) ?_
    refine ev_go kc_203 3 (i' := 21) (L' := [some (.ref 215), some (.int p1), some (.int (v10 &&& v11)), some (.int (f_J6_bitCount_0f7a4 (v10 &&& v11))), none, none, none]) (st' := [.int p1, .ref 221, .int v14]) (M' := M0) rfl ?_
    obtain ⟨hg15, h⟩ := o_gd h
    refine ev_ia kc_203 rfl rfl hg15 ?_
    refine ev_go kc_203 4 (i' := 26) (L' := [some (.ref 215), some (.int p1), some (.int (v10 &&& v11)), some (.int (f_J6_bitCount_0f7a4 (v10 &&& v11))), some (.int (v14 + (M0 221 (ix p1)))), none, none]) (st' := [.int (f_J6_bitCount_0f7a4 (v10 &&& v11)), .int (v14 + (M0 221 (ix p1)))]) (M' := M0) rfl ?_
    obtain ⟨hg16, h⟩ := o_gd h
    refine ev_rm kc_203 rfl hg16 ?_
    refine ev_go kc_203 3 (i' := 30) (L' := [some (.ref 215), some (.int p1), some (.int (v10 &&& v11)), some (.int (f_J6_bitCount_0f7a4 (v10 &&& v11))), some (.int (v14 + (M0 221 (ix p1)))), some (.int (rmd (v14 + (M0 221 (ix p1))) (f_J6_bitCount_0f7a4 (v10 &&& v11)))), some (.int (0 : Int32))]) (st' := []) (M' := M0) rfl ?_
    exact Ev.forget (mLe.kp (mLe.sk (mLe.kp (mLe.kp (mLe.kp (mLe.kp (mLe.kp mLe.nl))))))) (e_X12_shares_l30  h hk)
  · refine ev_goF kc_203 3 (t := 14) (e := 13) (L' := [some (.ref 215), some (.int p1), some (.int (v10 &&& v11)), some (.int (f_J6_bitCount_0f7a4 (v10 &&& v11))), none, none, none]) (st' := []) rfl hb13 ?_
    obtain rfl := Option.some.inj h
    rw [hk]
    exact ev_vret kc_203 rfl rfl rfl
/-- WakeTowerModel.lays()V: 204, W -/
theorem kc_204 : mKc 204 = k_X12_lays := rfl
def f_X12_lays_18 (l1 : Int32) (l2 : Int32) (M0 : mM) : Option (((Unit × mM) ⊕ (Int32 × mM)) ⊕ (Int32 × mM)) :=
  b1 (f_X12_people M0) (fun v1 => bif decide (v1 ≤ l2) then (some (.inl (.inr ((l1 + (-1 : Int32)), M0)))) else (b1 (f_X12_of l2 (5 : Int32) M0) (fun v3 => bif decide (¬ v3 = l1) then (some (.inr ((l2 + (1 : Int32)), M0))) else (b2 (f_X12_shares l2 M0) (fun v5 M5 => some (.inr ((l2 + (1 : Int32)), M5)))))))
set_option maxRecDepth 8000 in
theorem e_X12_lays_18 {l1 : Int32} {l2 : Int32} {M0 : mM} {R : mZ} {out : (((Unit × mM) ⊕ (Int32 × mM)) ⊕ (Int32 × mM))}  (h : f_X12_lays_18 l1 l2 M0 = some out) (hk : (∀ s' : Int32 × mM, out = .inr s' → Ev (6) 204 18 [some (.ref 215), some (.int l1), some (.int s'.1)] [] (s'.2) R) ∧ (∀ e2 : ((Unit × mM) ⊕ (Int32 × mM)), out = .inl e2 → (∀ s' : Int32 × mM, e2 = .inr s' → Ev (6) 204 14 [some (.ref 215), some (.int s'.1), none] [] (s'.2) R) ∧ (∀ e1 : (Unit × mM), e2 = .inl e1 → R = emW eU e1))) : Ev (6) 204 18 [some (.ref 215), some (.int l1), some (.int l2)] [] M0 R := by
  unfold f_X12_lays_18 at h
  refine ev_go kc_204 2 (i' := 20) (L' := [some (.ref 215), some (.int l1), some (.int l2)]) (st' := [.ref 215, .int l2]) (M' := M0) rfl ?_
  obtain ⟨v1, hc1, h⟩ := o_b1 h
  refine ev_cl0 (ins := .invokevirtual 71) kc_204 rfl rfl (a := 190) (as := [.ref 215]) (rest := [.int l2]) rfl rfl (Cs.deep (c_X12_people (M0 := M0) hc1) (by decide)) ?_
  rcases o_bif h with ⟨hb2, h⟩ | ⟨hb2, h⟩
  · refine ev_goT kc_204 1 (t := 33) (e := 22) (L' := [some (.ref 215), some (.int l1), some (.int l2)]) (st' := []) rfl hb2 ?_
    refine ev_go kc_204 2 (i' := 14) (L' := [some (.ref 215), some (.int (l1 + (-1 : Int32))), some (.int l2)]) (st' := []) (M' := M0) rfl ?_
    obtain rfl := Option.some.inj h
    exact Ev.forget (mLe.kp (mLe.kp (mLe.sk mLe.nl))) ((hk.2 _ rfl).1 ((l1 + (-1 : Int32)), M0) rfl)
  · refine ev_goF kc_204 1 (t := 33) (e := 22) (L' := [some (.ref 215), some (.int l1), some (.int l2)]) (st' := []) rfl hb2 ?_
    refine ev_go kc_204 3 (i' := 25) (L' := [some (.ref 215), some (.int l1), some (.int l2)]) (st' := [.int (5 : Int32), .int l2, .ref 215]) (M' := M0) rfl ?_
    obtain ⟨v3, hc3, h⟩ := o_b1 h
    refine ev_cl0 (ins := .invokevirtual 79) kc_204 rfl rfl (a := 193) (as := [.ref 215, .int l2, .int (5 : Int32)]) (rest := []) rfl rfl (Cs.deep (c_X12_of (M0 := M0) hc3) (by decide)) ?_
    rcases o_bif h with ⟨hb4, h⟩ | ⟨hb4, h⟩
    · refine ev_goT kc_204 2 (t := 31) (e := 28) (L' := [some (.ref 215), some (.int l1), some (.int l2)]) (st' := []) rfl hb4 ?_
      refine ev_go kc_204 2 (i' := 18) (L' := [some (.ref 215), some (.int l1), some (.int (l2 + (1 : Int32)))]) (st' := []) (M' := M0) rfl ?_
      obtain rfl := Option.some.inj h
      exact Ev.forget (mLe.kp (mLe.kp (mLe.kp mLe.nl))) (hk.1 ((l2 + (1 : Int32)), M0) rfl)
    · refine ev_goF kc_204 2 (t := 31) (e := 28) (L' := [some (.ref 215), some (.int l1), some (.int l2)]) (st' := []) rfl hb4 ?_
      refine ev_go kc_204 2 (i' := 30) (L' := [some (.ref 215), some (.int l1), some (.int l2)]) (st' := [.int l2, .ref 215]) (M' := M0) rfl ?_
      obtain ⟨v5, M5, hc5, h⟩ := o_b2 h
      refine ev_cl0 (ins := .invokevirtual 110) kc_204 rfl rfl (a := 203) (as := [.ref 215, .int l2]) (rest := []) rfl rfl (Cs.deep (c_X12_shares hc5) (by decide)) ?_
      refine ev_go kc_204 2 (i' := 18) (L' := [some (.ref 215), some (.int l1), some (.int (l2 + (1 : Int32)))]) (st' := []) (M' := M5) rfl ?_
      obtain rfl := Option.some.inj h
      exact Ev.forget (mLe.kp (mLe.kp (mLe.kp mLe.nl))) (hk.1 ((l2 + (1 : Int32)), M5) rfl)
def f_X12_lays_l18 (l1 : Int32) (l2 : Int32) (M0 : mM) : Option ((Unit × mM) ⊕ (Int32 × mM)) :=
  wh 100000 (fun s : Int32 × mM => f_X12_lays_18 l1 s.1 s.2) (l2, M0)
theorem e_X12_lays_l18 {l1 : Int32} {l2 : Int32} {M0 : mM} {R : mZ} {out : ((Unit × mM) ⊕ (Int32 × mM))}  (h : f_X12_lays_l18 l1 l2 M0 = some out) (hk : (∀ s' : Int32 × mM, out = .inr s' → Ev (6) 204 14 [some (.ref 215), some (.int s'.1), none] [] (s'.2) R) ∧ (∀ e1 : (Unit × mM), out = .inl e1 → R = emW eU e1)) : Ev (6) 204 18 [some (.ref 215), some (.int l1), some (.int l2)] [] M0 R := by
  unfold f_X12_lays_l18 at h
  exact wh_ev (P := fun s : Int32 × mM => Ev (6) 204 18 [some (.ref 215), some (.int l1), some (.int s.1)] [] s.2 R) (Q := fun e : ((Unit × mM) ⊕ (Int32 × mM)) => (∀ s' : Int32 × mM, e = .inr s' → Ev (6) 204 14 [some (.ref 215), some (.int s'.1), none] [] (s'.2) R) ∧ (∀ e1 : (Unit × mM), e = .inl e1 → R = emW eU e1)) (fun s o hb h1 h2 => e_X12_lays_18  hb ⟨h1, h2⟩) 100000 _ _ h hk
def f_X12_lays_14 (l1 : Int32) (M0 : mM) : Option ((Unit × mM) ⊕ (Int32 × mM)) :=
  bif decide (l1 ≤ 0) then (some (.inl ((), M0))) else (f_X12_lays_l18 l1 (0 : Int32) M0)
set_option maxRecDepth 8000 in
theorem e_X12_lays_14 {l1 : Int32} {M0 : mM} {R : mZ} {out : ((Unit × mM) ⊕ (Int32 × mM))}  (h : f_X12_lays_14 l1 M0 = some out) (hk : (∀ s' : Int32 × mM, out = .inr s' → Ev (6) 204 14 [some (.ref 215), some (.int s'.1), none] [] (s'.2) R) ∧ (∀ e1 : (Unit × mM), out = .inl e1 → R = emW eU e1)) : Ev (6) 204 14 [some (.ref 215), some (.int l1), none] [] M0 R := by
  unfold f_X12_lays_14 at h
  rcases o_bif h with ⟨hb6, h⟩ | ⟨hb6, h⟩
  · refine ev_goT kc_204 2 (t := 35) (e := 16) (L' := [some (.ref 215), some (.int l1), none]) (st' := []) rfl hb6 ?_
    obtain rfl := Option.some.inj h
    rw [show _ from (hk.2 _ rfl)]
    exact ev_vret kc_204 rfl rfl rfl
  · refine ev_goF kc_204 2 (t := 35) (e := 16) (L' := [some (.ref 215), some (.int l1), none]) (st' := []) rfl hb6 ?_
    refine ev_go kc_204 2 (i' := 18) (L' := [some (.ref 215), some (.int l1), some (.int (0 : Int32))]) (st' := []) (M' := M0) rfl ?_
    exact Ev.forget (mLe.kp (mLe.kp (mLe.kp mLe.nl))) (e_X12_lays_l18  h hk)
def f_X12_lays_l14 (l1 : Int32) (M0 : mM) : Option (Unit × mM) :=
  wh 100000 (fun s : Int32 × mM => f_X12_lays_14 s.1 s.2) (l1, M0)
theorem e_X12_lays_l14 {l1 : Int32} {M0 : mM} {R : mZ} {out : (Unit × mM)}  (h : f_X12_lays_l14 l1 M0 = some out) (hk : R = emW eU out) : Ev (6) 204 14 [some (.ref 215), some (.int l1), none] [] M0 R := by
  unfold f_X12_lays_l14 at h
  exact wh_ev (P := fun s : Int32 × mM => Ev (6) 204 14 [some (.ref 215), some (.int s.1), none] [] s.2 R) (Q := fun e : (Unit × mM) => R = emW eU e) (fun s o hb h1 h2 => e_X12_lays_14  hb ⟨h1, h2⟩) 100000 _ _ h hk
def f_X12_lays_2 (l1 : Int32) (M0 : mM) : Option ((Unit × mM) ⊕ (Int32 × mM)) :=
  bif decide ((8 : Int32) ≤ l1) then (b1 (f_X12_lays_l14 (4 : Int32) M0) (fun r8 => some (.inl r8))) else (gd (mIn l1 8) (wr (mst M0 221 (ix l1) (0 : Int32)) (fun M9 => some (.inr ((l1 + (1 : Int32)), M9)))))
set_option maxRecDepth 8000 in
theorem e_X12_lays_2 {l1 : Int32} {M0 : mM} {R : mZ} {out : ((Unit × mM) ⊕ (Int32 × mM))}  (h : f_X12_lays_2 l1 M0 = some out) (hk : (∀ s' : Int32 × mM, out = .inr s' → Ev (6) 204 2 [some (.ref 215), some (.int s'.1), none] [] (s'.2) R) ∧ (∀ e1 : (Unit × mM), out = .inl e1 → R = emW eU e1)) : Ev (6) 204 2 [some (.ref 215), some (.int l1), none] [] M0 R := by
  unfold f_X12_lays_2 at h
  rcases o_bif h with ⟨hb7, h⟩ | ⟨hb7, h⟩
  · refine ev_goT kc_204 3 (t := 12) (e := 5) (L' := [some (.ref 215), some (.int l1), none]) (st' := []) rfl hb7 ?_
    refine ev_go kc_204 2 (i' := 14) (L' := [some (.ref 215), some (.int (4 : Int32)), none]) (st' := []) (M' := M0) rfl ?_
    obtain ⟨r8, hr8, h⟩ := o_b1 h
    obtain rfl := Option.some.inj h
    exact Ev.forget (mLe.kp (mLe.kp (mLe.sk mLe.nl))) (e_X12_lays_l14  hr8 (hk.2 _ rfl))
  · refine ev_goF kc_204 3 (t := 12) (e := 5) (L' := [some (.ref 215), some (.int l1), none]) (st' := []) rfl hb7 ?_
    refine ev_go kc_204 4 (i' := 9) (L' := [some (.ref 215), some (.int l1), none]) (st' := [.int (0 : Int32), .int l1, .ref 221]) (M' := M0) rfl ?_
    obtain ⟨hg10, h⟩ := o_gd h
    obtain ⟨M9, hM9, h⟩ := o_wr h
    refine ev_is kc_204 rfl rfl hg10 hM9 ?_
    refine ev_go kc_204 2 (i' := 2) (L' := [some (.ref 215), some (.int (l1 + (1 : Int32))), none]) (st' := []) (M' := M9) rfl ?_
    obtain rfl := Option.some.inj h
    exact Ev.forget (mLe.kp (mLe.kp (mLe.sk mLe.nl))) (hk.1 ((l1 + (1 : Int32)), M9) rfl)
def f_X12_lays_l2 (l1 : Int32) (M0 : mM) : Option (Unit × mM) :=
  wh 100000 (fun s : Int32 × mM => f_X12_lays_2 s.1 s.2) (l1, M0)
theorem e_X12_lays_l2 {l1 : Int32} {M0 : mM} {R : mZ} {out : (Unit × mM)}  (h : f_X12_lays_l2 l1 M0 = some out) (hk : R = emW eU out) : Ev (6) 204 2 [some (.ref 215), some (.int l1), none] [] M0 R := by
  unfold f_X12_lays_l2 at h
  exact wh_ev (P := fun s : Int32 × mM => Ev (6) 204 2 [some (.ref 215), some (.int s.1), none] [] s.2 R) (Q := fun e : (Unit × mM) => R = emW eU e) (fun s o hb h1 h2 => e_X12_lays_2  hb ⟨h1, h2⟩) 100000 _ _ h hk
def f_X12_lays  (M0 : mM) : Option (Unit × mM) :=
  f_X12_lays_l2 (0 : Int32) M0
set_option maxRecDepth 8000 in
theorem c_X12_lays  {M0 : mM} {out : (Unit × mM)} (h : f_X12_lays M0 = some out) : Cs (6) 204 [.ref 215] M0 (emW eU out) := by
  generalize hk : emW eU out = R
  replace hk := hk.symm
  unfold f_X12_lays at h
  show Ev (6) 204 0 [some (.ref 215), none, none] [] M0 R
  refine ev_go kc_204 2 (i' := 2) (L' := [some (.ref 215), some (.int (0 : Int32)), none]) (st' := []) (M' := M0) rfl ?_
  exact Ev.forget (mLe.kp (mLe.kp (mLe.sk mLe.nl))) (e_X12_lays_l2  h hk)
/-- WakeTowerModel.borneBy(I)I: 205, W -/
theorem kc_205 : mKc 205 = k_X12_borneBy := rfl
def f_X12_borneBy (p1 : Int32) (M0 : mM) : Option (Int32 × mM) :=
  b2 (f_X12_lays M0) (fun v1 M1 => gd (mIn p1 8) (some ((M1 221 (ix p1)), M1)))
set_option maxRecDepth 8000 in
theorem c_X12_borneBy {p1 : Int32} {M0 : mM} {out : (Int32 × mM)} (h : f_X12_borneBy p1 M0 = some out) : Cs (7) 205 [.ref 215, .int p1] M0 (emW eI out) := by
  generalize hk : emW eI out = R
  replace hk := hk.symm
  unfold f_X12_borneBy at h
  show Ev (7) 205 0 [some (.ref 215), some (.int p1)] [] M0 R
  refine ev_go kc_205 1 (i' := 1) (L' := [some (.ref 215), some (.int p1)]) (st' := [.ref 215]) (M' := M0) rfl ?_
  obtain ⟨v1, M1, hc1, h⟩ := o_b2 h
  refine ev_cl0 (ins := .invokevirtual 114) kc_205 rfl rfl (a := 204) (as := [.ref 215]) (rest := []) rfl rfl (Cs.deep (c_X12_lays hc1) (by decide)) ?_
  refine ev_go kc_205 3 (i' := 5) (L' := [some (.ref 215), some (.int p1)]) (st' := [.int p1, .ref 221]) (M' := M1) rfl ?_
  obtain ⟨hg2, h⟩ := o_gd h
  refine ev_ia kc_205 rfl rfl hg2 ?_
  obtain rfl := Option.some.inj h
  rw [hk]
  exact ev_ret kc_205 rfl rfl rfl
/-- WakeTowerModel.borneByAll()I: 206, W -/
theorem kc_206 : mKc 206 = k_X12_borneByAll := rfl
def f_X12_borneByAll_6 (l1 : Int32) (l2 : Int32) (M0 : mM) : Option ((Int32 × mM) ⊕ (Int32 × Int32)) :=
  b1 (f_X12_people M0) (fun v1 => bif decide (v1 ≤ l2) then (some (.inl (l1, M0))) else (gd (mIn l2 8) (some (.inr ((l1 + (M0 221 (ix l2))), (l2 + (1 : Int32)))))))
set_option maxRecDepth 8000 in
theorem e_X12_borneByAll_6 {l1 : Int32} {l2 : Int32} {M0 : mM} {R : mZ} {out : ((Int32 × mM) ⊕ (Int32 × Int32))}  (h : f_X12_borneByAll_6 l1 l2 M0 = some out) (hk : (∀ s' : Int32 × Int32, out = .inr s' → Ev (7) 206 6 [some (.ref 215), some (.int s'.1), some (.int s'.2)] [] M0 R) ∧ (∀ e1 : (Int32 × mM), out = .inl e1 → R = emW eI e1)) : Ev (7) 206 6 [some (.ref 215), some (.int l1), some (.int l2)] [] M0 R := by
  unfold f_X12_borneByAll_6 at h
  refine ev_go kc_206 2 (i' := 8) (L' := [some (.ref 215), some (.int l1), some (.int l2)]) (st' := [.ref 215, .int l2]) (M' := M0) rfl ?_
  obtain ⟨v1, hc1, h⟩ := o_b1 h
  refine ev_cl0 (ins := .invokevirtual 71) kc_206 rfl rfl (a := 190) (as := [.ref 215]) (rest := [.int l2]) rfl rfl (Cs.deep (c_X12_people (M0 := M0) hc1) (by decide)) ?_
  rcases o_bif h with ⟨hb2, h⟩ | ⟨hb2, h⟩
  · refine ev_goT kc_206 1 (t := 19) (e := 10) (L' := [some (.ref 215), some (.int l1), some (.int l2)]) (st' := []) rfl hb2 ?_
    refine ev_go kc_206 1 (i' := 20) (L' := [some (.ref 215), some (.int l1), some (.int l2)]) (st' := [.int l1]) (M' := M0) rfl ?_
    obtain rfl := Option.some.inj h
    rw [show _ from (hk.2 _ rfl)]
    exact ev_ret kc_206 rfl rfl rfl
  · refine ev_goF kc_206 1 (t := 19) (e := 10) (L' := [some (.ref 215), some (.int l1), some (.int l2)]) (st' := []) rfl hb2 ?_
    refine ev_go kc_206 4 (i' := 14) (L' := [some (.ref 215), some (.int l1), some (.int l2)]) (st' := [.int l2, .ref 221, .int l1]) (M' := M0) rfl ?_
    obtain ⟨hg3, h⟩ := o_gd h
    refine ev_ia kc_206 rfl rfl hg3 ?_
    refine ev_go kc_206 4 (i' := 6) (L' := [some (.ref 215), some (.int (l1 + (M0 221 (ix l2)))), some (.int (l2 + (1 : Int32)))]) (st' := []) (M' := M0) rfl ?_
    obtain rfl := Option.some.inj h
    exact Ev.forget (mLe.kp (mLe.kp (mLe.kp mLe.nl))) (hk.1 ((l1 + (M0 221 (ix l2))), (l2 + (1 : Int32))) rfl)
def f_X12_borneByAll_l6 (l1 : Int32) (l2 : Int32) (M0 : mM) : Option (Int32 × mM) :=
  wh 100000 (fun s : Int32 × Int32 => f_X12_borneByAll_6 s.1 s.2 M0) (l1, l2)
theorem e_X12_borneByAll_l6 {l1 : Int32} {l2 : Int32} {M0 : mM} {R : mZ} {out : (Int32 × mM)}  (h : f_X12_borneByAll_l6 l1 l2 M0 = some out) (hk : R = emW eI out) : Ev (7) 206 6 [some (.ref 215), some (.int l1), some (.int l2)] [] M0 R := by
  unfold f_X12_borneByAll_l6 at h
  exact wh_ev (P := fun s : Int32 × Int32 => Ev (7) 206 6 [some (.ref 215), some (.int s.1), some (.int s.2)] [] M0 R) (Q := fun e : (Int32 × mM) => R = emW eI e) (fun s o hb h1 h2 => e_X12_borneByAll_6  hb ⟨h1, h2⟩) 100000 _ _ h hk
def f_X12_borneByAll  (M0 : mM) : Option (Int32 × mM) :=
  b2 (f_X12_lays M0) (fun v4 M4 => f_X12_borneByAll_l6 (0 : Int32) (0 : Int32) M4)
set_option maxRecDepth 8000 in
theorem c_X12_borneByAll  {M0 : mM} {out : (Int32 × mM)} (h : f_X12_borneByAll M0 = some out) : Cs (7) 206 [.ref 215] M0 (emW eI out) := by
  generalize hk : emW eI out = R
  replace hk := hk.symm
  unfold f_X12_borneByAll at h
  show Ev (7) 206 0 [some (.ref 215), none, none] [] M0 R
  refine ev_go kc_206 1 (i' := 1) (L' := [some (.ref 215), none, none]) (st' := [.ref 215]) (M' := M0) rfl ?_
  obtain ⟨v4, M4, hc4, h⟩ := o_b2 h
  refine ev_cl0 (ins := .invokevirtual 114) kc_206 rfl rfl (a := 204) (as := [.ref 215]) (rest := []) rfl rfl (Cs.deep (c_X12_lays hc4) (by decide)) ?_
  refine ev_go kc_206 4 (i' := 6) (L' := [some (.ref 215), some (.int (0 : Int32)), some (.int (0 : Int32))]) (st' := []) (M' := M4) rfl ?_
  exact Ev.forget (mLe.kp (mLe.kp (mLe.kp mLe.nl))) (e_X12_borneByAll_l6  h hk)
/-- WakeTowerModel.hangs(I)Z: 207, R -/
theorem kc_207 : mKc 207 = k_X12_hangs := rfl
def f_X12_hangs (p1 : Int32) (M0 : mM) : Option Bool :=
  b1 (f_X12_of p1 (5 : Int32) M0) (fun v1 => bif decide (v1 ≤ 0) then (some false) else (b1 (f_X12_of p1 (6 : Int32) M0) (fun v3 => b1 (f_X12_holders M0) (fun v4 => bif decide (¬ (v3 &&& v4) = 0) then (some false) else (some true)))))
set_option maxRecDepth 8000 in
theorem c_X12_hangs {p1 : Int32} {M0 : mM} {out : Bool} (h : f_X12_hangs p1 M0 = some out) : Cs (5) 207 [.ref 215, .int p1] M0 (emR eB M0 out) := by
  generalize hk : emR eB M0 out = R
  replace hk := hk.symm
  unfold f_X12_hangs at h
  show Ev (5) 207 0 [some (.ref 215), some (.int p1)] [] M0 R
  refine ev_go kc_207 3 (i' := 3) (L' := [some (.ref 215), some (.int p1)]) (st' := [.int (5 : Int32), .int p1, .ref 215]) (M' := M0) rfl ?_
  obtain ⟨v1, hc1, h⟩ := o_b1 h
  refine ev_cl0 (ins := .invokevirtual 79) kc_207 rfl rfl (a := 193) (as := [.ref 215, .int p1, .int (5 : Int32)]) (rest := []) rfl rfl (Cs.deep (c_X12_of (M0 := M0) hc1) (by decide)) ?_
  rcases o_bif h with ⟨hb2, h⟩ | ⟨hb2, h⟩
  · refine ev_goT kc_207 1 (t := 15) (e := 5) (L' := [some (.ref 215), some (.int p1)]) (st' := []) rfl hb2 ?_
    refine ev_go kc_207 1 (i' := 16) (L' := [some (.ref 215), some (.int p1)]) (st' := [.int (0 : Int32)]) (M' := M0) rfl ?_
    obtain rfl := Option.some.inj h
    rw [hk]
    exact ev_ret kc_207 rfl rfl rfl
  · refine ev_goF kc_207 1 (t := 15) (e := 5) (L' := [some (.ref 215), some (.int p1)]) (st' := []) rfl hb2 ?_
    refine ev_go kc_207 3 (i' := 8) (L' := [some (.ref 215), some (.int p1)]) (st' := [.int (6 : Int32), .int p1, .ref 215]) (M' := M0) rfl ?_
    obtain ⟨v3, hc3, h⟩ := o_b1 h
    refine ev_cl0 (ins := .invokevirtual 79) kc_207 rfl rfl (a := 193) (as := [.ref 215, .int p1, .int (6 : Int32)]) (rest := []) rfl rfl (Cs.deep (c_X12_of (M0 := M0) hc3) (by decide)) ?_
    refine ev_go kc_207 1 (i' := 10) (L' := [some (.ref 215), some (.int p1)]) (st' := [.ref 215, .int v3]) (M' := M0) rfl ?_
    obtain ⟨v4, hc4, h⟩ := o_b1 h
    refine ev_cl0 (ins := .invokevirtual 97) kc_207 rfl rfl (a := 198) (as := [.ref 215]) (rest := [.int v3]) rfl rfl (Cs.deep (c_X12_holders (M0 := M0) hc4) (by decide)) ?_
    rcases o_bif h with ⟨hb5, h⟩ | ⟨hb5, h⟩
    · refine ev_goT kc_207 2 (t := 15) (e := 13) (L' := [some (.ref 215), some (.int p1)]) (st' := []) rfl hb5 ?_
      refine ev_go kc_207 1 (i' := 16) (L' := [some (.ref 215), some (.int p1)]) (st' := [.int (0 : Int32)]) (M' := M0) rfl ?_
      obtain rfl := Option.some.inj h
      rw [hk]
      exact ev_ret kc_207 rfl rfl rfl
    · refine ev_goF kc_207 2 (t := 15) (e := 13) (L' := [some (.ref 215), some (.int p1)]) (st' := []) rfl hb5 ?_
      refine ev_go kc_207 2 (i' := 16) (L' := [some (.ref 215), some (.int p1)]) (st' := [.int (1 : Int32)]) (M' := M0) rfl ?_
      obtain rfl := Option.some.inj h
      rw [hk]
      exact ev_ret kc_207 rfl rfl rfl
/-- WakeTowerModel.givesWay()I: 208, W -/
theorem kc_208 : mKc 208 = k_X12_givesWay := rfl
def f_X12_givesWay_6 (l1 : Int32) (l2 : Int32) (M0 : mM) : Option ((Int32 × mM) ⊕ (Int32 × Int32)) :=
  b1 (f_X12_people M0) (fun v1 => bif decide (v1 ≤ l2) then (some (.inl (l1, M0))) else (b1 (f_X12_holds l2 M0) (fun v3 => bif v3 then (gd (mIn l2 8) (b1 (f_X12_of l2 (2 : Int32) M0) (fun v6 => bif decide ((M0 221 (ix l2)) ≤ v6) then (some (.inr ((l1 ||| (0 : Int32)), (l2 + (1 : Int32))))) else (some (.inr ((l1 ||| ((1 : Int32) <<< (l2 &&& (31 : Int32)))), (l2 + (1 : Int32)))))))) else (some (.inr ((l1 ||| (0 : Int32)), (l2 + (1 : Int32))))))))
set_option maxRecDepth 8000 in
theorem e_X12_givesWay_6 {l1 : Int32} {l2 : Int32} {M0 : mM} {R : mZ} {out : ((Int32 × mM) ⊕ (Int32 × Int32))}  (h : f_X12_givesWay_6 l1 l2 M0 = some out) (hk : (∀ s' : Int32 × Int32, out = .inr s' → Ev (7) 208 6 [some (.ref 215), some (.int s'.1), some (.int s'.2)] [] M0 R) ∧ (∀ e1 : (Int32 × mM), out = .inl e1 → R = emW eI e1)) : Ev (7) 208 6 [some (.ref 215), some (.int l1), some (.int l2)] [] M0 R := by
  unfold f_X12_givesWay_6 at h
  refine ev_go kc_208 2 (i' := 8) (L' := [some (.ref 215), some (.int l1), some (.int l2)]) (st' := [.ref 215, .int l2]) (M' := M0) rfl ?_
  obtain ⟨v1, hc1, h⟩ := o_b1 h
  refine ev_cl0 (ins := .invokevirtual 71) kc_208 rfl rfl (a := 190) (as := [.ref 215]) (rest := [.int l2]) rfl rfl (Cs.deep (c_X12_people (M0 := M0) hc1) (by decide)) ?_
  rcases o_bif h with ⟨hb2, h⟩ | ⟨hb2, h⟩
  · refine ev_goT kc_208 1 (t := 33) (e := 10) (L' := [some (.ref 215), some (.int l1), some (.int l2)]) (st' := []) rfl hb2 ?_
    refine ev_go kc_208 1 (i' := 34) (L' := [some (.ref 215), some (.int l1), some (.int l2)]) (st' := [.int l1]) (M' := M0) rfl ?_
    obtain rfl := Option.some.inj h
    rw [show _ from (hk.2 _ rfl)]
    exact ev_ret kc_208 rfl rfl rfl
  · refine ev_goF kc_208 1 (t := 33) (e := 10) (L' := [some (.ref 215), some (.int l1), some (.int l2)]) (st' := []) rfl hb2 ?_
    refine ev_go kc_208 3 (i' := 13) (L' := [some (.ref 215), some (.int l1), some (.int l2)]) (st' := [.int l2, .ref 215, .int l1]) (M' := M0) rfl ?_
    obtain ⟨v3, hc3, h⟩ := o_b1 h
    refine ev_cl0 (ins := .invokevirtual 89) kc_208 rfl rfl (a := 196) (as := [.ref 215, .int l2]) (rest := [.int l1]) rfl rfl (Cs.deep (c_X12_holds (M0 := M0) hc3) (by decide)) ?_
    rcases o_bif h with ⟨hb4, h⟩ | ⟨hb4, h⟩
    · refine ev_goF kc_208 1 (t := 28) (e := 15) (L' := [some (.ref 215), some (.int l1), some (.int l2)]) (st' := [.int l1]) rfl (mB_e0f hb4) ?_
      refine ev_go kc_208 3 (i' := 18) (L' := [some (.ref 215), some (.int l1), some (.int l2)]) (st' := [.int l2, .ref 221, .int l1]) (M' := M0) rfl ?_
      obtain ⟨hg5, h⟩ := o_gd h
      refine ev_ia kc_208 rfl rfl hg5 ?_
      refine ev_go kc_208 3 (i' := 22) (L' := [some (.ref 215), some (.int l1), some (.int l2)]) (st' := [.int (2 : Int32), .int l2, .ref 215, .int (M0 221 (ix l2)), .int l1]) (M' := M0) rfl ?_
      obtain ⟨v6, hc6, h⟩ := o_b1 h
      refine ev_cl0 (ins := .invokevirtual 79) kc_208 rfl rfl (a := 193) (as := [.ref 215, .int l2, .int (2 : Int32)]) (rest := [.int (M0 221 (ix l2)), .int l1]) rfl rfl (Cs.deep (c_X12_of (M0 := M0) hc6) (by decide)) ?_
      rcases o_bif h with ⟨hb7, h⟩ | ⟨hb7, h⟩
      · refine ev_goT kc_208 1 (t := 28) (e := 24) (L' := [some (.ref 215), some (.int l1), some (.int l2)]) (st' := [.int l1]) rfl hb7 ?_
        refine ev_go kc_208 5 (i' := 6) (L' := [some (.ref 215), some (.int (l1 ||| (0 : Int32))), some (.int (l2 + (1 : Int32)))]) (st' := []) (M' := M0) rfl ?_
        obtain rfl := Option.some.inj h
        exact Ev.forget (mLe.kp (mLe.kp (mLe.kp mLe.nl))) (hk.1 ((l1 ||| (0 : Int32)), (l2 + (1 : Int32))) rfl)
      · refine ev_goF kc_208 1 (t := 28) (e := 24) (L' := [some (.ref 215), some (.int l1), some (.int l2)]) (st' := [.int l1]) rfl hb7 ?_
        refine ev_go kc_208 8 (i' := 6) (L' := [some (.ref 215), some (.int (l1 ||| ((1 : Int32) <<< (l2 &&& (31 : Int32))))), some (.int (l2 + (1 : Int32)))]) (st' := []) (M' := M0) rfl ?_
        obtain rfl := Option.some.inj h
        exact Ev.forget (mLe.kp (mLe.kp (mLe.kp mLe.nl))) (hk.1 ((l1 ||| ((1 : Int32) <<< (l2 &&& (31 : Int32)))), (l2 + (1 : Int32))) rfl)
    · refine ev_goT kc_208 1 (t := 28) (e := 15) (L' := [some (.ref 215), some (.int l1), some (.int l2)]) (st' := [.int l1]) rfl (mB_e0t hb4) ?_
      refine ev_go kc_208 5 (i' := 6) (L' := [some (.ref 215), some (.int (l1 ||| (0 : Int32))), some (.int (l2 + (1 : Int32)))]) (st' := []) (M' := M0) rfl ?_
      obtain rfl := Option.some.inj h
      exact Ev.forget (mLe.kp (mLe.kp (mLe.kp mLe.nl))) (hk.1 ((l1 ||| (0 : Int32)), (l2 + (1 : Int32))) rfl)
def f_X12_givesWay_l6 (l1 : Int32) (l2 : Int32) (M0 : mM) : Option (Int32 × mM) :=
  wh 100000 (fun s : Int32 × Int32 => f_X12_givesWay_6 s.1 s.2 M0) (l1, l2)
theorem e_X12_givesWay_l6 {l1 : Int32} {l2 : Int32} {M0 : mM} {R : mZ} {out : (Int32 × mM)}  (h : f_X12_givesWay_l6 l1 l2 M0 = some out) (hk : R = emW eI out) : Ev (7) 208 6 [some (.ref 215), some (.int l1), some (.int l2)] [] M0 R := by
  unfold f_X12_givesWay_l6 at h
  exact wh_ev (P := fun s : Int32 × Int32 => Ev (7) 208 6 [some (.ref 215), some (.int s.1), some (.int s.2)] [] M0 R) (Q := fun e : (Int32 × mM) => R = emW eI e) (fun s o hb h1 h2 => e_X12_givesWay_6  hb ⟨h1, h2⟩) 100000 _ _ h hk
def f_X12_givesWay  (M0 : mM) : Option (Int32 × mM) :=
  b2 (f_X12_lays M0) (fun v8 M8 => f_X12_givesWay_l6 (0 : Int32) (0 : Int32) M8)
set_option maxRecDepth 8000 in
theorem c_X12_givesWay  {M0 : mM} {out : (Int32 × mM)} (h : f_X12_givesWay M0 = some out) : Cs (7) 208 [.ref 215] M0 (emW eI out) := by
  generalize hk : emW eI out = R
  replace hk := hk.symm
  unfold f_X12_givesWay at h
  show Ev (7) 208 0 [some (.ref 215), none, none] [] M0 R
  refine ev_go kc_208 1 (i' := 1) (L' := [some (.ref 215), none, none]) (st' := [.ref 215]) (M' := M0) rfl ?_
  obtain ⟨v8, M8, hc8, h⟩ := o_b2 h
  refine ev_cl0 (ins := .invokevirtual 114) kc_208 rfl rfl (a := 204) (as := [.ref 215]) (rest := []) rfl rfl (Cs.deep (c_X12_lays hc8) (by decide)) ?_
  refine ev_go kc_208 4 (i' := 6) (L' := [some (.ref 215), some (.int (0 : Int32)), some (.int (0 : Int32))]) (st' := []) (M' := M8) rfl ?_
  exact Ev.forget (mLe.kp (mLe.kp (mLe.kp mLe.nl))) (e_X12_givesWay_l6  h hk)
/-- WakeTowerModel.hanging()I: 209, R -/
theorem kc_209 : mKc 209 = k_X12_hanging := rfl
def f_X12_hanging_4 (l1 : Int32) (l2 : Int32) (M0 : mM) : Option (Int32 ⊕ (Int32 × Int32)) :=
  b1 (f_X12_people M0) (fun v1 => bif decide (v1 ≤ l2) then (some (.inl l1)) else (b1 (f_X12_hangs l2 M0) (fun v3 => bif v3 then (some (.inr ((l1 ||| ((1 : Int32) <<< (l2 &&& (31 : Int32)))), (l2 + (1 : Int32))))) else (some (.inr ((l1 ||| (0 : Int32)), (l2 + (1 : Int32))))))))
set_option maxRecDepth 8000 in
theorem e_X12_hanging_4 {l1 : Int32} {l2 : Int32} {M0 : mM} {R : mZ} {out : (Int32 ⊕ (Int32 × Int32))}  (h : f_X12_hanging_4 l1 l2 M0 = some out) (hk : (∀ s' : Int32 × Int32, out = .inr s' → Ev (6) 209 4 [some (.ref 215), some (.int s'.1), some (.int s'.2)] [] M0 R) ∧ (∀ e1 : Int32, out = .inl e1 → R = emR eI M0 e1)) : Ev (6) 209 4 [some (.ref 215), some (.int l1), some (.int l2)] [] M0 R := by
  unfold f_X12_hanging_4 at h
  refine ev_go kc_209 2 (i' := 6) (L' := [some (.ref 215), some (.int l1), some (.int l2)]) (st' := [.ref 215, .int l2]) (M' := M0) rfl ?_
  obtain ⟨v1, hc1, h⟩ := o_b1 h
  refine ev_cl0 (ins := .invokevirtual 71) kc_209 rfl rfl (a := 190) (as := [.ref 215]) (rest := [.int l2]) rfl rfl (Cs.deep (c_X12_people (M0 := M0) hc1) (by decide)) ?_
  rcases o_bif h with ⟨hb2, h⟩ | ⟨hb2, h⟩
  · refine ev_goT kc_209 1 (t := 22) (e := 8) (L' := [some (.ref 215), some (.int l1), some (.int l2)]) (st' := []) rfl hb2 ?_
    refine ev_go kc_209 1 (i' := 23) (L' := [some (.ref 215), some (.int l1), some (.int l2)]) (st' := [.int l1]) (M' := M0) rfl ?_
    obtain rfl := Option.some.inj h
    rw [show _ from (hk.2 _ rfl)]
    exact ev_ret kc_209 rfl rfl rfl
  · refine ev_goF kc_209 1 (t := 22) (e := 8) (L' := [some (.ref 215), some (.int l1), some (.int l2)]) (st' := []) rfl hb2 ?_
    refine ev_go kc_209 3 (i' := 11) (L' := [some (.ref 215), some (.int l1), some (.int l2)]) (st' := [.int l2, .ref 215, .int l1]) (M' := M0) rfl ?_
    obtain ⟨v3, hc3, h⟩ := o_b1 h
    refine ev_cl0 (ins := .invokevirtual 117) kc_209 rfl rfl (a := 207) (as := [.ref 215, .int l2]) (rest := [.int l1]) rfl rfl (Cs.deep (c_X12_hangs (M0 := M0) hc3) (by decide)) ?_
    rcases o_bif h with ⟨hb4, h⟩ | ⟨hb4, h⟩
    · refine ev_goF kc_209 1 (t := 17) (e := 13) (L' := [some (.ref 215), some (.int l1), some (.int l2)]) (st' := [.int l1]) rfl (mB_e0f hb4) ?_
      refine ev_go kc_209 8 (i' := 4) (L' := [some (.ref 215), some (.int (l1 ||| ((1 : Int32) <<< (l2 &&& (31 : Int32))))), some (.int (l2 + (1 : Int32)))]) (st' := []) (M' := M0) rfl ?_
      obtain rfl := Option.some.inj h
      exact Ev.forget (mLe.kp (mLe.kp (mLe.kp mLe.nl))) (hk.1 ((l1 ||| ((1 : Int32) <<< (l2 &&& (31 : Int32)))), (l2 + (1 : Int32))) rfl)
    · refine ev_goT kc_209 1 (t := 17) (e := 13) (L' := [some (.ref 215), some (.int l1), some (.int l2)]) (st' := [.int l1]) rfl (mB_e0t hb4) ?_
      refine ev_go kc_209 5 (i' := 4) (L' := [some (.ref 215), some (.int (l1 ||| (0 : Int32))), some (.int (l2 + (1 : Int32)))]) (st' := []) (M' := M0) rfl ?_
      obtain rfl := Option.some.inj h
      exact Ev.forget (mLe.kp (mLe.kp (mLe.kp mLe.nl))) (hk.1 ((l1 ||| (0 : Int32)), (l2 + (1 : Int32))) rfl)
def f_X12_hanging_l4 (l1 : Int32) (l2 : Int32) (M0 : mM) : Option Int32 :=
  wh 100000 (fun s : Int32 × Int32 => f_X12_hanging_4 s.1 s.2 M0) (l1, l2)
theorem e_X12_hanging_l4 {l1 : Int32} {l2 : Int32} {M0 : mM} {R : mZ} {out : Int32}  (h : f_X12_hanging_l4 l1 l2 M0 = some out) (hk : R = emR eI M0 out) : Ev (6) 209 4 [some (.ref 215), some (.int l1), some (.int l2)] [] M0 R := by
  unfold f_X12_hanging_l4 at h
  exact wh_ev (P := fun s : Int32 × Int32 => Ev (6) 209 4 [some (.ref 215), some (.int s.1), some (.int s.2)] [] M0 R) (Q := fun e : Int32 => R = emR eI M0 e) (fun s o hb h1 h2 => e_X12_hanging_4  hb ⟨h1, h2⟩) 100000 _ _ h hk
def f_X12_hanging  (M0 : mM) : Option Int32 :=
  f_X12_hanging_l4 (0 : Int32) (0 : Int32) M0
set_option maxRecDepth 8000 in
theorem c_X12_hanging  {M0 : mM} {out : Int32} (h : f_X12_hanging M0 = some out) : Cs (6) 209 [.ref 215] M0 (emR eI M0 out) := by
  generalize hk : emR eI M0 out = R
  replace hk := hk.symm
  unfold f_X12_hanging at h
  show Ev (6) 209 0 [some (.ref 215), none, none] [] M0 R
  refine ev_go kc_209 4 (i' := 4) (L' := [some (.ref 215), some (.int (0 : Int32)), some (.int (0 : Int32))]) (st' := []) (M' := M0) rfl ?_
  exact Ev.forget (mLe.kp (mLe.kp (mLe.kp mLe.nl))) (e_X12_hanging_l4  h hk)
/-- WakeTowerModel.stands()Z: 210, W -/
theorem kc_210 : mKc 210 = k_X12_stands := rfl
def f_X12_stands  (M0 : mM) : Option (Bool × mM) :=
  b2 (f_X12_givesWay M0) (fun v1 M1 => b1 (f_X12_hanging M1) (fun v2 => bif decide (¬ (v1 ||| v2) = 0) then (some (false, M1)) else (some (true, M1))))
set_option maxRecDepth 8000 in
theorem c_X12_stands  {M0 : mM} {out : (Bool × mM)} (h : f_X12_stands M0 = some out) : Cs (8) 210 [.ref 215] M0 (emW eB out) := by
  generalize hk : emW eB out = R
  replace hk := hk.symm
  unfold f_X12_stands at h
  show Ev (8) 210 0 [some (.ref 215)] [] M0 R
  refine ev_go kc_210 1 (i' := 1) (L' := [some (.ref 215)]) (st' := [.ref 215]) (M' := M0) rfl ?_
  obtain ⟨v1, M1, hc1, h⟩ := o_b2 h
  refine ev_cl0 (ins := .invokevirtual 120) kc_210 rfl rfl (a := 208) (as := [.ref 215]) (rest := []) rfl rfl (Cs.deep (c_X12_givesWay hc1) (by decide)) ?_
  refine ev_go kc_210 1 (i' := 3) (L' := [some (.ref 215)]) (st' := [.ref 215, .int v1]) (M' := M1) rfl ?_
  obtain ⟨v2, hc2, h⟩ := o_b1 h
  refine ev_cl0 (ins := .invokevirtual 123) kc_210 rfl rfl (a := 209) (as := [.ref 215]) (rest := [.int v1]) rfl rfl (Cs.deep (c_X12_hanging (M0 := M1) hc2) (by decide)) ?_
  rcases o_bif h with ⟨hb3, h⟩ | ⟨hb3, h⟩
  · refine ev_goT kc_210 2 (t := 8) (e := 6) (L' := [some (.ref 215)]) (st' := []) rfl hb3 ?_
    refine ev_go kc_210 1 (i' := 9) (L' := [some (.ref 215)]) (st' := [.int (0 : Int32)]) (M' := M1) rfl ?_
    obtain rfl := Option.some.inj h
    rw [hk]
    exact ev_ret kc_210 rfl rfl rfl
  · refine ev_goF kc_210 2 (t := 8) (e := 6) (L' := [some (.ref 215)]) (st' := []) rfl hb3 ?_
    refine ev_go kc_210 2 (i' := 9) (L' := [some (.ref 215)]) (st' := [.int (1 : Int32)]) (M' := M1) rfl ?_
    obtain rfl := Option.some.inj h
    rw [hk]
    exact ev_ret kc_210 rfl rfl rfl
/-- WakeTowerModel.comesOut(I)V: 211, W -/
theorem kc_211 : mKc 211 = k_X12_comesOut := rfl
def f_X12_comesOut_16 (l1 : Int32) (l2 : Int32) (M0 : mM) : Option ((Unit × mM) ⊕ (Int32 × mM)) :=
  b1 (f_X12_people M0) (fun v1 => bif decide (v1 ≤ l2) then (some (.inl ((), M0))) else (gd (mIn (f_X12_at l2 (6 : Int32)) 2122) (gd (mIn (f_X12_at l2 (6 : Int32)) 2122) (wr (mst M0 216 (ix (f_X12_at l2 (6 : Int32))) ((M0 216 (ix (f_X12_at l2 (6 : Int32)))) &&& (((1 : Int32) <<< (l1 &&& (31 : Int32))) ^^^ (-1 : Int32)))) (fun M5 => some (.inr ((l2 + (1 : Int32)), M5)))))))
set_option maxRecDepth 8000 in
theorem e_X12_comesOut_16 {l1 : Int32} {l2 : Int32} {M0 : mM} {R : mZ} {out : ((Unit × mM) ⊕ (Int32 × mM))}  (h : f_X12_comesOut_16 l1 l2 M0 = some out) (hk : (∀ s' : Int32 × mM, out = .inr s' → Ev (1) 211 16 [some (.ref 215), some (.int l1), some (.int s'.1)] [] (s'.2) R) ∧ (∀ e1 : (Unit × mM), out = .inl e1 → R = emW eU e1)) : Ev (1) 211 16 [some (.ref 215), some (.int l1), some (.int l2)] [] M0 R := by
  unfold f_X12_comesOut_16 at h
  refine ev_go kc_211 2 (i' := 18) (L' := [some (.ref 215), some (.int l1), some (.int l2)]) (st' := [.ref 215, .int l2]) (M' := M0) rfl ?_
  obtain ⟨v1, hc1, h⟩ := o_b1 h
  refine ev_cl0 (ins := .invokevirtual 71) kc_211 rfl rfl (a := 190) (as := [.ref 215]) (rest := [.int l2]) rfl rfl (Cs.deep (c_X12_people (M0 := M0) hc1) (by decide)) ?_
  rcases o_bif h with ⟨hb2, h⟩ | ⟨hb2, h⟩
  · refine ev_goT kc_211 1 (t := 36) (e := 20) (L' := [some (.ref 215), some (.int l1), some (.int l2)]) (st' := []) rfl hb2 ?_
    obtain rfl := Option.some.inj h
    rw [show _ from (hk.2 _ rfl)]
    exact ev_vret kc_211 rfl rfl rfl
  · refine ev_goF kc_211 1 (t := 36) (e := 20) (L' := [some (.ref 215), some (.int l1), some (.int l2)]) (st' := []) rfl hb2 ?_
    refine ev_go kc_211 4 (i' := 24) (L' := [some (.ref 215), some (.int l1), some (.int l2)]) (st' := [.int (6 : Int32), .int l2, .ref 216]) (M' := M0) rfl ?_
    refine ev_cl0 (ins := .invokestatic 75) kc_211 rfl rfl (a := 192) (as := [.int l2, .int (6 : Int32)]) (rest := [.ref 216]) rfl rfl (Cs.deep (c_X12_at (M0 := M0)) (by decide)) ?_
    refine ev_go kc_211 1 (i' := 26) (L' := [some (.ref 215), some (.int l1), some (.int l2)]) (st' := [.int (f_X12_at l2 (6 : Int32)), .ref 216, .int (f_X12_at l2 (6 : Int32)), .ref 216]) (M' := M0) rfl ?_
    obtain ⟨hg4, h⟩ := o_gd h
    refine ev_ia kc_211 rfl rfl hg4 ?_
    refine ev_go kc_211 6 (i' := 33) (L' := [some (.ref 215), some (.int l1), some (.int l2)]) (st' := [.int ((M0 216 (ix (f_X12_at l2 (6 : Int32)))) &&& (((1 : Int32) <<< (l1 &&& (31 : Int32))) ^^^ (-1 : Int32))), .int (f_X12_at l2 (6 : Int32)), .ref 216]) (M' := M0) rfl ?_
    obtain ⟨hg6, h⟩ := o_gd h
    obtain ⟨M5, hM5, h⟩ := o_wr h
    refine ev_is kc_211 rfl rfl hg6 hM5 ?_
    refine ev_go kc_211 2 (i' := 16) (L' := [some (.ref 215), some (.int l1), some (.int (l2 + (1 : Int32)))]) (st' := []) (M' := M5) rfl ?_
    obtain rfl := Option.some.inj h
    exact Ev.forget (mLe.kp (mLe.kp (mLe.kp mLe.nl))) (hk.1 ((l2 + (1 : Int32)), M5) rfl)
def f_X12_comesOut_l16 (l1 : Int32) (l2 : Int32) (M0 : mM) : Option (Unit × mM) :=
  wh 100000 (fun s : Int32 × mM => f_X12_comesOut_16 l1 s.1 s.2) (l2, M0)
theorem e_X12_comesOut_l16 {l1 : Int32} {l2 : Int32} {M0 : mM} {R : mZ} {out : (Unit × mM)}  (h : f_X12_comesOut_l16 l1 l2 M0 = some out) (hk : R = emW eU out) : Ev (1) 211 16 [some (.ref 215), some (.int l1), some (.int l2)] [] M0 R := by
  unfold f_X12_comesOut_l16 at h
  exact wh_ev (P := fun s : Int32 × mM => Ev (1) 211 16 [some (.ref 215), some (.int l1), some (.int s.1)] [] s.2 R) (Q := fun e : (Unit × mM) => R = emW eU e) (fun s o hb h1 h2 => e_X12_comesOut_16  hb ⟨h1, h2⟩) 100000 _ _ h hk
def f_X12_comesOut (p1 : Int32) (M0 : mM) : Option (Unit × mM) :=
  gd (mIn (f_X12_at p1 (5 : Int32)) 2122) (wr (mst M0 216 (ix (f_X12_at p1 (5 : Int32))) (-1 : Int32)) (fun M8 => gd (mIn (f_X12_at p1 (6 : Int32)) 2122) (wr (mst M8 216 (ix (f_X12_at p1 (6 : Int32))) (0 : Int32)) (fun M11 => f_X12_comesOut_l16 p1 (0 : Int32) M11))))
set_option maxRecDepth 8000 in
theorem c_X12_comesOut {p1 : Int32} {M0 : mM} {out : (Unit × mM)} (h : f_X12_comesOut p1 M0 = some out) : Cs (1) 211 [.ref 215, .int p1] M0 (emW eU out) := by
  generalize hk : emW eU out = R
  replace hk := hk.symm
  unfold f_X12_comesOut at h
  show Ev (1) 211 0 [some (.ref 215), some (.int p1), none] [] M0 R
  refine ev_go kc_211 4 (i' := 4) (L' := [some (.ref 215), some (.int p1), none]) (st' := [.int (5 : Int32), .int p1, .ref 216]) (M' := M0) rfl ?_
  refine ev_cl0 (ins := .invokestatic 75) kc_211 rfl rfl (a := 192) (as := [.int p1, .int (5 : Int32)]) (rest := [.ref 216]) rfl rfl (Cs.deep (c_X12_at (M0 := M0)) (by decide)) ?_
  refine ev_go kc_211 1 (i' := 6) (L' := [some (.ref 215), some (.int p1), none]) (st' := [.int (-1 : Int32), .int (f_X12_at p1 (5 : Int32)), .ref 216]) (M' := M0) rfl ?_
  obtain ⟨hg9, h⟩ := o_gd h
  obtain ⟨M8, hM8, h⟩ := o_wr h
  refine ev_is kc_211 rfl rfl hg9 hM8 ?_
  refine ev_go kc_211 4 (i' := 11) (L' := [some (.ref 215), some (.int p1), none]) (st' := [.int (6 : Int32), .int p1, .ref 216]) (M' := M8) rfl ?_
  refine ev_cl0 (ins := .invokestatic 75) kc_211 rfl rfl (a := 192) (as := [.int p1, .int (6 : Int32)]) (rest := [.ref 216]) rfl rfl (Cs.deep (c_X12_at (M0 := M8)) (by decide)) ?_
  refine ev_go kc_211 1 (i' := 13) (L' := [some (.ref 215), some (.int p1), none]) (st' := [.int (0 : Int32), .int (f_X12_at p1 (6 : Int32)), .ref 216]) (M' := M8) rfl ?_
  obtain ⟨hg12, h⟩ := o_gd h
  obtain ⟨M11, hM11, h⟩ := o_wr h
  refine ev_is kc_211 rfl rfl hg12 hM11 ?_
  refine ev_go kc_211 2 (i' := 16) (L' := [some (.ref 215), some (.int p1), some (.int (0 : Int32))]) (st' := []) (M' := M11) rfl ?_
  exact Ev.forget (mLe.kp (mLe.kp (mLe.kp mLe.nl))) (e_X12_comesOut_l16  h hk)
/-- WakeTowerModel.comesOutOf(I)V: 212, W -/
theorem kc_212 : mKc 212 = k_X12_comesOutOf := rfl
def f_X12_comesOutOf_2 (l1 : Int32) (l2 : Int32) (M0 : mM) : Option ((Unit × mM) ⊕ (Int32 × mM)) :=
  b1 (f_X12_people M0) (fun v1 => bif decide (v1 ≤ l2) then (some (.inl ((), M0))) else (bif (f_X12_has l1 l2) then (b2 (f_X12_comesOut l2 M0) (fun v5 M5 => some (.inr ((l2 + (1 : Int32)), M5)))) else (some (.inr ((l2 + (1 : Int32)), M0)))))
set_option maxRecDepth 8000 in
theorem e_X12_comesOutOf_2 {l1 : Int32} {l2 : Int32} {M0 : mM} {R : mZ} {out : ((Unit × mM) ⊕ (Int32 × mM))}  (h : f_X12_comesOutOf_2 l1 l2 M0 = some out) (hk : (∀ s' : Int32 × mM, out = .inr s' → Ev (2) 212 2 [some (.ref 215), some (.int l1), some (.int s'.1)] [] (s'.2) R) ∧ (∀ e1 : (Unit × mM), out = .inl e1 → R = emW eU e1)) : Ev (2) 212 2 [some (.ref 215), some (.int l1), some (.int l2)] [] M0 R := by
  unfold f_X12_comesOutOf_2 at h
  refine ev_go kc_212 2 (i' := 4) (L' := [some (.ref 215), some (.int l1), some (.int l2)]) (st' := [.ref 215, .int l2]) (M' := M0) rfl ?_
  obtain ⟨v1, hc1, h⟩ := o_b1 h
  refine ev_cl0 (ins := .invokevirtual 71) kc_212 rfl rfl (a := 190) (as := [.ref 215]) (rest := [.int l2]) rfl rfl (Cs.deep (c_X12_people (M0 := M0) hc1) (by decide)) ?_
  rcases o_bif h with ⟨hb2, h⟩ | ⟨hb2, h⟩
  · refine ev_goT kc_212 1 (t := 15) (e := 6) (L' := [some (.ref 215), some (.int l1), some (.int l2)]) (st' := []) rfl hb2 ?_
    obtain rfl := Option.some.inj h
    rw [show _ from (hk.2 _ rfl)]
    exact ev_vret kc_212 rfl rfl rfl
  · refine ev_goF kc_212 1 (t := 15) (e := 6) (L' := [some (.ref 215), some (.int l1), some (.int l2)]) (st' := []) rfl hb2 ?_
    refine ev_go kc_212 2 (i' := 8) (L' := [some (.ref 215), some (.int l1), some (.int l2)]) (st' := [.int l2, .int l1]) (M' := M0) rfl ?_
    refine ev_cl0 (ins := .invokestatic 106) kc_212 rfl rfl (a := 183) (as := [.int l1, .int l2]) (rest := []) rfl rfl (Cs.deep (c_X12_has (M0 := M0)) (by decide)) ?_
    rcases o_bif h with ⟨hb4, h⟩ | ⟨hb4, h⟩
    · refine ev_goF kc_212 1 (t := 13) (e := 10) (L' := [some (.ref 215), some (.int l1), some (.int l2)]) (st' := []) rfl (mB_e0f hb4) ?_
      refine ev_go kc_212 2 (i' := 12) (L' := [some (.ref 215), some (.int l1), some (.int l2)]) (st' := [.int l2, .ref 215]) (M' := M0) rfl ?_
      obtain ⟨v5, M5, hc5, h⟩ := o_b2 h
      refine ev_cl0 (ins := .invokevirtual 126) kc_212 rfl rfl (a := 211) (as := [.ref 215, .int l2]) (rest := []) rfl rfl (Cs.deep (c_X12_comesOut hc5) (by decide)) ?_
      refine ev_go kc_212 2 (i' := 2) (L' := [some (.ref 215), some (.int l1), some (.int (l2 + (1 : Int32)))]) (st' := []) (M' := M5) rfl ?_
      obtain rfl := Option.some.inj h
      exact Ev.forget (mLe.kp (mLe.kp (mLe.kp mLe.nl))) (hk.1 ((l2 + (1 : Int32)), M5) rfl)
    · refine ev_goT kc_212 1 (t := 13) (e := 10) (L' := [some (.ref 215), some (.int l1), some (.int l2)]) (st' := []) rfl (mB_e0t hb4) ?_
      refine ev_go kc_212 2 (i' := 2) (L' := [some (.ref 215), some (.int l1), some (.int (l2 + (1 : Int32)))]) (st' := []) (M' := M0) rfl ?_
      obtain rfl := Option.some.inj h
      exact Ev.forget (mLe.kp (mLe.kp (mLe.kp mLe.nl))) (hk.1 ((l2 + (1 : Int32)), M0) rfl)
def f_X12_comesOutOf_l2 (l1 : Int32) (l2 : Int32) (M0 : mM) : Option (Unit × mM) :=
  wh 100000 (fun s : Int32 × mM => f_X12_comesOutOf_2 l1 s.1 s.2) (l2, M0)
theorem e_X12_comesOutOf_l2 {l1 : Int32} {l2 : Int32} {M0 : mM} {R : mZ} {out : (Unit × mM)}  (h : f_X12_comesOutOf_l2 l1 l2 M0 = some out) (hk : R = emW eU out) : Ev (2) 212 2 [some (.ref 215), some (.int l1), some (.int l2)] [] M0 R := by
  unfold f_X12_comesOutOf_l2 at h
  exact wh_ev (P := fun s : Int32 × mM => Ev (2) 212 2 [some (.ref 215), some (.int l1), some (.int s.1)] [] s.2 R) (Q := fun e : (Unit × mM) => R = emW eU e) (fun s o hb h1 h2 => e_X12_comesOutOf_2  hb ⟨h1, h2⟩) 100000 _ _ h hk
def f_X12_comesOutOf (p1 : Int32) (M0 : mM) : Option (Unit × mM) :=
  f_X12_comesOutOf_l2 p1 (0 : Int32) M0
set_option maxRecDepth 8000 in
theorem c_X12_comesOutOf {p1 : Int32} {M0 : mM} {out : (Unit × mM)} (h : f_X12_comesOutOf p1 M0 = some out) : Cs (2) 212 [.ref 215, .int p1] M0 (emW eU out) := by
  generalize hk : emW eU out = R
  replace hk := hk.symm
  unfold f_X12_comesOutOf at h
  show Ev (2) 212 0 [some (.ref 215), some (.int p1), none] [] M0 R
  refine ev_go kc_212 2 (i' := 2) (L' := [some (.ref 215), some (.int p1), some (.int (0 : Int32))]) (st' := []) (M' := M0) rfl ?_
  exact Ev.forget (mLe.kp (mLe.kp (mLe.kp mLe.nl))) (e_X12_comesOutOf_l2  h hk)
/-- WakeTowerModel.tells(III)V: 213, W -/
theorem kc_213 : mKc 213 = k_X12_tells := rfl
def f_X12_tells_2 (l1 : Int32) (l2 : Int32) (l3 : Int32) (l4 : Int32) (M0 : mM) : Option ((Unit × mM) ⊕ (Int32 × mM)) :=
  bif decide (l4 < (6 : Int32)) then (wr (mst M0 216 (ix (64 : Int32)) (M0 216 (ix (4 : Int32)))) (fun M2 => wr (mst M2 216 (ix (65 : Int32)) (M2 216 (ix (3 : Int32)))) (fun M3 => wr (mst M3 216 (ix (66 : Int32)) l1) (fun M4 => wr (mst M4 216 (ix (67 : Int32)) l2) (fun M5 => wr (mst M5 216 (ix (68 : Int32)) l3) (fun M6 => gd (mIn l1 8) (wr (mst M6 216 (ix (69 : Int32)) (M6 221 (ix l1))) (fun M8 => wr (mst M8 216 (ix (6 : Int32)) (mMin (60 : Int32) ((M8 216 (ix (6 : Int32))) + (1 : Int32)))) (fun M9 => some (.inl ((), M9))))))))))) else (gd (mIn (((64 : Int32) + l4) - (6 : Int32)) 2122) (gd (mIn ((64 : Int32) + l4) 2122) (wr (mst M0 216 (ix ((64 : Int32) + l4)) (M0 216 (ix (((64 : Int32) + l4) - (6 : Int32))))) (fun M11 => some (.inr ((l4 + (-1 : Int32)), M11))))))
set_option maxRecDepth 8000 in
theorem e_X12_tells_2 {l1 : Int32} {l2 : Int32} {l3 : Int32} {l4 : Int32} {M0 : mM} {R : mZ} {out : ((Unit × mM) ⊕ (Int32 × mM))}  (h : f_X12_tells_2 l1 l2 l3 l4 M0 = some out) (hk : (∀ s' : Int32 × mM, out = .inr s' → Ev (8) 213 2 [some (.ref 215), some (.int l1), some (.int l2), some (.int l3), some (.int s'.1)] [] (s'.2) R) ∧ (∀ e1 : (Unit × mM), out = .inl e1 → R = emW eU e1)) : Ev (8) 213 2 [some (.ref 215), some (.int l1), some (.int l2), some (.int l3), some (.int l4)] [] M0 R := by
  unfold f_X12_tells_2 at h
  rcases o_bif h with ⟨hb1, h⟩ | ⟨hb1, h⟩
  · refine ev_goT kc_213 3 (t := 21) (e := 5) (L' := [some (.ref 215), some (.int l1), some (.int l2), some (.int l3), some (.int l4)]) (st' := []) rfl hb1 ?_
    refine ev_go kc_213 6 (i' := 27) (L' := [some (.ref 215), some (.int l1), some (.int l2), some (.int l3), some (.int l4)]) (st' := [.int (4 : Int32), .ref 216, .int (64 : Int32), .ref 216]) (M' := M0) rfl ?_
    refine ev_ia kc_213 rfl rfl rfl ?_
    obtain ⟨M2, hM2, h⟩ := o_wr h
    refine ev_is kc_213 rfl rfl rfl hM2 ?_
    refine ev_go kc_213 6 (i' := 35) (L' := [some (.ref 215), some (.int l1), some (.int l2), some (.int l3), some (.int l4)]) (st' := [.int (3 : Int32), .ref 216, .int (65 : Int32), .ref 216]) (M' := M2) rfl ?_
    refine ev_ia kc_213 rfl rfl rfl ?_
    obtain ⟨M3, hM3, h⟩ := o_wr h
    refine ev_is kc_213 rfl rfl rfl hM3 ?_
    refine ev_go kc_213 4 (i' := 41) (L' := [some (.ref 215), some (.int l1), some (.int l2), some (.int l3), some (.int l4)]) (st' := [.int l1, .int (66 : Int32), .ref 216]) (M' := M3) rfl ?_
    obtain ⟨M4, hM4, h⟩ := o_wr h
    refine ev_is kc_213 rfl rfl rfl hM4 ?_
    refine ev_go kc_213 4 (i' := 46) (L' := [some (.ref 215), some (.int l1), some (.int l2), some (.int l3), some (.int l4)]) (st' := [.int l2, .int (67 : Int32), .ref 216]) (M' := M4) rfl ?_
    obtain ⟨M5, hM5, h⟩ := o_wr h
    refine ev_is kc_213 rfl rfl rfl hM5 ?_
    refine ev_go kc_213 4 (i' := 51) (L' := [some (.ref 215), some (.int l1), some (.int l2), some (.int l3), some (.int l4)]) (st' := [.int l3, .int (68 : Int32), .ref 216]) (M' := M5) rfl ?_
    obtain ⟨M6, hM6, h⟩ := o_wr h
    refine ev_is kc_213 rfl rfl rfl hM6 ?_
    refine ev_go kc_213 6 (i' := 58) (L' := [some (.ref 215), some (.int l1), some (.int l2), some (.int l3), some (.int l4)]) (st' := [.int l1, .ref 221, .int (69 : Int32), .ref 216]) (M' := M6) rfl ?_
    obtain ⟨hg7, h⟩ := o_gd h
    refine ev_ia kc_213 rfl rfl hg7 ?_
    obtain ⟨M8, hM8, h⟩ := o_wr h
    refine ev_is kc_213 rfl rfl rfl hM8 ?_
    refine ev_go kc_213 7 (i' := 67) (L' := [some (.ref 215), some (.int l1), some (.int l2), some (.int l3), some (.int l4)]) (st' := [.int (6 : Int32), .ref 216, .int (60 : Int32), .int (6 : Int32), .ref 216]) (M' := M8) rfl ?_
    refine ev_ia kc_213 rfl rfl rfl ?_
    refine ev_go kc_213 2 (i' := 70) (L' := [some (.ref 215), some (.int l1), some (.int l2), some (.int l3), some (.int l4)]) (st' := [.int ((M8 216 (ix (6 : Int32))) + (1 : Int32)), .int (60 : Int32), .int (6 : Int32), .ref 216]) (M' := M8) rfl ?_
    refine ev_pm kc_213 rfl rfl rfl rfl (as := [.int (60 : Int32), .int ((M8 216 (ix (6 : Int32))) + (1 : Int32))]) (rest := [.int (6 : Int32), .ref 216]) rfl rfl rfl (v := some (mMin (60 : Int32) ((M8 216 (ix (6 : Int32))) + (1 : Int32)))) rfl ?_
    obtain ⟨M9, hM9, h⟩ := o_wr h
    refine ev_is kc_213 rfl rfl rfl hM9 ?_
    obtain rfl := Option.some.inj h
    rw [show _ from (hk.2 _ rfl)]
    exact ev_vret kc_213 rfl rfl rfl
  · refine ev_goF kc_213 3 (t := 21) (e := 5) (L' := [some (.ref 215), some (.int l1), some (.int l2), some (.int l3), some (.int l4)]) (st' := []) rfl hb1 ?_
    refine ev_go kc_213 12 (i' := 17) (L' := [some (.ref 215), some (.int l1), some (.int l2), some (.int l3), some (.int l4)]) (st' := [.int (((64 : Int32) + l4) - (6 : Int32)), .ref 216, .int ((64 : Int32) + l4), .ref 216]) (M' := M0) rfl ?_
    obtain ⟨hg10, h⟩ := o_gd h
    refine ev_ia kc_213 rfl rfl hg10 ?_
    obtain ⟨hg12, h⟩ := o_gd h
    obtain ⟨M11, hM11, h⟩ := o_wr h
    refine ev_is kc_213 rfl rfl hg12 hM11 ?_
    refine ev_go kc_213 2 (i' := 2) (L' := [some (.ref 215), some (.int l1), some (.int l2), some (.int l3), some (.int (l4 + (-1 : Int32)))]) (st' := []) (M' := M11) rfl ?_
    obtain rfl := Option.some.inj h
    exact Ev.forget (mLe.kp (mLe.kp (mLe.kp (mLe.kp (mLe.kp mLe.nl))))) (hk.1 ((l4 + (-1 : Int32)), M11) rfl)
def f_X12_tells_l2 (l1 : Int32) (l2 : Int32) (l3 : Int32) (l4 : Int32) (M0 : mM) : Option (Unit × mM) :=
  wh 100000 (fun s : Int32 × mM => f_X12_tells_2 l1 l2 l3 s.1 s.2) (l4, M0)
theorem e_X12_tells_l2 {l1 : Int32} {l2 : Int32} {l3 : Int32} {l4 : Int32} {M0 : mM} {R : mZ} {out : (Unit × mM)}  (h : f_X12_tells_l2 l1 l2 l3 l4 M0 = some out) (hk : R = emW eU out) : Ev (8) 213 2 [some (.ref 215), some (.int l1), some (.int l2), some (.int l3), some (.int l4)] [] M0 R := by
  unfold f_X12_tells_l2 at h
  exact wh_ev (P := fun s : Int32 × mM => Ev (8) 213 2 [some (.ref 215), some (.int l1), some (.int l2), some (.int l3), some (.int s.1)] [] s.2 R) (Q := fun e : (Unit × mM) => R = emW eU e) (fun s o hb h1 h2 => e_X12_tells_2  hb ⟨h1, h2⟩) 100000 _ _ h hk
def f_X12_tells (p1 : Int32) (p2 : Int32) (p3 : Int32) (M0 : mM) : Option (Unit × mM) :=
  f_X12_tells_l2 p1 p2 p3 (359 : Int32) M0
set_option maxRecDepth 8000 in
theorem c_X12_tells {p1 : Int32} {p2 : Int32} {p3 : Int32} {M0 : mM} {out : (Unit × mM)} (h : f_X12_tells p1 p2 p3 M0 = some out) : Cs (8) 213 [.ref 215, .int p1, .int p2, .int p3] M0 (emW eU out) := by
  generalize hk : emW eU out = R
  replace hk := hk.symm
  unfold f_X12_tells at h
  show Ev (8) 213 0 [some (.ref 215), some (.int p1), some (.int p2), some (.int p3), none] [] M0 R
  refine ev_go kc_213 2 (i' := 2) (L' := [some (.ref 215), some (.int p1), some (.int p2), some (.int p3), some (.int (359 : Int32))]) (st' := []) (M' := M0) rfl ?_
  exact Ev.forget (mLe.kp (mLe.kp (mLe.kp (mLe.kp (mLe.kp mLe.nl))))) (e_X12_tells_l2  h hk)
/-- WakeTowerModel.allFall()V: 214, W -/
theorem kc_214 : mKc 214 = k_X12_allFall := rfl
def f_X12_allFall_45 (l1 : Int32) (l2 : Int32) (l3 : Int32) (s1 : Int32) (s2 : Int32) (s3 : Bool) (M0 : mM) : Option (((Unit × mM) ⊕ (mM)) ⊕ (Int32 × mM)) :=
  b2 (f_X12_tells s1 s2 (mB s3) M0) (fun v1 M1 => gd (mIn (M1 215 10) 9) (wr (mst M1 222 (ix (M1 215 10)) l3) (fun M2 => wr (mst M2 215 10 ((M2 215 10) + (1 : Int32))) (fun M4 => gd (mIn (f_X12_at l3 (3 : Int32)) 2122) (wr (mst M4 216 (ix (f_X12_at l3 (3 : Int32))) (0 : Int32)) (fun M6 => some (.inr ((l3 + (1 : Int32)), M6))))))))
set_option maxRecDepth 8000 in
theorem e_X12_allFall_45 {l1 : Int32} {l2 : Int32} {l3 : Int32} {s1 : Int32} {s2 : Int32} {s3 : Bool} {M0 : mM} {R : mZ} {out : (((Unit × mM) ⊕ (mM)) ⊕ (Int32 × mM))}  (h : f_X12_allFall_45 l1 l2 l3 s1 s2 s3 M0 = some out) (hk : (∀ s' : Int32 × mM, out = .inr s' → Ev (9) 214 25 [some (.ref 215), some (.int l1), some (.int l2), some (.int s'.1)] [] (s'.2) R) ∧ (∀ e2 : ((Unit × mM) ⊕ (mM)), out = .inl e2 → (∀ s' : mM, e2 = .inr s' → Ev (9) 214 6 [some (.ref 215), none, none, none] [] (s') R) ∧ (∀ e1 : (Unit × mM), e2 = .inl e1 → R = emW eU e1))) : Ev (9) 214 45 [some (.ref 215), some (.int l1), some (.int l2), some (.int l3)] [.int (mB s3), .int s2, .int s1, .ref 215] M0 R := by
  unfold f_X12_allFall_45 at h
  obtain ⟨v1, M1, hc1, h⟩ := o_b2 h
  refine ev_cl0 (ins := .invokevirtual 144) kc_214 rfl rfl (a := 213) (as := [.ref 215, .int s1, .int s2, .int (mB s3)]) (rest := []) rfl rfl (Cs.deep (c_X12_tells hc1) (by decide)) ?_
  refine ev_go kc_214 5 (i' := 51) (L' := [some (.ref 215), some (.int l1), some (.int l2), some (.int l3)]) (st' := [.int l3, .int (M1 215 10), .ref 222]) (M' := M1) rfl ?_
  obtain ⟨hg3, h⟩ := o_gd h
  obtain ⟨M2, hM2, h⟩ := o_wr h
  refine ev_is kc_214 rfl rfl hg3 hM2 ?_
  refine ev_go kc_214 5 (i' := 57) (L' := [some (.ref 215), some (.int l1), some (.int l2), some (.int l3)]) (st' := [.int ((M2 215 10) + (1 : Int32)), .ref 215]) (M' := M2) rfl ?_
  obtain ⟨M4, hM4, h⟩ := o_wr h
  refine ev_pf kc_214 rfl rfl rfl rfl (fun hc => absurd hc (by decide)) hM4 ?_
  refine ev_go kc_214 4 (i' := 62) (L' := [some (.ref 215), some (.int l1), some (.int l2), some (.int l3)]) (st' := [.int (3 : Int32), .int l3, .ref 216]) (M' := M4) rfl ?_
  refine ev_cl0 (ins := .invokestatic 75) kc_214 rfl rfl (a := 192) (as := [.int l3, .int (3 : Int32)]) (rest := [.ref 216]) rfl rfl (Cs.deep (c_X12_at (M0 := M4)) (by decide)) ?_
  refine ev_go kc_214 1 (i' := 64) (L' := [some (.ref 215), some (.int l1), some (.int l2), some (.int l3)]) (st' := [.int (0 : Int32), .int (f_X12_at l3 (3 : Int32)), .ref 216]) (M' := M4) rfl ?_
  obtain ⟨hg7, h⟩ := o_gd h
  obtain ⟨M6, hM6, h⟩ := o_wr h
  refine ev_is kc_214 rfl rfl hg7 hM6 ?_
  refine ev_go kc_214 2 (i' := 25) (L' := [some (.ref 215), some (.int l1), some (.int l2), some (.int (l3 + (1 : Int32)))]) (st' := []) (M' := M6) rfl ?_
  obtain rfl := Option.some.inj h
  exact Ev.forget (mLe.kp (mLe.kp (mLe.kp (mLe.kp mLe.nl)))) (hk.1 ((l3 + (1 : Int32)), M6) rfl)
def f_X12_allFall_25 (l1 : Int32) (l2 : Int32) (l3 : Int32) (M0 : mM) : Option (((Unit × mM) ⊕ (mM)) ⊕ (Int32 × mM)) :=
  b1 (f_X12_people M0) (fun v8 => bif decide (v8 ≤ l3) then (b2 (f_X12_comesOutOf l2 M0) (fun v10 M10 => some (.inl (.inr M10)))) else (bif (f_X12_has l2 l3) then (bif (f_X12_has l1 l3) then (f_X12_allFall_45 l1 l2 l3 l3 (M0 215 11) false M0) else (f_X12_allFall_45 l1 l2 l3 l3 (M0 215 11) true M0)) else (some (.inr ((l3 + (1 : Int32)), M0)))))
set_option maxRecDepth 8000 in
theorem e_X12_allFall_25 {l1 : Int32} {l2 : Int32} {l3 : Int32} {M0 : mM} {R : mZ} {out : (((Unit × mM) ⊕ (mM)) ⊕ (Int32 × mM))}  (h : f_X12_allFall_25 l1 l2 l3 M0 = some out) (hk : (∀ s' : Int32 × mM, out = .inr s' → Ev (9) 214 25 [some (.ref 215), some (.int l1), some (.int l2), some (.int s'.1)] [] (s'.2) R) ∧ (∀ e2 : ((Unit × mM) ⊕ (mM)), out = .inl e2 → (∀ s' : mM, e2 = .inr s' → Ev (9) 214 6 [some (.ref 215), none, none, none] [] (s') R) ∧ (∀ e1 : (Unit × mM), e2 = .inl e1 → R = emW eU e1))) : Ev (9) 214 25 [some (.ref 215), some (.int l1), some (.int l2), some (.int l3)] [] M0 R := by
  unfold f_X12_allFall_25 at h
  refine ev_go kc_214 2 (i' := 27) (L' := [some (.ref 215), some (.int l1), some (.int l2), some (.int l3)]) (st' := [.ref 215, .int l3]) (M' := M0) rfl ?_
  obtain ⟨v8, hc8, h⟩ := o_b1 h
  refine ev_cl0 (ins := .invokevirtual 71) kc_214 rfl rfl (a := 190) (as := [.ref 215]) (rest := [.int l3]) rfl rfl (Cs.deep (c_X12_people (M0 := M0) hc8) (by decide)) ?_
  rcases o_bif h with ⟨hb9, h⟩ | ⟨hb9, h⟩
  · refine ev_goT kc_214 1 (t := 67) (e := 29) (L' := [some (.ref 215), some (.int l1), some (.int l2), some (.int l3)]) (st' := []) rfl hb9 ?_
    refine ev_go kc_214 2 (i' := 69) (L' := [some (.ref 215), some (.int l1), some (.int l2), some (.int l3)]) (st' := [.int l2, .ref 215]) (M' := M0) rfl ?_
    obtain ⟨v10, M10, hc10, h⟩ := o_b2 h
    refine ev_cl0 (ins := .invokevirtual 148) kc_214 rfl rfl (a := 212) (as := [.ref 215, .int l2]) (rest := []) rfl rfl (Cs.deep (c_X12_comesOutOf hc10) (by decide)) ?_
    refine ev_go kc_214 1 (i' := 6) (L' := [some (.ref 215), some (.int l1), some (.int l2), some (.int l3)]) (st' := []) (M' := M10) rfl ?_
    obtain rfl := Option.some.inj h
    exact Ev.forget (mLe.kp (mLe.sk (mLe.sk (mLe.sk mLe.nl)))) ((hk.2 _ rfl).1 M10 rfl)
  · refine ev_goF kc_214 1 (t := 67) (e := 29) (L' := [some (.ref 215), some (.int l1), some (.int l2), some (.int l3)]) (st' := []) rfl hb9 ?_
    refine ev_go kc_214 2 (i' := 31) (L' := [some (.ref 215), some (.int l1), some (.int l2), some (.int l3)]) (st' := [.int l3, .int l2]) (M' := M0) rfl ?_
    refine ev_cl0 (ins := .invokestatic 106) kc_214 rfl rfl (a := 183) (as := [.int l2, .int l3]) (rest := []) rfl rfl (Cs.deep (c_X12_has (M0 := M0)) (by decide)) ?_
    rcases o_bif h with ⟨hb12, h⟩ | ⟨hb12, h⟩
    · refine ev_goT kc_214 1 (t := 34) (e := 33) (L' := [some (.ref 215), some (.int l1), some (.int l2), some (.int l3)]) (st' := []) rfl (mB_n0t hb12) ?_
      refine ev_go kc_214 6 (i' := 40) (L' := [some (.ref 215), some (.int l1), some (.int l2), some (.int l3)]) (st' := [.int l3, .int l1, .int (M0 215 11), .int l3, .ref 215]) (M' := M0) rfl ?_
      refine ev_cl0 (ins := .invokestatic 106) kc_214 rfl rfl (a := 183) (as := [.int l1, .int l3]) (rest := [.int (M0 215 11), .int l3, .ref 215]) rfl rfl (Cs.deep (c_X12_has (M0 := M0)) (by decide)) ?_
      rcases o_bif h with ⟨hb14, h⟩ | ⟨hb14, h⟩
      · refine ev_goF kc_214 1 (t := 44) (e := 42) (L' := [some (.ref 215), some (.int l1), some (.int l2), some (.int l3)]) (st' := [.int (M0 215 11), .int l3, .ref 215]) rfl (mB_e0f hb14) ?_
        refine ev_go kc_214 2 (i' := 45) (L' := [some (.ref 215), some (.int l1), some (.int l2), some (.int l3)]) (st' := [.int (0 : Int32), .int (M0 215 11), .int l3, .ref 215]) (M' := M0) rfl ?_
        exact Ev.forget (mLe.kp (mLe.kp (mLe.kp (mLe.kp mLe.nl)))) (e_X12_allFall_45  h hk)
      · refine ev_goT kc_214 1 (t := 44) (e := 42) (L' := [some (.ref 215), some (.int l1), some (.int l2), some (.int l3)]) (st' := [.int (M0 215 11), .int l3, .ref 215]) rfl (mB_e0t hb14) ?_
        refine ev_go kc_214 1 (i' := 45) (L' := [some (.ref 215), some (.int l1), some (.int l2), some (.int l3)]) (st' := [.int (1 : Int32), .int (M0 215 11), .int l3, .ref 215]) (M' := M0) rfl ?_
        exact Ev.forget (mLe.kp (mLe.kp (mLe.kp (mLe.kp mLe.nl)))) (e_X12_allFall_45  h hk)
    · refine ev_goF kc_214 1 (t := 34) (e := 33) (L' := [some (.ref 215), some (.int l1), some (.int l2), some (.int l3)]) (st' := []) rfl (mB_n0f hb12) ?_
      refine ev_go kc_214 3 (i' := 25) (L' := [some (.ref 215), some (.int l1), some (.int l2), some (.int (l3 + (1 : Int32)))]) (st' := []) (M' := M0) rfl ?_
      obtain rfl := Option.some.inj h
      exact Ev.forget (mLe.kp (mLe.kp (mLe.kp (mLe.kp mLe.nl)))) (hk.1 ((l3 + (1 : Int32)), M0) rfl)
def f_X12_allFall_l25 (l1 : Int32) (l2 : Int32) (l3 : Int32) (M0 : mM) : Option ((Unit × mM) ⊕ (mM)) :=
  wh 100000 (fun s : Int32 × mM => f_X12_allFall_25 l1 l2 s.1 s.2) (l3, M0)
theorem e_X12_allFall_l25 {l1 : Int32} {l2 : Int32} {l3 : Int32} {M0 : mM} {R : mZ} {out : ((Unit × mM) ⊕ (mM))}  (h : f_X12_allFall_l25 l1 l2 l3 M0 = some out) (hk : (∀ s' : mM, out = .inr s' → Ev (9) 214 6 [some (.ref 215), none, none, none] [] (s') R) ∧ (∀ e1 : (Unit × mM), out = .inl e1 → R = emW eU e1)) : Ev (9) 214 25 [some (.ref 215), some (.int l1), some (.int l2), some (.int l3)] [] M0 R := by
  unfold f_X12_allFall_l25 at h
  exact wh_ev (P := fun s : Int32 × mM => Ev (9) 214 25 [some (.ref 215), some (.int l1), some (.int l2), some (.int s.1)] [] s.2 R) (Q := fun e : ((Unit × mM) ⊕ (mM)) => (∀ s' : mM, e = .inr s' → Ev (9) 214 6 [some (.ref 215), none, none, none] [] (s') R) ∧ (∀ e1 : (Unit × mM), e = .inl e1 → R = emW eU e1)) (fun s o hb h1 h2 => e_X12_allFall_25  hb ⟨h1, h2⟩) 100000 _ _ h hk
def f_X12_allFall_6 (M0 : mM) : Option ((Unit × mM) ⊕ (mM)) :=
  b2 (f_X12_stands M0) (fun v15 M15 => bif v15 then (some (.inl ((), M15))) else (b2 (f_X12_givesWay M15) (fun v17 M17 => b1 (f_X12_hanging M17) (fun v18 => wr (mst M17 215 11 ((M17 215 11) + (1 : Int32))) (fun M19 => f_X12_allFall_l25 v17 (v17 ||| v18) (0 : Int32) M19)))))
set_option maxRecDepth 8000 in
theorem e_X12_allFall_6 {M0 : mM} {R : mZ} {out : ((Unit × mM) ⊕ (mM))}  (h : f_X12_allFall_6 M0 = some out) (hk : (∀ s' : mM, out = .inr s' → Ev (9) 214 6 [some (.ref 215), none, none, none] [] (s') R) ∧ (∀ e1 : (Unit × mM), out = .inl e1 → R = emW eU e1)) : Ev (9) 214 6 [some (.ref 215), none, none, none] [] M0 R := by
  unfold f_X12_allFall_6 at h
  refine ev_go kc_214 1 (i' := 7) (L' := [some (.ref 215), none, none, none]) (st' := [.ref 215]) (M' := M0) rfl ?_
  obtain ⟨v15, M15, hc15, h⟩ := o_b2 h
  refine ev_cl0 (ins := .invokevirtual 140) kc_214 rfl rfl (a := 210) (as := [.ref 215]) (rest := []) rfl rfl (Cs.deep (c_X12_stands hc15) (by decide)) ?_
  rcases o_bif h with ⟨hb16, h⟩ | ⟨hb16, h⟩
  · refine ev_goT kc_214 1 (t := 71) (e := 9) (L' := [some (.ref 215), none, none, none]) (st' := []) rfl (mB_n0t hb16) ?_
    obtain rfl := Option.some.inj h
    rw [show _ from (hk.2 _ rfl)]
    exact ev_vret kc_214 rfl rfl rfl
  · refine ev_goF kc_214 1 (t := 71) (e := 9) (L' := [some (.ref 215), none, none, none]) (st' := []) rfl (mB_n0f hb16) ?_
    refine ev_go kc_214 1 (i' := 10) (L' := [some (.ref 215), none, none, none]) (st' := [.ref 215]) (M' := M15) rfl ?_
    obtain ⟨v17, M17, hc17, h⟩ := o_b2 h
    refine ev_cl0 (ins := .invokevirtual 120) kc_214 rfl rfl (a := 208) (as := [.ref 215]) (rest := []) rfl rfl (Cs.deep (c_X12_givesWay hc17) (by decide)) ?_
    refine ev_go kc_214 3 (i' := 14) (L' := [some (.ref 215), some (.int v17), none, none]) (st' := [.ref 215, .int v17]) (M' := M17) rfl ?_
    obtain ⟨v18, hc18, h⟩ := o_b1 h
    refine ev_cl0 (ins := .invokevirtual 123) kc_214 rfl rfl (a := 209) (as := [.ref 215]) (rest := [.int v17]) rfl rfl (Cs.deep (c_X12_hanging (M0 := M17) hc18) (by decide)) ?_
    refine ev_go kc_214 7 (i' := 22) (L' := [some (.ref 215), some (.int v17), some (.int (v17 ||| v18)), none]) (st' := [.int ((M17 215 11) + (1 : Int32)), .ref 215]) (M' := M17) rfl ?_
    obtain ⟨M19, hM19, h⟩ := o_wr h
    refine ev_pf kc_214 rfl rfl rfl rfl (fun hc => absurd hc (by decide)) hM19 ?_
    refine ev_go kc_214 2 (i' := 25) (L' := [some (.ref 215), some (.int v17), some (.int (v17 ||| v18)), some (.int (0 : Int32))]) (st' := []) (M' := M19) rfl ?_
    exact Ev.forget (mLe.kp (mLe.kp (mLe.kp (mLe.kp mLe.nl)))) (e_X12_allFall_l25  h hk)
def f_X12_allFall_l6 (M0 : mM) : Option (Unit × mM) :=
  wh 100000 (fun s : mM => f_X12_allFall_6 s) M0
theorem e_X12_allFall_l6 {M0 : mM} {R : mZ} {out : (Unit × mM)}  (h : f_X12_allFall_l6 M0 = some out) (hk : R = emW eU out) : Ev (9) 214 6 [some (.ref 215), none, none, none] [] M0 R := by
  unfold f_X12_allFall_l6 at h
  exact wh_ev (P := fun s : mM => Ev (9) 214 6 [some (.ref 215), none, none, none] [] s R) (Q := fun e : (Unit × mM) => R = emW eU e) (fun s o hb h1 h2 => e_X12_allFall_6  hb ⟨h1, h2⟩) 100000 _ _ h hk
def f_X12_allFall  (M0 : mM) : Option (Unit × mM) :=
  wr (mst M0 215 10 (0 : Int32)) (fun M20 => wr (mst M20 215 11 (0 : Int32)) (fun M21 => f_X12_allFall_l6 M21))
set_option maxRecDepth 8000 in
theorem c_X12_allFall  {M0 : mM} {out : (Unit × mM)} (h : f_X12_allFall M0 = some out) : Cs (9) 214 [.ref 215] M0 (emW eU out) := by
  generalize hk : emW eU out = R
  replace hk := hk.symm
  unfold f_X12_allFall at h
  show Ev (9) 214 0 [some (.ref 215), none, none, none] [] M0 R
  refine ev_go kc_214 2 (i' := 2) (L' := [some (.ref 215), none, none, none]) (st' := [.int (0 : Int32), .ref 215]) (M' := M0) rfl ?_
  obtain ⟨M20, hM20, h⟩ := o_wr h
  refine ev_pf kc_214 rfl rfl rfl rfl (fun hc => absurd hc (by decide)) hM20 ?_
  refine ev_go kc_214 2 (i' := 5) (L' := [some (.ref 215), none, none, none]) (st' := [.int (0 : Int32), .ref 215]) (M' := M20) rfl ?_
  obtain ⟨M21, hM21, h⟩ := o_wr h
  refine ev_pf kc_214 rfl rfl rfl rfl (fun hc => absurd hc (by decide)) hM21 ?_
  exact Ev.forget (mLe.kp (mLe.sk (mLe.sk (mLe.sk mLe.nl)))) (e_X12_allFall_l6  h hk)
/-- WakeTowerModel.feed(IIIII)I: 215, W -/
theorem kc_215 : mKc 215 = k_X12_feed := rfl
def f_X12_feed_38 (l6 : Int32) (M0 : mM) : Option ((Int32 × mM) ⊕ (Int32 × mM)) :=
  bif decide ((20 : Int32) ≤ l6) then (wr (mst M0 215 13 ((M0 215 13) + (20 : Int32))) (fun M2 => some (.inl ((M2 215 13), M2)))) else (gd (mIn (l6 / (4 : Int32)) 5) (gd (mIn ((M0 215 13) + l6) 400) (wr (mst M0 223 (ix ((M0 215 13) + l6)) (vp_nar .byte (((M0 224 (ix (l6 / (4 : Int32)))) >>> (((24 : Int32) - ((8 : Int32) * (rmd l6 (4 : Int32)))) &&& (31 : Int32)))).toInt8.toInt32)) (fun M4 => some (.inr ((l6 + (1 : Int32)), M4))))))
set_option maxRecDepth 8000 in
theorem e_X12_feed_38 {l6 : Int32} {M0 : mM} {R : mZ} {out : ((Int32 × mM) ⊕ (Int32 × mM))}  (h : f_X12_feed_38 l6 M0 = some out) (hk : (∀ s' : Int32 × mM, out = .inr s' → Ev (0) 215 38 [some (.ref 215), none, none, none, none, none, some (.int s'.1)] [] (s'.2) R) ∧ (∀ e1 : (Int32 × mM), out = .inl e1 → R = emW eI e1)) : Ev (0) 215 38 [some (.ref 215), none, none, none, none, none, some (.int l6)] [] M0 R := by
  unfold f_X12_feed_38 at h
  rcases o_bif h with ⟨hb1, h⟩ | ⟨hb1, h⟩
  · refine ev_goT kc_215 3 (t := 65) (e := 41) (L' := [some (.ref 215), none, none, none, none, none, some (.int l6)]) (st' := []) rfl hb1 ?_
    refine ev_go kc_215 5 (i' := 70) (L' := [some (.ref 215), none, none, none, none, none, some (.int l6)]) (st' := [.int ((M0 215 13) + (20 : Int32)), .ref 215]) (M' := M0) rfl ?_
    obtain ⟨M2, hM2, h⟩ := o_wr h
    refine ev_pf kc_215 rfl rfl rfl rfl (fun hc => absurd hc (by decide)) hM2 ?_
    refine ev_go kc_215 2 (i' := 73) (L' := [some (.ref 215), none, none, none, none, none, some (.int l6)]) (st' := [.int (M2 215 13)]) (M' := M2) rfl ?_
    obtain rfl := Option.some.inj h
    rw [show _ from (hk.2 _ rfl)]
    exact ev_ret kc_215 rfl rfl rfl
  · refine ev_goF kc_215 3 (t := 65) (e := 41) (L' := [some (.ref 215), none, none, none, none, none, some (.int l6)]) (st' := []) rfl hb1 ?_
    refine ev_go kc_215 11 (i' := 52) (L' := [some (.ref 215), none, none, none, none, none, some (.int l6)]) (st' := [.int (l6 / (4 : Int32)), .ref 224, .int ((M0 215 13) + l6), .ref 223]) (M' := M0) rfl ?_
    obtain ⟨hg3, h⟩ := o_gd h
    refine ev_ia kc_215 rfl rfl hg3 ?_
    refine ev_go kc_215 9 (i' := 62) (L' := [some (.ref 215), none, none, none, none, none, some (.int l6)]) (st' := [.int (((M0 224 (ix (l6 / (4 : Int32)))) >>> (((24 : Int32) - ((8 : Int32) * (rmd l6 (4 : Int32)))) &&& (31 : Int32)))).toInt8.toInt32, .int ((M0 215 13) + l6), .ref 223]) (M' := M0) rfl ?_
    obtain ⟨hg5, h⟩ := o_gd h
    obtain ⟨M4, hM4, h⟩ := o_wr h
    refine ev_bsB kc_215 rfl rfl hg5 hM4 ?_
    refine ev_go kc_215 2 (i' := 38) (L' := [some (.ref 215), none, none, none, none, none, some (.int (l6 + (1 : Int32)))]) (st' := []) (M' := M4) rfl ?_
    obtain rfl := Option.some.inj h
    exact Ev.forget (mLe.kp (mLe.sk (mLe.sk (mLe.sk (mLe.sk (mLe.sk (mLe.kp mLe.nl))))))) (hk.1 ((l6 + (1 : Int32)), M4) rfl)
def f_X12_feed_l38 (l6 : Int32) (M0 : mM) : Option (Int32 × mM) :=
  wh 100000 (fun s : Int32 × mM => f_X12_feed_38 s.1 s.2) (l6, M0)
theorem e_X12_feed_l38 {l6 : Int32} {M0 : mM} {R : mZ} {out : (Int32 × mM)}  (h : f_X12_feed_l38 l6 M0 = some out) (hk : R = emW eI out) : Ev (0) 215 38 [some (.ref 215), none, none, none, none, none, some (.int l6)] [] M0 R := by
  unfold f_X12_feed_l38 at h
  exact wh_ev (P := fun s : Int32 × mM => Ev (0) 215 38 [some (.ref 215), none, none, none, none, none, some (.int s.1)] [] s.2 R) (Q := fun e : (Int32 × mM) => R = emW eI e) (fun s o hb h1 h2 => e_X12_feed_38  hb ⟨h1, h2⟩) 100000 _ _ h hk
def f_X12_feed (p1 : Int32) (p2 : Int32) (p3 : Int32) (p4 : Int32) (p5 : Int32) (M0 : mM) : Option (Int32 × mM) :=
  wr (mst M0 215 0 (0 : Int32)) (fun M6 => bif decide (((M6 215 13) + (20 : Int32)) ≤ (400 : Int32)) then (wr (mst M6 224 (ix (0 : Int32)) p1) (fun M8 => wr (mst M8 224 (ix (1 : Int32)) p2) (fun M9 => wr (mst M9 224 (ix (2 : Int32)) p3) (fun M10 => wr (mst M10 224 (ix (3 : Int32)) p4) (fun M11 => wr (mst M11 224 (ix (4 : Int32)) p5) (fun M12 => f_X12_feed_l38 (0 : Int32) M12)))))) else (some ((-1 : Int32), M6)))
set_option maxRecDepth 8000 in
theorem c_X12_feed {p1 : Int32} {p2 : Int32} {p3 : Int32} {p4 : Int32} {p5 : Int32} {M0 : mM} {out : (Int32 × mM)} (h : f_X12_feed p1 p2 p3 p4 p5 M0 = some out) : Cs (0) 215 [.ref 215, .int p1, .int p2, .int p3, .int p4, .int p5] M0 (emW eI out) := by
  generalize hk : emW eI out = R
  replace hk := hk.symm
  unfold f_X12_feed at h
  show Ev (0) 215 0 [some (.ref 215), some (.int p1), some (.int p2), some (.int p3), some (.int p4), some (.int p5), none] [] M0 R
  refine ev_go kc_215 2 (i' := 2) (L' := [some (.ref 215), some (.int p1), some (.int p2), some (.int p3), some (.int p4), some (.int p5), none]) (st' := [.int (0 : Int32), .ref 215]) (M' := M0) rfl ?_
  obtain ⟨M6, hM6, h⟩ := o_wr h
  refine ev_pf kc_215 rfl rfl rfl rfl (fun hc => absurd hc (by decide)) hM6 ?_
  rcases o_bif h with ⟨hb7, h⟩ | ⟨hb7, h⟩
  · refine ev_goT kc_215 6 (t := 11) (e := 9) (L' := [some (.ref 215), some (.int p1), some (.int p2), some (.int p3), some (.int p4), some (.int p5), none]) (st' := []) rfl hb7 ?_
    refine ev_go kc_215 4 (i' := 15) (L' := [some (.ref 215), some (.int p1), some (.int p2), some (.int p3), some (.int p4), some (.int p5), none]) (st' := [.int p1, .int (0 : Int32), .ref 224]) (M' := M6) rfl ?_
    obtain ⟨M8, hM8, h⟩ := o_wr h
    refine ev_is kc_215 rfl rfl rfl hM8 ?_
    refine ev_go kc_215 4 (i' := 20) (L' := [some (.ref 215), some (.int p1), some (.int p2), some (.int p3), some (.int p4), some (.int p5), none]) (st' := [.int p2, .int (1 : Int32), .ref 224]) (M' := M8) rfl ?_
    obtain ⟨M9, hM9, h⟩ := o_wr h
    refine ev_is kc_215 rfl rfl rfl hM9 ?_
    refine ev_go kc_215 4 (i' := 25) (L' := [some (.ref 215), some (.int p1), some (.int p2), some (.int p3), some (.int p4), some (.int p5), none]) (st' := [.int p3, .int (2 : Int32), .ref 224]) (M' := M9) rfl ?_
    obtain ⟨M10, hM10, h⟩ := o_wr h
    refine ev_is kc_215 rfl rfl rfl hM10 ?_
    refine ev_go kc_215 4 (i' := 30) (L' := [some (.ref 215), some (.int p1), some (.int p2), some (.int p3), some (.int p4), some (.int p5), none]) (st' := [.int p4, .int (3 : Int32), .ref 224]) (M' := M10) rfl ?_
    obtain ⟨M11, hM11, h⟩ := o_wr h
    refine ev_is kc_215 rfl rfl rfl hM11 ?_
    refine ev_go kc_215 4 (i' := 35) (L' := [some (.ref 215), some (.int p1), some (.int p2), some (.int p3), some (.int p4), some (.int p5), none]) (st' := [.int p5, .int (4 : Int32), .ref 224]) (M' := M11) rfl ?_
    obtain ⟨M12, hM12, h⟩ := o_wr h
    refine ev_is kc_215 rfl rfl rfl hM12 ?_
    refine ev_go kc_215 2 (i' := 38) (L' := [some (.ref 215), some (.int p1), some (.int p2), some (.int p3), some (.int p4), some (.int p5), some (.int (0 : Int32))]) (st' := []) (M' := M12) rfl ?_
    exact Ev.forget (mLe.kp (mLe.sk (mLe.sk (mLe.sk (mLe.sk (mLe.sk (mLe.kp mLe.nl))))))) (e_X12_feed_l38  h hk)
  · refine ev_goF kc_215 6 (t := 11) (e := 9) (L' := [some (.ref 215), some (.int p1), some (.int p2), some (.int p3), some (.int p4), some (.int p5), none]) (st' := []) rfl hb7 ?_
    refine ev_go kc_215 1 (i' := 10) (L' := [some (.ref 215), some (.int p1), some (.int p2), some (.int p3), some (.int p4), some (.int p5), none]) (st' := [.int (-1 : Int32)]) (M' := M6) rfl ?_
    obtain rfl := Option.some.inj h
    rw [hk]
    exact ev_ret kc_215 rfl rfl rfl
