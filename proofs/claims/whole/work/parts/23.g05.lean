/-! the methods, by program -/
/-- WakeTower.tell(I)I: 143, T -/
theorem kc_143 : mKc 143 = k_X11_tell := rfl
def f_X11_tell (p1 : Int32) (M0 : mM) : Option ((Int32 ⊕ Nat) × mM) :=
  tb (f_X11_mustBePerson p1 M0) (fun v1 M1 => b1 (f_X9_holders 35 M1) (fun v2 => b1 (f_X8_steps 35 p1 v2 M1) (fun v3 => some (.inl v3, M1))))
set_option maxRecDepth 8000 in
theorem c_X11_tell {p1 : Int32} {M0 : mM} {out : ((Int32 ⊕ Nat) × mM)} (h : f_X11_tell p1 M0 = some out) : Cs (9) 143 [.ref 0, .int p1] M0 (emT eI out) := by
  generalize hk : emT eI out = R
  replace hk := hk.symm
  unfold f_X11_tell at h
  show Ev (9) 143 0 [some (.ref 0), some (.int p1)] [] M0 R
  refine ev_go kc_143 2 (i' := 2) (L' := [some (.ref 0), some (.int p1)]) (st' := [.int p1, .ref 0]) (M' := M0) rfl ?_
  rcases o_tb h with ⟨v1, M1, hc1, h⟩ | ⟨E1, M1, hc1, h⟩
  rotate_left
  · subst h
    rw [hk]
    exact ev_clT (ins := .invokevirtual 128) kc_143 rfl rfl (a := 170) (as := [.ref 0, .int p1]) (rest := []) rfl rfl rfl rfl (Cs.deep (c_X11_mustBePerson hc1) (by decide))
  refine ev_cl0 (ins := .invokevirtual 128) kc_143 rfl rfl (a := 170) (as := [.ref 0, .int p1]) (rest := []) rfl rfl (Cs.deep (c_X11_mustBePerson hc1) (by decide)) ?_
  refine ev_go kc_143 5 (i' := 8) (L' := [some (.ref 0), some (.int p1)]) (st' := [.ref 35, .int p1, .ref 35]) (M' := M1) rfl ?_
  obtain ⟨v2, hc2, h⟩ := o_b1 h
  refine ev_cl0 (ins := .invokevirtual 167) kc_143 rfl rfl (a := 76) (as := [.ref 35]) (rest := [.int p1, .ref 35]) rfl rfl (Cs.deep (c_X9_holders (M0 := M1) hc2) (by decide)) ?_
  obtain ⟨v3, hc3, h⟩ := o_b1 h
  refine ev_cl0 (ins := .invokestatic 300) kc_143 rfl rfl (a := 71) (as := [.ref 35, .int p1, .int v2]) (rest := []) rfl rfl (Cs.deep (c_X8_steps (M0 := M1) hc3) (by decide)) ?_
  obtain rfl := Option.some.inj h
  rw [hk]
  exact ev_ret kc_143 rfl rfl rfl
/-- WakeTower.herald()I: 144, R -/
theorem kc_144 : mKc 144 = k_X11_herald := rfl
def f_X11_herald_24 (l1 : Int32) (l2 : Int32) (l3 : Int32) (s0 : Int32) (M0 : mM) : Option (Int32 ⊕ (Int32 × Int32 × Int32)) :=
  bif decide (s0 = (-1 : Int32)) then (some (.inr (l1, l2, (l3 + (1 : Int32))))) else (bif decide (l1 = (-1 : Int32)) then (some (.inr (l3, s0, (l3 + (1 : Int32))))) else (bif decide (l2 ≤ s0) then (some (.inr (l1, l2, (l3 + (1 : Int32))))) else (some (.inr (l3, s0, (l3 + (1 : Int32)))))))
set_option maxRecDepth 8000 in
theorem e_X11_herald_24 {l1 : Int32} {l2 : Int32} {l3 : Int32} {s0 : Int32} {M0 : mM} {R : mZ} {out : (Int32 ⊕ (Int32 × Int32 × Int32))}  (h : f_X11_herald_24 l1 l2 l3 s0 M0 = some out) (hk : (∀ s' : Int32 × Int32 × Int32, out = .inr s' → Ev (3) 144 6 [some (.ref 0), some (.int s'.1), some (.int s'.2.1), some (.int s'.2.2), none] [] M0 R) ∧ (∀ e1 : Int32, out = .inl e1 → R = emR eI M0 e1)) : Ev (3) 144 24 [some (.ref 0), some (.int l1), some (.int l2), some (.int l3), none] [.int s0] M0 R := by
  unfold f_X11_herald_24 at h
  rcases o_bif h with ⟨hb1, h⟩ | ⟨hb1, h⟩
  · refine ev_goT kc_144 4 (t := 38) (e := 28) (L' := [some (.ref 0), some (.int l1), some (.int l2), some (.int l3), some (.int s0)]) (st' := []) rfl hb1 ?_
    refine ev_go kc_144 2 (i' := 6) (L' := [some (.ref 0), some (.int l1), some (.int l2), some (.int (l3 + (1 : Int32))), some (.int s0)]) (st' := []) (M' := M0) rfl ?_
    obtain rfl := Option.some.inj h
    exact Ev.forget (mLe.kp (mLe.kp (mLe.kp (mLe.kp (mLe.sk mLe.nl))))) (hk.1 (l1, l2, (l3 + (1 : Int32))) rfl)
  · refine ev_goF kc_144 4 (t := 38) (e := 28) (L' := [some (.ref 0), some (.int l1), some (.int l2), some (.int l3), some (.int s0)]) (st' := []) rfl hb1 ?_
    rcases o_bif h with ⟨hb2, h⟩ | ⟨hb2, h⟩
    · refine ev_goT kc_144 3 (t := 34) (e := 31) (L' := [some (.ref 0), some (.int l1), some (.int l2), some (.int l3), some (.int s0)]) (st' := []) rfl hb2 ?_
      refine ev_go kc_144 6 (i' := 6) (L' := [some (.ref 0), some (.int l3), some (.int s0), some (.int (l3 + (1 : Int32))), some (.int s0)]) (st' := []) (M' := M0) rfl ?_
      obtain rfl := Option.some.inj h
      exact Ev.forget (mLe.kp (mLe.kp (mLe.kp (mLe.kp (mLe.sk mLe.nl))))) (hk.1 (l3, s0, (l3 + (1 : Int32))) rfl)
    · refine ev_goF kc_144 3 (t := 34) (e := 31) (L' := [some (.ref 0), some (.int l1), some (.int l2), some (.int l3), some (.int s0)]) (st' := []) rfl hb2 ?_
      rcases o_bif h with ⟨hb3, h⟩ | ⟨hb3, h⟩
      · refine ev_goT kc_144 3 (t := 38) (e := 34) (L' := [some (.ref 0), some (.int l1), some (.int l2), some (.int l3), some (.int s0)]) (st' := []) rfl hb3 ?_
        refine ev_go kc_144 2 (i' := 6) (L' := [some (.ref 0), some (.int l1), some (.int l2), some (.int (l3 + (1 : Int32))), some (.int s0)]) (st' := []) (M' := M0) rfl ?_
        obtain rfl := Option.some.inj h
        exact Ev.forget (mLe.kp (mLe.kp (mLe.kp (mLe.kp (mLe.sk mLe.nl))))) (hk.1 (l1, l2, (l3 + (1 : Int32))) rfl)
      · refine ev_goF kc_144 3 (t := 38) (e := 34) (L' := [some (.ref 0), some (.int l1), some (.int l2), some (.int l3), some (.int s0)]) (st' := []) rfl hb3 ?_
        refine ev_go kc_144 6 (i' := 6) (L' := [some (.ref 0), some (.int l3), some (.int s0), some (.int (l3 + (1 : Int32))), some (.int s0)]) (st' := []) (M' := M0) rfl ?_
        obtain rfl := Option.some.inj h
        exact Ev.forget (mLe.kp (mLe.kp (mLe.kp (mLe.kp (mLe.sk mLe.nl))))) (hk.1 (l3, s0, (l3 + (1 : Int32))) rfl)
def f_X11_herald_6 (l1 : Int32) (l2 : Int32) (l3 : Int32) (M0 : mM) : Option (Int32 ⊕ (Int32 × Int32 × Int32)) :=
  bif decide ((8 : Int32) ≤ l3) then (some (.inl l1)) else (b1 (f_X9_holders 35 M0) (fun v5 => bif (f_X11_has v5 l3) then (b1 (f_X9_holders 35 M0) (fun v8 => b1 (f_X8_steps 35 l3 v8 M0) (fun v9 => f_X11_herald_24 l1 l2 l3 v9 M0))) else (f_X11_herald_24 l1 l2 l3 (-1 : Int32) M0)))
set_option maxRecDepth 8000 in
theorem e_X11_herald_6 {l1 : Int32} {l2 : Int32} {l3 : Int32} {M0 : mM} {R : mZ} {out : (Int32 ⊕ (Int32 × Int32 × Int32))}  (h : f_X11_herald_6 l1 l2 l3 M0 = some out) (hk : (∀ s' : Int32 × Int32 × Int32, out = .inr s' → Ev (3) 144 6 [some (.ref 0), some (.int s'.1), some (.int s'.2.1), some (.int s'.2.2), none] [] M0 R) ∧ (∀ e1 : Int32, out = .inl e1 → R = emR eI M0 e1)) : Ev (3) 144 6 [some (.ref 0), some (.int l1), some (.int l2), some (.int l3), none] [] M0 R := by
  unfold f_X11_herald_6 at h
  rcases o_bif h with ⟨hb4, h⟩ | ⟨hb4, h⟩
  · refine ev_goT kc_144 3 (t := 40) (e := 9) (L' := [some (.ref 0), some (.int l1), some (.int l2), some (.int l3), none]) (st' := []) rfl hb4 ?_
    refine ev_go kc_144 1 (i' := 41) (L' := [some (.ref 0), some (.int l1), some (.int l2), some (.int l3), none]) (st' := [.int l1]) (M' := M0) rfl ?_
    obtain rfl := Option.some.inj h
    rw [show _ from (hk.2 _ rfl)]
    exact ev_ret kc_144 rfl rfl rfl
  · refine ev_goF kc_144 3 (t := 40) (e := 9) (L' := [some (.ref 0), some (.int l1), some (.int l2), some (.int l3), none]) (st' := []) rfl hb4 ?_
    refine ev_go kc_144 2 (i' := 11) (L' := [some (.ref 0), some (.int l1), some (.int l2), some (.int l3), none]) (st' := [.ref 35]) (M' := M0) rfl ?_
    obtain ⟨v5, hc5, h⟩ := o_b1 h
    refine ev_cl0 (ins := .invokevirtual 167) kc_144 rfl rfl (a := 76) (as := [.ref 35]) (rest := []) rfl rfl (Cs.deep (c_X9_holders (M0 := M0) hc5) (by decide)) ?_
    refine ev_go kc_144 1 (i' := 13) (L' := [some (.ref 0), some (.int l1), some (.int l2), some (.int l3), none]) (st' := [.int l3, .int v5]) (M' := M0) rfl ?_
    refine ev_cl0 (ins := .invokestatic 134) kc_144 rfl rfl (a := 178) (as := [.int v5, .int l3]) (rest := []) rfl rfl (Cs.deep (c_X11_has (M0 := M0)) (by decide)) ?_
    rcases o_bif h with ⟨hb7, h⟩ | ⟨hb7, h⟩
    · refine ev_goF kc_144 1 (t := 23) (e := 15) (L' := [some (.ref 0), some (.int l1), some (.int l2), some (.int l3), none]) (st' := []) rfl (mB_e0f hb7) ?_
      refine ev_go kc_144 5 (i' := 20) (L' := [some (.ref 0), some (.int l1), some (.int l2), some (.int l3), none]) (st' := [.ref 35, .int l3, .ref 35]) (M' := M0) rfl ?_
      obtain ⟨v8, hc8, h⟩ := o_b1 h
      refine ev_cl0 (ins := .invokevirtual 167) kc_144 rfl rfl (a := 76) (as := [.ref 35]) (rest := [.int l3, .ref 35]) rfl rfl (Cs.deep (c_X9_holders (M0 := M0) hc8) (by decide)) ?_
      obtain ⟨v9, hc9, h⟩ := o_b1 h
      refine ev_cl0 (ins := .invokestatic 300) kc_144 rfl rfl (a := 71) (as := [.ref 35, .int l3, .int v8]) (rest := []) rfl rfl (Cs.deep (c_X8_steps (M0 := M0) hc9) (by decide)) ?_
      refine ev_go kc_144 1 (i' := 24) (L' := [some (.ref 0), some (.int l1), some (.int l2), some (.int l3), none]) (st' := [.int v9]) (M' := M0) rfl ?_
      exact Ev.forget (mLe.kp (mLe.kp (mLe.kp (mLe.kp (mLe.sk mLe.nl))))) (e_X11_herald_24  h hk)
    · refine ev_goT kc_144 1 (t := 23) (e := 15) (L' := [some (.ref 0), some (.int l1), some (.int l2), some (.int l3), none]) (st' := []) rfl (mB_e0t hb7) ?_
      refine ev_go kc_144 1 (i' := 24) (L' := [some (.ref 0), some (.int l1), some (.int l2), some (.int l3), none]) (st' := [.int (-1 : Int32)]) (M' := M0) rfl ?_
      exact Ev.forget (mLe.kp (mLe.kp (mLe.kp (mLe.kp (mLe.sk mLe.nl))))) (e_X11_herald_24  h hk)
def f_X11_herald_l6 (l1 : Int32) (l2 : Int32) (l3 : Int32) (M0 : mM) : Option Int32 :=
  wh 100000 (fun s : Int32 × Int32 × Int32 => f_X11_herald_6 s.1 s.2.1 s.2.2 M0) (l1, l2, l3)
theorem e_X11_herald_l6 {l1 : Int32} {l2 : Int32} {l3 : Int32} {M0 : mM} {R : mZ} {out : Int32}  (h : f_X11_herald_l6 l1 l2 l3 M0 = some out) (hk : R = emR eI M0 out) : Ev (3) 144 6 [some (.ref 0), some (.int l1), some (.int l2), some (.int l3), none] [] M0 R := by
  unfold f_X11_herald_l6 at h
  exact wh_ev (P := fun s : Int32 × Int32 × Int32 => Ev (3) 144 6 [some (.ref 0), some (.int s.1), some (.int s.2.1), some (.int s.2.2), none] [] M0 R) (Q := fun e : Int32 => R = emR eI M0 e) (fun s o hb h1 h2 => e_X11_herald_6  hb ⟨h1, h2⟩) 100000 _ _ h hk
def f_X11_herald  (M0 : mM) : Option Int32 :=
  f_X11_herald_l6 (-1 : Int32) (0 : Int32) (0 : Int32) M0
set_option maxRecDepth 8000 in
theorem c_X11_herald  {M0 : mM} {out : Int32} (h : f_X11_herald M0 = some out) : Cs (3) 144 [.ref 0] M0 (emR eI M0 out) := by
  generalize hk : emR eI M0 out = R
  replace hk := hk.symm
  unfold f_X11_herald at h
  show Ev (3) 144 0 [some (.ref 0), none, none, none, none] [] M0 R
  refine ev_go kc_144 6 (i' := 6) (L' := [some (.ref 0), some (.int (-1 : Int32)), some (.int (0 : Int32)), some (.int (0 : Int32)), none]) (st' := []) (M' := M0) rfl ?_
  exact Ev.forget (mLe.kp (mLe.kp (mLe.kp (mLe.kp (mLe.sk mLe.nl))))) (e_X11_herald_l6  h hk)
/-- WakeTower.cuts(I)I: 145, T -/
theorem kc_145 : mKc 145 = k_X11_cuts := rfl
def f_X11_cuts_24 (l2 : Int32) (l3 : Int32) (l4 : Int32) (l5 : Int32) (M0 : mM) : Option (((Int32 ⊕ Nat) × mM) ⊕ (Int32 × Int32)) :=
  bif decide ((8 : Int32) ≤ l5) then (some (.inl (.inl l4, M0))) else (bif (f_X11_has l3 l5) then (b1 (f_X8_reached 35 l5 l2 M0) (fun v4 => b1 (f_X8_reached 35 l5 l3 M0) (fun v5 => some (.inr ((l4 + (f_J6_bitCount_0f7a4 (((v4 &&& l3) &&& (v5 ^^^ (-1 : Int32))) &&& (((f_X11_bit (l5 + (1 : Int32))) - (1 : Int32)) ^^^ (-1 : Int32))))), (l5 + (1 : Int32))))))) else (some (.inr (l4, (l5 + (1 : Int32))))))
set_option maxRecDepth 8000 in
theorem e_X11_cuts_24 {l2 : Int32} {l3 : Int32} {l4 : Int32} {l5 : Int32} {M0 : mM} {R : mZ} {out : (((Int32 ⊕ Nat) × mM) ⊕ (Int32 × Int32))}  (h : f_X11_cuts_24 l2 l3 l4 l5 M0 = some out) (hk : (∀ s' : Int32 × Int32, out = .inr s' → Ev (9) 145 24 [some (.ref 0), none, some (.int l2), some (.int l3), some (.int s'.1), some (.int s'.2), none] [] M0 R) ∧ (∀ e1 : ((Int32 ⊕ Nat) × mM), out = .inl e1 → R = emT eI e1)) : Ev (9) 145 24 [some (.ref 0), none, some (.int l2), some (.int l3), some (.int l4), some (.int l5), none] [] M0 R := by
  unfold f_X11_cuts_24 at h
  rcases o_bif h with ⟨hb1, h⟩ | ⟨hb1, h⟩
  · refine ev_goT kc_145 3 (t := 63) (e := 27) (L' := [some (.ref 0), none, some (.int l2), some (.int l3), some (.int l4), some (.int l5), none]) (st' := []) rfl hb1 ?_
    refine ev_go kc_145 1 (i' := 64) (L' := [some (.ref 0), none, some (.int l2), some (.int l3), some (.int l4), some (.int l5), none]) (st' := [.int l4]) (M' := M0) rfl ?_
    obtain rfl := Option.some.inj h
    rw [show _ from (hk.2 _ rfl)]
    exact ev_ret kc_145 rfl rfl rfl
  · refine ev_goF kc_145 3 (t := 63) (e := 27) (L' := [some (.ref 0), none, some (.int l2), some (.int l3), some (.int l4), some (.int l5), none]) (st' := []) rfl hb1 ?_
    refine ev_go kc_145 2 (i' := 29) (L' := [some (.ref 0), none, some (.int l2), some (.int l3), some (.int l4), some (.int l5), none]) (st' := [.int l5, .int l3]) (M' := M0) rfl ?_
    refine ev_cl0 (ins := .invokestatic 134) kc_145 rfl rfl (a := 178) (as := [.int l3, .int l5]) (rest := []) rfl rfl (Cs.deep (c_X11_has (M0 := M0)) (by decide)) ?_
    rcases o_bif h with ⟨hb3, h⟩ | ⟨hb3, h⟩
    · refine ev_goF kc_145 1 (t := 61) (e := 31) (L' := [some (.ref 0), none, some (.int l2), some (.int l3), some (.int l4), some (.int l5), none]) (st' := []) rfl (mB_e0f hb3) ?_
      refine ev_go kc_145 4 (i' := 35) (L' := [some (.ref 0), none, some (.int l2), some (.int l3), some (.int l4), some (.int l5), none]) (st' := [.int l2, .int l5, .ref 35]) (M' := M0) rfl ?_
      obtain ⟨v4, hc4, h⟩ := o_b1 h
      refine ev_cl0 (ins := .invokestatic 306) kc_145 rfl rfl (a := 72) (as := [.ref 35, .int l5, .int l2]) (rest := []) rfl rfl (Cs.deep (c_X8_reached (M0 := M0) hc4) (by decide)) ?_
      refine ev_go kc_145 6 (i' := 42) (L' := [some (.ref 0), none, some (.int l2), some (.int l3), some (.int l4), some (.int l5), none]) (st' := [.int l3, .int l5, .ref 35, .int (v4 &&& l3)]) (M' := M0) rfl ?_
      obtain ⟨v5, hc5, h⟩ := o_b1 h
      refine ev_cl0 (ins := .invokestatic 306) kc_145 rfl rfl (a := 72) (as := [.ref 35, .int l5, .int l3]) (rest := [.int (v4 &&& l3)]) rfl rfl (Cs.deep (c_X8_reached (M0 := M0) hc5) (by decide)) ?_
      refine ev_go kc_145 9 (i' := 52) (L' := [some (.ref 0), none, some (.int l2), some (.int l3), some (.int l4), some (.int l5), some (.int ((v4 &&& l3) &&& (v5 ^^^ (-1 : Int32))))]) (st' := [.int (l5 + (1 : Int32)), .int ((v4 &&& l3) &&& (v5 ^^^ (-1 : Int32))), .int l4]) (M' := M0) rfl ?_
      refine ev_cl0 (ins := .invokestatic 219) kc_145 rfl rfl (a := 177) (as := [.int (l5 + (1 : Int32))]) (rest := [.int ((v4 &&& l3) &&& (v5 ^^^ (-1 : Int32))), .int l4]) rfl rfl (Cs.deep (c_X11_bit (M0 := M0)) (by decide)) ?_
      refine ev_go kc_145 5 (i' := 58) (L' := [some (.ref 0), none, some (.int l2), some (.int l3), some (.int l4), some (.int l5), some (.int ((v4 &&& l3) &&& (v5 ^^^ (-1 : Int32))))]) (st' := [.int (((v4 &&& l3) &&& (v5 ^^^ (-1 : Int32))) &&& (((f_X11_bit (l5 + (1 : Int32))) - (1 : Int32)) ^^^ (-1 : Int32))), .int l4]) (M' := M0) rfl ?_
      refine ev_cl0 (ins := .invokestatic 262) kc_145 rfl rfl (a := 10) (as := [.int (((v4 &&& l3) &&& (v5 ^^^ (-1 : Int32))) &&& (((f_X11_bit (l5 + (1 : Int32))) - (1 : Int32)) ^^^ (-1 : Int32)))]) (rest := [.int l4]) rfl rfl (Cs.deep (c_J6_bitCount_0f7a4 (M0 := M0)) (by decide)) ?_
      refine ev_go kc_145 4 (i' := 24) (L' := [some (.ref 0), none, some (.int l2), some (.int l3), some (.int (l4 + (f_J6_bitCount_0f7a4 (((v4 &&& l3) &&& (v5 ^^^ (-1 : Int32))) &&& (((f_X11_bit (l5 + (1 : Int32))) - (1 : Int32)) ^^^ (-1 : Int32)))))), some (.int (l5 + (1 : Int32))), some (.int ((v4 &&& l3) &&& (v5 ^^^ (-1 : Int32))))]) (st' := []) (M' := M0) rfl ?_
      obtain rfl := Option.some.inj h
      exact Ev.forget (mLe.kp (mLe.sk (mLe.kp (mLe.kp (mLe.kp (mLe.kp (mLe.sk mLe.nl))))))) (hk.1 ((l4 + (f_J6_bitCount_0f7a4 (((v4 &&& l3) &&& (v5 ^^^ (-1 : Int32))) &&& (((f_X11_bit (l5 + (1 : Int32))) - (1 : Int32)) ^^^ (-1 : Int32))))), (l5 + (1 : Int32))) rfl)
    · refine ev_goT kc_145 1 (t := 61) (e := 31) (L' := [some (.ref 0), none, some (.int l2), some (.int l3), some (.int l4), some (.int l5), none]) (st' := []) rfl (mB_e0t hb3) ?_
      refine ev_go kc_145 2 (i' := 24) (L' := [some (.ref 0), none, some (.int l2), some (.int l3), some (.int l4), some (.int (l5 + (1 : Int32))), none]) (st' := []) (M' := M0) rfl ?_
      obtain rfl := Option.some.inj h
      exact Ev.forget (mLe.kp (mLe.sk (mLe.kp (mLe.kp (mLe.kp (mLe.kp (mLe.sk mLe.nl))))))) (hk.1 (l4, (l5 + (1 : Int32))) rfl)
def f_X11_cuts_l24 (l2 : Int32) (l3 : Int32) (l4 : Int32) (l5 : Int32) (M0 : mM) : Option ((Int32 ⊕ Nat) × mM) :=
  wh 100000 (fun s : Int32 × Int32 => f_X11_cuts_24 l2 l3 s.1 s.2 M0) (l4, l5)
theorem e_X11_cuts_l24 {l2 : Int32} {l3 : Int32} {l4 : Int32} {l5 : Int32} {M0 : mM} {R : mZ} {out : ((Int32 ⊕ Nat) × mM)}  (h : f_X11_cuts_l24 l2 l3 l4 l5 M0 = some out) (hk : R = emT eI out) : Ev (9) 145 24 [some (.ref 0), none, some (.int l2), some (.int l3), some (.int l4), some (.int l5), none] [] M0 R := by
  unfold f_X11_cuts_l24 at h
  exact wh_ev (P := fun s : Int32 × Int32 => Ev (9) 145 24 [some (.ref 0), none, some (.int l2), some (.int l3), some (.int s.1), some (.int s.2), none] [] M0 R) (Q := fun e : ((Int32 ⊕ Nat) × mM) => R = emT eI e) (fun s o hb h1 h2 => e_X11_cuts_24  hb ⟨h1, h2⟩) 100000 _ _ h hk
def f_X11_cuts (p1 : Int32) (M0 : mM) : Option ((Int32 ⊕ Nat) × mM) :=
  tb (f_X11_mustBePerson p1 M0) (fun v8 M8 => b1 (f_X9_holders 35 M8) (fun v9 => bif (f_X11_has v9 p1) then (f_X11_cuts_l24 v9 (v9 &&& ((f_X11_bit p1) ^^^ (-1 : Int32))) (0 : Int32) (0 : Int32) M8) else (some (.inl (0 : Int32), M8))))
set_option maxRecDepth 8000 in
theorem c_X11_cuts {p1 : Int32} {M0 : mM} {out : ((Int32 ⊕ Nat) × mM)} (h : f_X11_cuts p1 M0 = some out) : Cs (9) 145 [.ref 0, .int p1] M0 (emT eI out) := by
  generalize hk : emT eI out = R
  replace hk := hk.symm
  unfold f_X11_cuts at h
  show Ev (9) 145 0 [some (.ref 0), some (.int p1), none, none, none, none, none] [] M0 R
  refine ev_go kc_145 2 (i' := 2) (L' := [some (.ref 0), some (.int p1), none, none, none, none, none]) (st' := [.int p1, .ref 0]) (M' := M0) rfl ?_
  rcases o_tb h with ⟨v8, M8, hc8, h⟩ | ⟨E8, M8, hc8, h⟩
  rotate_left
  · subst h
    rw [hk]
    exact ev_clT (ins := .invokevirtual 128) kc_145 rfl rfl (a := 170) (as := [.ref 0, .int p1]) (rest := []) rfl rfl rfl rfl (Cs.deep (c_X11_mustBePerson hc8) (by decide))
  refine ev_cl0 (ins := .invokevirtual 128) kc_145 rfl rfl (a := 170) (as := [.ref 0, .int p1]) (rest := []) rfl rfl (Cs.deep (c_X11_mustBePerson hc8) (by decide)) ?_
  refine ev_go kc_145 2 (i' := 5) (L' := [some (.ref 0), some (.int p1), none, none, none, none, none]) (st' := [.ref 35]) (M' := M8) rfl ?_
  obtain ⟨v9, hc9, h⟩ := o_b1 h
  refine ev_cl0 (ins := .invokevirtual 167) kc_145 rfl rfl (a := 76) (as := [.ref 35]) (rest := []) rfl rfl (Cs.deep (c_X9_holders (M0 := M8) hc9) (by decide)) ?_
  refine ev_go kc_145 3 (i' := 9) (L' := [some (.ref 0), some (.int p1), some (.int v9), none, none, none, none]) (st' := [.int p1, .int v9]) (M' := M8) rfl ?_
  refine ev_cl0 (ins := .invokestatic 134) kc_145 rfl rfl (a := 178) (as := [.int v9, .int p1]) (rest := []) rfl rfl (Cs.deep (c_X11_has (M0 := M8)) (by decide)) ?_
  rcases o_bif h with ⟨hb11, h⟩ | ⟨hb11, h⟩
  · refine ev_goT kc_145 1 (t := 13) (e := 11) (L' := [some (.ref 0), some (.int p1), some (.int v9), none, none, none, none]) (st' := []) rfl (mB_n0t hb11) ?_
    refine ev_go kc_145 2 (i' := 15) (L' := [some (.ref 0), some (.int p1), some (.int v9), none, none, none, none]) (st' := [.int p1, .int v9]) (M' := M8) rfl ?_
    refine ev_cl0 (ins := .invokestatic 219) kc_145 rfl rfl (a := 177) (as := [.int p1]) (rest := [.int v9]) rfl rfl (Cs.deep (c_X11_bit (M0 := M8)) (by decide)) ?_
    refine ev_go kc_145 8 (i' := 24) (L' := [some (.ref 0), some (.int p1), some (.int v9), some (.int (v9 &&& ((f_X11_bit p1) ^^^ (-1 : Int32)))), some (.int (0 : Int32)), some (.int (0 : Int32)), none]) (st' := []) (M' := M8) rfl ?_
    exact Ev.forget (mLe.kp (mLe.sk (mLe.kp (mLe.kp (mLe.kp (mLe.kp (mLe.sk mLe.nl))))))) (e_X11_cuts_l24  h hk)
  · refine ev_goF kc_145 1 (t := 13) (e := 11) (L' := [some (.ref 0), some (.int p1), some (.int v9), none, none, none, none]) (st' := []) rfl (mB_n0f hb11) ?_
    refine ev_go kc_145 1 (i' := 12) (L' := [some (.ref 0), some (.int p1), some (.int v9), none, none, none, none]) (st' := [.int (0 : Int32)]) (M' := M8) rfl ?_
    obtain rfl := Option.some.inj h
    rw [hk]
    exact ev_ret kc_145 rfl rfl rfl
/-- WakeTower.roster(III)I: 146, T -/
theorem kc_146 : mKc 146 = k_X11_roster := rfl
def f_X11_roster_14 (l1 : Int32) (l2 : Int32) (l3 : Int32) (s0 : Bool) (M0 : mM) : Option ((Int32 ⊕ Nat) × mM) :=
  tb (f_X11_mustBeOne s0 M0) (fun v1 M1 => b1 (f_X9_everyone 35 M1) (fun v2 => b2 (f_X5_places 37 v2 l1 l2 M1) (fun v3 M3 => bif decide (l3 = (-1 : Int32)) then (some (.inl v3, M3)) else (bif decide (¬ v3 = (-1 : Int32)) then (bif decide (l3 < 0) then (some (.inl (-1 : Int32), M3)) else (bif decide (l1 ≤ l3) then (some (.inl (-1 : Int32), M3)) else (b1 (f_X5_setOf l3 l1 l2 M3) (fun v8 => some (.inl v8, M3))))) else (some (.inl v3, M3))))))
set_option maxRecDepth 8000 in
theorem e_X11_roster_14 {l1 : Int32} {l2 : Int32} {l3 : Int32} {s0 : Bool} {M0 : mM} {R : mZ} {out : ((Int32 ⊕ Nat) × mM)}  (h : f_X11_roster_14 l1 l2 l3 s0 M0 = some out) (hk : R = emT eI out) : Ev (10) 146 14 [some (.ref 0), some (.int l1), some (.int l2), some (.int l3), none] [.int (mB s0)] M0 R := by
  unfold f_X11_roster_14 at h
  rcases o_tb h with ⟨v1, M1, hc1, h⟩ | ⟨E1, M1, hc1, h⟩
  rotate_left
  · subst h
    rw [hk]
    exact ev_clT (ins := .invokestatic 186) kc_146 rfl rfl (a := 172) (as := [.int (mB s0)]) (rest := []) rfl rfl rfl rfl (Cs.deep (c_X11_mustBeOne hc1) (by decide))
  refine ev_cl0 (ins := .invokestatic 186) kc_146 rfl rfl (a := 172) (as := [.int (mB s0)]) (rest := []) rfl rfl (Cs.deep (c_X11_mustBeOne hc1) (by decide)) ?_
  refine ev_go kc_146 7 (i' := 22) (L' := [some (.ref 0), some (.int l1), some (.int l2), some (.int l3), none]) (st' := [.ref 35, .ref 37, .ref 10]) (M' := M1) rfl ?_
  obtain ⟨v2, hc2, h⟩ := o_b1 h
  refine ev_cl0 (ins := .invokevirtual 200) kc_146 rfl rfl (a := 75) (as := [.ref 35]) (rest := [.ref 37, .ref 10]) rfl rfl (Cs.deep (c_X9_everyone (M0 := M1) hc2) (by decide)) ?_
  refine ev_go kc_146 2 (i' := 25) (L' := [some (.ref 0), some (.int l1), some (.int l2), some (.int l3), none]) (st' := [.int l2, .int l1, .int v2, .ref 37, .ref 10]) (M' := M1) rfl ?_
  obtain ⟨v3, M3, hc3, h⟩ := o_b2 h
  refine ev_cl0 (ins := .invokevirtual 309) kc_146 rfl rfl (a := 43) (as := [.ref 10, .ref 37, .int v2, .int l1, .int l2]) (rest := []) rfl rfl (Cs.deep (c_X5_places hc3) (by decide)) ?_
  rcases o_bif h with ⟨hb4, h⟩ | ⟨hb4, h⟩
  · refine ev_goT kc_146 4 (t := 33) (e := 30) (L' := [some (.ref 0), some (.int l1), some (.int l2), some (.int l3), some (.int v3)]) (st' := []) rfl hb4 ?_
    refine ev_go kc_146 1 (i' := 34) (L' := [some (.ref 0), some (.int l1), some (.int l2), some (.int l3), some (.int v3)]) (st' := [.int v3]) (M' := M3) rfl ?_
    obtain rfl := Option.some.inj h
    rw [hk]
    exact ev_ret kc_146 rfl rfl rfl
  · refine ev_goF kc_146 4 (t := 33) (e := 30) (L' := [some (.ref 0), some (.int l1), some (.int l2), some (.int l3), some (.int v3)]) (st' := []) rfl hb4 ?_
    rcases o_bif h with ⟨hb5, h⟩ | ⟨hb5, h⟩
    · refine ev_goT kc_146 3 (t := 35) (e := 33) (L' := [some (.ref 0), some (.int l1), some (.int l2), some (.int l3), some (.int v3)]) (st' := []) rfl hb5 ?_
      rcases o_bif h with ⟨hb6, h⟩ | ⟨hb6, h⟩
      · refine ev_goT kc_146 2 (t := 47) (e := 37) (L' := [some (.ref 0), some (.int l1), some (.int l2), some (.int l3), some (.int v3)]) (st' := []) rfl hb6 ?_
        refine ev_go kc_146 1 (i' := 48) (L' := [some (.ref 0), some (.int l1), some (.int l2), some (.int l3), some (.int v3)]) (st' := [.int (-1 : Int32)]) (M' := M3) rfl ?_
        obtain rfl := Option.some.inj h
        rw [hk]
        exact ev_ret kc_146 rfl rfl rfl
      · refine ev_goF kc_146 2 (t := 47) (e := 37) (L' := [some (.ref 0), some (.int l1), some (.int l2), some (.int l3), some (.int v3)]) (st' := []) rfl hb6 ?_
        rcases o_bif h with ⟨hb7, h⟩ | ⟨hb7, h⟩
        · refine ev_goT kc_146 3 (t := 47) (e := 40) (L' := [some (.ref 0), some (.int l1), some (.int l2), some (.int l3), some (.int v3)]) (st' := []) rfl hb7 ?_
          refine ev_go kc_146 1 (i' := 48) (L' := [some (.ref 0), some (.int l1), some (.int l2), some (.int l3), some (.int v3)]) (st' := [.int (-1 : Int32)]) (M' := M3) rfl ?_
          obtain rfl := Option.some.inj h
          rw [hk]
          exact ev_ret kc_146 rfl rfl rfl
        · refine ev_goF kc_146 3 (t := 47) (e := 40) (L' := [some (.ref 0), some (.int l1), some (.int l2), some (.int l3), some (.int v3)]) (st' := []) rfl hb7 ?_
          refine ev_go kc_146 5 (i' := 45) (L' := [some (.ref 0), some (.int l1), some (.int l2), some (.int l3), some (.int v3)]) (st' := [.int l2, .int l1, .int l3, .ref 10]) (M' := M3) rfl ?_
          obtain ⟨v8, hc8, h⟩ := o_b1 h
          refine ev_cl0 (ins := .invokevirtual 313) kc_146 rfl rfl (a := 48) (as := [.ref 10, .int l3, .int l1, .int l2]) (rest := []) rfl rfl (Cs.deep (c_X5_setOf (M0 := M3) hc8) (by decide)) ?_
          refine ev_go kc_146 1 (i' := 48) (L' := [some (.ref 0), some (.int l1), some (.int l2), some (.int l3), some (.int v3)]) (st' := [.int v8]) (M' := M3) rfl ?_
          obtain rfl := Option.some.inj h
          rw [hk]
          exact ev_ret kc_146 rfl rfl rfl
    · refine ev_goF kc_146 3 (t := 35) (e := 33) (L' := [some (.ref 0), some (.int l1), some (.int l2), some (.int l3), some (.int v3)]) (st' := []) rfl hb5 ?_
      refine ev_go kc_146 1 (i' := 34) (L' := [some (.ref 0), some (.int l1), some (.int l2), some (.int l3), some (.int v3)]) (st' := [.int v3]) (M' := M3) rfl ?_
      obtain rfl := Option.some.inj h
      rw [hk]
      exact ev_ret kc_146 rfl rfl rfl
def f_X11_roster_13 (l1 : Int32) (l2 : Int32) (l3 : Int32) (M0 : mM) : Option ((Int32 ⊕ Nat) × mM) :=
  f_X11_roster_14 l1 l2 l3 false M0
set_option maxRecDepth 8000 in
theorem e_X11_roster_13 {l1 : Int32} {l2 : Int32} {l3 : Int32} {M0 : mM} {R : mZ} {out : ((Int32 ⊕ Nat) × mM)}  (h : f_X11_roster_13 l1 l2 l3 M0 = some out) (hk : R = emT eI out) : Ev (10) 146 13 [some (.ref 0), some (.int l1), some (.int l2), some (.int l3), none] [] M0 R := by
  unfold f_X11_roster_13 at h
  refine ev_go kc_146 1 (i' := 14) (L' := [some (.ref 0), some (.int l1), some (.int l2), some (.int l3), none]) (st' := [.int (0 : Int32)]) (M' := M0) rfl ?_
  exact Ev.forget (mLe.kp (mLe.kp (mLe.kp (mLe.kp (mLe.sk mLe.nl))))) (e_X11_roster_14  h hk)
def f_X11_roster (p1 : Int32) (p2 : Int32) (p3 : Int32) (M0 : mM) : Option ((Int32 ⊕ Nat) × mM) :=
  bif decide (p1 < (1 : Int32)) then (f_X11_roster_13 p1 p2 p3 M0) else (bif decide ((12 : Int32) < p1) then (f_X11_roster_13 p1 p2 p3 M0) else (bif decide (p2 < 0) then (f_X11_roster_13 p1 p2 p3 M0) else (bif decide ((999 : Int32) < p2) then (f_X11_roster_13 p1 p2 p3 M0) else (f_X11_roster_14 p1 p2 p3 true M0))))
set_option maxRecDepth 8000 in
theorem c_X11_roster {p1 : Int32} {p2 : Int32} {p3 : Int32} {M0 : mM} {out : ((Int32 ⊕ Nat) × mM)} (h : f_X11_roster p1 p2 p3 M0 = some out) : Cs (10) 146 [.ref 0, .int p1, .int p2, .int p3] M0 (emT eI out) := by
  generalize hk : emT eI out = R
  replace hk := hk.symm
  unfold f_X11_roster at h
  show Ev (10) 146 0 [some (.ref 0), some (.int p1), some (.int p2), some (.int p3), none] [] M0 R
  rcases o_bif h with ⟨hb9, h⟩ | ⟨hb9, h⟩
  · refine ev_goT kc_146 3 (t := 13) (e := 3) (L' := [some (.ref 0), some (.int p1), some (.int p2), some (.int p3), none]) (st' := []) rfl hb9 ?_
    exact Ev.forget (mLe.kp (mLe.kp (mLe.kp (mLe.kp (mLe.sk mLe.nl))))) (e_X11_roster_13  h hk)
  · refine ev_goF kc_146 3 (t := 13) (e := 3) (L' := [some (.ref 0), some (.int p1), some (.int p2), some (.int p3), none]) (st' := []) rfl hb9 ?_
    rcases o_bif h with ⟨hb10, h⟩ | ⟨hb10, h⟩
    · refine ev_goT kc_146 3 (t := 13) (e := 6) (L' := [some (.ref 0), some (.int p1), some (.int p2), some (.int p3), none]) (st' := []) rfl hb10 ?_
      exact Ev.forget (mLe.kp (mLe.kp (mLe.kp (mLe.kp (mLe.sk mLe.nl))))) (e_X11_roster_13  h hk)
    · refine ev_goF kc_146 3 (t := 13) (e := 6) (L' := [some (.ref 0), some (.int p1), some (.int p2), some (.int p3), none]) (st' := []) rfl hb10 ?_
      rcases o_bif h with ⟨hb11, h⟩ | ⟨hb11, h⟩
      · refine ev_goT kc_146 2 (t := 13) (e := 8) (L' := [some (.ref 0), some (.int p1), some (.int p2), some (.int p3), none]) (st' := []) rfl hb11 ?_
        exact Ev.forget (mLe.kp (mLe.kp (mLe.kp (mLe.kp (mLe.sk mLe.nl))))) (e_X11_roster_13  h hk)
      · refine ev_goF kc_146 2 (t := 13) (e := 8) (L' := [some (.ref 0), some (.int p1), some (.int p2), some (.int p3), none]) (st' := []) rfl hb11 ?_
        rcases o_bif h with ⟨hb12, h⟩ | ⟨hb12, h⟩
        · refine ev_goT kc_146 3 (t := 13) (e := 11) (L' := [some (.ref 0), some (.int p1), some (.int p2), some (.int p3), none]) (st' := []) rfl hb12 ?_
          exact Ev.forget (mLe.kp (mLe.kp (mLe.kp (mLe.kp (mLe.sk mLe.nl))))) (e_X11_roster_13  h hk)
        · refine ev_goF kc_146 3 (t := 13) (e := 11) (L' := [some (.ref 0), some (.int p1), some (.int p2), some (.int p3), none]) (st' := []) rfl hb12 ?_
          refine ev_go kc_146 2 (i' := 14) (L' := [some (.ref 0), some (.int p1), some (.int p2), some (.int p3), none]) (st' := [.int (1 : Int32)]) (M' := M0) rfl ?_
          exact Ev.forget (mLe.kp (mLe.kp (mLe.kp (mLe.kp (mLe.sk mLe.nl))))) (e_X11_roster_14  h hk)
/-- WakeTower.pairs(I)I: 147, T -/
theorem kc_147 : mKc 147 = k_X11_pairs := rfl
def f_X11_pairs_20 (l1 : Int32) (l2 : Int32) (l3 : Int32) (l4 : Int32) (M0 : mM) : Option ((((Int32 ⊕ Nat) × mM) ⊕ (Int32 × Int32)) ⊕ (Int32 × Int32)) :=
  bif decide ((8 : Int32) ≤ l4) then (some (.inl (.inr (l2, (l3 + (1 : Int32)))))) else (bif decide ((M0 35 0) ≤ l4) then (some (.inr (l2, (l4 + (1 : Int32))))) else (gd (mIn l3 8) (gd (mIn l4 8) (bif decide (((M0 37 (ix l3)) + (M0 37 (ix l4))) < l1) then (some (.inr (l2, (l4 + (1 : Int32))))) else (some (.inr ((l2 + (1 : Int32)), (l4 + (1 : Int32)))))))))
set_option maxRecDepth 8000 in
theorem e_X11_pairs_20 {l1 : Int32} {l2 : Int32} {l3 : Int32} {l4 : Int32} {M0 : mM} {R : mZ} {out : ((((Int32 ⊕ Nat) × mM) ⊕ (Int32 × Int32)) ⊕ (Int32 × Int32))}  (h : f_X11_pairs_20 l1 l2 l3 l4 M0 = some out) (hk : (∀ s' : Int32 × Int32, out = .inr s' → Ev (9) 147 20 [some (.ref 0), some (.int l1), some (.int s'.1), some (.int l3), some (.int s'.2)] [] M0 R) ∧ (∀ e2 : (((Int32 ⊕ Nat) × mM) ⊕ (Int32 × Int32)), out = .inl e2 → (∀ s' : Int32 × Int32, e2 = .inr s' → Ev (9) 147 13 [some (.ref 0), some (.int l1), some (.int s'.1), some (.int s'.2), none] [] M0 R) ∧ (∀ e1 : ((Int32 ⊕ Nat) × mM), e2 = .inl e1 → R = emT eI e1))) : Ev (9) 147 20 [some (.ref 0), some (.int l1), some (.int l2), some (.int l3), some (.int l4)] [] M0 R := by
  unfold f_X11_pairs_20 at h
  rcases o_bif h with ⟨hb1, h⟩ | ⟨hb1, h⟩
  · refine ev_goT kc_147 3 (t := 44) (e := 23) (L' := [some (.ref 0), some (.int l1), some (.int l2), some (.int l3), some (.int l4)]) (st' := []) rfl hb1 ?_
    refine ev_go kc_147 2 (i' := 13) (L' := [some (.ref 0), some (.int l1), some (.int l2), some (.int (l3 + (1 : Int32))), some (.int l4)]) (st' := []) (M' := M0) rfl ?_
    obtain rfl := Option.some.inj h
    exact Ev.forget (mLe.kp (mLe.kp (mLe.kp (mLe.kp (mLe.sk mLe.nl))))) ((hk.2 _ rfl).1 (l2, (l3 + (1 : Int32))) rfl)
  · refine ev_goF kc_147 3 (t := 44) (e := 23) (L' := [some (.ref 0), some (.int l1), some (.int l2), some (.int l3), some (.int l4)]) (st' := []) rfl hb1 ?_
    rcases o_bif h with ⟨hb2, h⟩ | ⟨hb2, h⟩
    · refine ev_goT kc_147 5 (t := 42) (e := 28) (L' := [some (.ref 0), some (.int l1), some (.int l2), some (.int l3), some (.int l4)]) (st' := []) rfl hb2 ?_
      refine ev_go kc_147 2 (i' := 20) (L' := [some (.ref 0), some (.int l1), some (.int l2), some (.int l3), some (.int (l4 + (1 : Int32)))]) (st' := []) (M' := M0) rfl ?_
      obtain rfl := Option.some.inj h
      exact Ev.forget (mLe.kp (mLe.kp (mLe.kp (mLe.kp (mLe.kp mLe.nl))))) (hk.1 (l2, (l4 + (1 : Int32))) rfl)
    · refine ev_goF kc_147 5 (t := 42) (e := 28) (L' := [some (.ref 0), some (.int l1), some (.int l2), some (.int l3), some (.int l4)]) (st' := []) rfl hb2 ?_
      refine ev_go kc_147 4 (i' := 32) (L' := [some (.ref 0), some (.int l1), some (.int l2), some (.int l3), some (.int l4)]) (st' := [.int l3, .ref 37]) (M' := M0) rfl ?_
      obtain ⟨hg3, h⟩ := o_gd h
      refine ev_ia kc_147 rfl rfl hg3 ?_
      refine ev_go kc_147 4 (i' := 37) (L' := [some (.ref 0), some (.int l1), some (.int l2), some (.int l3), some (.int l4)]) (st' := [.int l4, .ref 37, .int (M0 37 (ix l3))]) (M' := M0) rfl ?_
      obtain ⟨hg4, h⟩ := o_gd h
      refine ev_ia kc_147 rfl rfl hg4 ?_
      rcases o_bif h with ⟨hb5, h⟩ | ⟨hb5, h⟩
      · refine ev_goT kc_147 3 (t := 42) (e := 41) (L' := [some (.ref 0), some (.int l1), some (.int l2), some (.int l3), some (.int l4)]) (st' := []) rfl hb5 ?_
        refine ev_go kc_147 2 (i' := 20) (L' := [some (.ref 0), some (.int l1), some (.int l2), some (.int l3), some (.int (l4 + (1 : Int32)))]) (st' := []) (M' := M0) rfl ?_
        obtain rfl := Option.some.inj h
        exact Ev.forget (mLe.kp (mLe.kp (mLe.kp (mLe.kp (mLe.kp mLe.nl))))) (hk.1 (l2, (l4 + (1 : Int32))) rfl)
      · refine ev_goF kc_147 3 (t := 42) (e := 41) (L' := [some (.ref 0), some (.int l1), some (.int l2), some (.int l3), some (.int l4)]) (st' := []) rfl hb5 ?_
        refine ev_go kc_147 3 (i' := 20) (L' := [some (.ref 0), some (.int l1), some (.int (l2 + (1 : Int32))), some (.int l3), some (.int (l4 + (1 : Int32)))]) (st' := []) (M' := M0) rfl ?_
        obtain rfl := Option.some.inj h
        exact Ev.forget (mLe.kp (mLe.kp (mLe.kp (mLe.kp (mLe.kp mLe.nl))))) (hk.1 ((l2 + (1 : Int32)), (l4 + (1 : Int32))) rfl)
def f_X11_pairs_l20 (l1 : Int32) (l3 : Int32) (l2 : Int32) (l4 : Int32) (M0 : mM) : Option (((Int32 ⊕ Nat) × mM) ⊕ (Int32 × Int32)) :=
  wh 100000 (fun s : Int32 × Int32 => f_X11_pairs_20 l1 s.1 l3 s.2 M0) (l2, l4)
theorem e_X11_pairs_l20 {l1 : Int32} {l2 : Int32} {l3 : Int32} {l4 : Int32} {M0 : mM} {R : mZ} {out : (((Int32 ⊕ Nat) × mM) ⊕ (Int32 × Int32))}  (h : f_X11_pairs_l20 l1 l3 l2 l4 M0 = some out) (hk : (∀ s' : Int32 × Int32, out = .inr s' → Ev (9) 147 13 [some (.ref 0), some (.int l1), some (.int s'.1), some (.int s'.2), none] [] M0 R) ∧ (∀ e1 : ((Int32 ⊕ Nat) × mM), out = .inl e1 → R = emT eI e1)) : Ev (9) 147 20 [some (.ref 0), some (.int l1), some (.int l2), some (.int l3), some (.int l4)] [] M0 R := by
  unfold f_X11_pairs_l20 at h
  exact wh_ev (P := fun s : Int32 × Int32 => Ev (9) 147 20 [some (.ref 0), some (.int l1), some (.int s.1), some (.int l3), some (.int s.2)] [] M0 R) (Q := fun e : (((Int32 ⊕ Nat) × mM) ⊕ (Int32 × Int32)) => (∀ s' : Int32 × Int32, e = .inr s' → Ev (9) 147 13 [some (.ref 0), some (.int l1), some (.int s'.1), some (.int s'.2), none] [] M0 R) ∧ (∀ e1 : ((Int32 ⊕ Nat) × mM), e = .inl e1 → R = emT eI e1)) (fun s o hb h1 h2 => e_X11_pairs_20  hb ⟨h1, h2⟩) 100000 _ _ h hk
def f_X11_pairs_13 (l1 : Int32) (l2 : Int32) (l3 : Int32) (M0 : mM) : Option (((Int32 ⊕ Nat) × mM) ⊕ (Int32 × Int32)) :=
  bif decide ((8 : Int32) ≤ l3) then (some (.inl (.inl l2, M0))) else (f_X11_pairs_l20 l1 l3 l2 (l3 + (1 : Int32)) M0)
set_option maxRecDepth 8000 in
theorem e_X11_pairs_13 {l1 : Int32} {l2 : Int32} {l3 : Int32} {M0 : mM} {R : mZ} {out : (((Int32 ⊕ Nat) × mM) ⊕ (Int32 × Int32))}  (h : f_X11_pairs_13 l1 l2 l3 M0 = some out) (hk : (∀ s' : Int32 × Int32, out = .inr s' → Ev (9) 147 13 [some (.ref 0), some (.int l1), some (.int s'.1), some (.int s'.2), none] [] M0 R) ∧ (∀ e1 : ((Int32 ⊕ Nat) × mM), out = .inl e1 → R = emT eI e1)) : Ev (9) 147 13 [some (.ref 0), some (.int l1), some (.int l2), some (.int l3), none] [] M0 R := by
  unfold f_X11_pairs_13 at h
  rcases o_bif h with ⟨hb6, h⟩ | ⟨hb6, h⟩
  · refine ev_goT kc_147 3 (t := 46) (e := 16) (L' := [some (.ref 0), some (.int l1), some (.int l2), some (.int l3), none]) (st' := []) rfl hb6 ?_
    refine ev_go kc_147 1 (i' := 47) (L' := [some (.ref 0), some (.int l1), some (.int l2), some (.int l3), none]) (st' := [.int l2]) (M' := M0) rfl ?_
    obtain rfl := Option.some.inj h
    rw [show _ from (hk.2 _ rfl)]
    exact ev_ret kc_147 rfl rfl rfl
  · refine ev_goF kc_147 3 (t := 46) (e := 16) (L' := [some (.ref 0), some (.int l1), some (.int l2), some (.int l3), none]) (st' := []) rfl hb6 ?_
    refine ev_go kc_147 4 (i' := 20) (L' := [some (.ref 0), some (.int l1), some (.int l2), some (.int l3), some (.int (l3 + (1 : Int32)))]) (st' := []) (M' := M0) rfl ?_
    exact Ev.forget (mLe.kp (mLe.kp (mLe.kp (mLe.kp (mLe.kp mLe.nl))))) (e_X11_pairs_l20  h hk)
def f_X11_pairs_l13 (l1 : Int32) (l2 : Int32) (l3 : Int32) (M0 : mM) : Option ((Int32 ⊕ Nat) × mM) :=
  wh 100000 (fun s : Int32 × Int32 => f_X11_pairs_13 l1 s.1 s.2 M0) (l2, l3)
theorem e_X11_pairs_l13 {l1 : Int32} {l2 : Int32} {l3 : Int32} {M0 : mM} {R : mZ} {out : ((Int32 ⊕ Nat) × mM)}  (h : f_X11_pairs_l13 l1 l2 l3 M0 = some out) (hk : R = emT eI out) : Ev (9) 147 13 [some (.ref 0), some (.int l1), some (.int l2), some (.int l3), none] [] M0 R := by
  unfold f_X11_pairs_l13 at h
  exact wh_ev (P := fun s : Int32 × Int32 => Ev (9) 147 13 [some (.ref 0), some (.int l1), some (.int s.1), some (.int s.2), none] [] M0 R) (Q := fun e : ((Int32 ⊕ Nat) × mM) => R = emT eI e) (fun s o hb h1 h2 => e_X11_pairs_13  hb ⟨h1, h2⟩) 100000 _ _ h hk
def f_X11_pairs_8 (l1 : Int32) (s0 : Bool) (M0 : mM) : Option ((Int32 ⊕ Nat) × mM) :=
  tb (f_X11_mustBeOne s0 M0) (fun v7 M7 => f_X11_pairs_l13 l1 (0 : Int32) (0 : Int32) M7)
set_option maxRecDepth 8000 in
theorem e_X11_pairs_8 {l1 : Int32} {s0 : Bool} {M0 : mM} {R : mZ} {out : ((Int32 ⊕ Nat) × mM)}  (h : f_X11_pairs_8 l1 s0 M0 = some out) (hk : R = emT eI out) : Ev (9) 147 8 [some (.ref 0), some (.int l1), none, none, none] [.int (mB s0)] M0 R := by
  unfold f_X11_pairs_8 at h
  rcases o_tb h with ⟨v7, M7, hc7, h⟩ | ⟨E7, M7, hc7, h⟩
  rotate_left
  · subst h
    rw [hk]
    exact ev_clT (ins := .invokestatic 186) kc_147 rfl rfl (a := 172) (as := [.int (mB s0)]) (rest := []) rfl rfl rfl rfl (Cs.deep (c_X11_mustBeOne hc7) (by decide))
  refine ev_cl0 (ins := .invokestatic 186) kc_147 rfl rfl (a := 172) (as := [.int (mB s0)]) (rest := []) rfl rfl (Cs.deep (c_X11_mustBeOne hc7) (by decide)) ?_
  refine ev_go kc_147 4 (i' := 13) (L' := [some (.ref 0), some (.int l1), some (.int (0 : Int32)), some (.int (0 : Int32)), none]) (st' := []) (M' := M7) rfl ?_
  exact Ev.forget (mLe.kp (mLe.kp (mLe.kp (mLe.kp (mLe.sk mLe.nl))))) (e_X11_pairs_l13  h hk)
def f_X11_pairs_7 (l1 : Int32) (M0 : mM) : Option ((Int32 ⊕ Nat) × mM) :=
  f_X11_pairs_8 l1 false M0
set_option maxRecDepth 8000 in
theorem e_X11_pairs_7 {l1 : Int32} {M0 : mM} {R : mZ} {out : ((Int32 ⊕ Nat) × mM)}  (h : f_X11_pairs_7 l1 M0 = some out) (hk : R = emT eI out) : Ev (9) 147 7 [some (.ref 0), some (.int l1), none, none, none] [] M0 R := by
  unfold f_X11_pairs_7 at h
  refine ev_go kc_147 1 (i' := 8) (L' := [some (.ref 0), some (.int l1), none, none, none]) (st' := [.int (0 : Int32)]) (M' := M0) rfl ?_
  exact Ev.forget (mLe.kp (mLe.kp (mLe.sk (mLe.sk (mLe.sk mLe.nl))))) (e_X11_pairs_8  h hk)
def f_X11_pairs (p1 : Int32) (M0 : mM) : Option ((Int32 ⊕ Nat) × mM) :=
  bif decide (p1 < 0) then (f_X11_pairs_7 p1 M0) else (bif decide ((999 : Int32) < p1) then (f_X11_pairs_7 p1 M0) else (f_X11_pairs_8 p1 true M0))
set_option maxRecDepth 8000 in
theorem c_X11_pairs {p1 : Int32} {M0 : mM} {out : ((Int32 ⊕ Nat) × mM)} (h : f_X11_pairs p1 M0 = some out) : Cs (9) 147 [.ref 0, .int p1] M0 (emT eI out) := by
  generalize hk : emT eI out = R
  replace hk := hk.symm
  unfold f_X11_pairs at h
  show Ev (9) 147 0 [some (.ref 0), some (.int p1), none, none, none] [] M0 R
  rcases o_bif h with ⟨hb8, h⟩ | ⟨hb8, h⟩
  · refine ev_goT kc_147 2 (t := 7) (e := 2) (L' := [some (.ref 0), some (.int p1), none, none, none]) (st' := []) rfl hb8 ?_
    exact Ev.forget (mLe.kp (mLe.kp (mLe.sk (mLe.sk (mLe.sk mLe.nl))))) (e_X11_pairs_7  h hk)
  · refine ev_goF kc_147 2 (t := 7) (e := 2) (L' := [some (.ref 0), some (.int p1), none, none, none]) (st' := []) rfl hb8 ?_
    rcases o_bif h with ⟨hb9, h⟩ | ⟨hb9, h⟩
    · refine ev_goT kc_147 3 (t := 7) (e := 5) (L' := [some (.ref 0), some (.int p1), none, none, none]) (st' := []) rfl hb9 ?_
      exact Ev.forget (mLe.kp (mLe.kp (mLe.sk (mLe.sk (mLe.sk mLe.nl))))) (e_X11_pairs_7  h hk)
    · refine ev_goF kc_147 3 (t := 7) (e := 5) (L' := [some (.ref 0), some (.int p1), none, none, none]) (st' := []) rfl hb9 ?_
      refine ev_go kc_147 2 (i' := 8) (L' := [some (.ref 0), some (.int p1), none, none, none]) (st' := [.int (1 : Int32)]) (M' := M0) rfl ?_
      exact Ev.forget (mLe.kp (mLe.kp (mLe.sk (mLe.sk (mLe.sk mLe.nl))))) (e_X11_pairs_8  h hk)
/-- WakeTower.dearest()I: 148, W -/
theorem kc_148 : mKc 148 = k_X11_dearest := rfl
def f_X11_dearest_37 (l1 : Int32) (l2 : Int32) (l3 : Int32) (s0 : Int32) (M0 : mM) : Option ((Int32 × mM) ⊕ (Int32 × Int32 × Int32 × mM)) :=
  bif decide (l1 = (-1 : Int32)) then (some (.inr (l3, s0, (l3 + (1 : Int32)), M0))) else (bif decide (s0 ≤ l2) then (some (.inr (l1, l2, (l3 + (1 : Int32)), M0))) else (some (.inr (l3, s0, (l3 + (1 : Int32)), M0))))
set_option maxRecDepth 8000 in
theorem e_X11_dearest_37 {l1 : Int32} {l2 : Int32} {l3 : Int32} {s0 : Int32} {M0 : mM} {R : mZ} {out : ((Int32 × mM) ⊕ (Int32 × Int32 × Int32 × mM))}  (h : f_X11_dearest_37 l1 l2 l3 s0 M0 = some out) (hk : (∀ s' : Int32 × Int32 × Int32 × mM, out = .inr s' → Ev (10) 148 6 [some (.ref 0), some (.int s'.1), some (.int s'.2.1), some (.int s'.2.2.1), none, none] [] (s'.2.2.2) R) ∧ (∀ e1 : (Int32 × mM), out = .inl e1 → R = emW eI e1)) : Ev (10) 148 37 [some (.ref 0), some (.int l1), some (.int l2), some (.int l3), none, none] [.int s0] M0 R := by
  unfold f_X11_dearest_37 at h
  rcases o_bif h with ⟨hb1, h⟩ | ⟨hb1, h⟩
  · refine ev_goT kc_148 4 (t := 44) (e := 41) (L' := [some (.ref 0), some (.int l1), some (.int l2), some (.int l3), none, some (.int s0)]) (st' := []) rfl hb1 ?_
    refine ev_go kc_148 6 (i' := 6) (L' := [some (.ref 0), some (.int l3), some (.int s0), some (.int (l3 + (1 : Int32))), none, some (.int s0)]) (st' := []) (M' := M0) rfl ?_
    obtain rfl := Option.some.inj h
    exact Ev.forget (mLe.kp (mLe.kp (mLe.kp (mLe.kp (mLe.sk (mLe.sk mLe.nl)))))) (hk.1 (l3, s0, (l3 + (1 : Int32)), M0) rfl)
  · refine ev_goF kc_148 4 (t := 44) (e := 41) (L' := [some (.ref 0), some (.int l1), some (.int l2), some (.int l3), none, some (.int s0)]) (st' := []) rfl hb1 ?_
    rcases o_bif h with ⟨hb2, h⟩ | ⟨hb2, h⟩
    · refine ev_goT kc_148 3 (t := 48) (e := 44) (L' := [some (.ref 0), some (.int l1), some (.int l2), some (.int l3), none, some (.int s0)]) (st' := []) rfl hb2 ?_
      refine ev_go kc_148 2 (i' := 6) (L' := [some (.ref 0), some (.int l1), some (.int l2), some (.int (l3 + (1 : Int32))), none, some (.int s0)]) (st' := []) (M' := M0) rfl ?_
      obtain rfl := Option.some.inj h
      exact Ev.forget (mLe.kp (mLe.kp (mLe.kp (mLe.kp (mLe.sk (mLe.sk mLe.nl)))))) (hk.1 (l1, l2, (l3 + (1 : Int32)), M0) rfl)
    · refine ev_goF kc_148 3 (t := 48) (e := 44) (L' := [some (.ref 0), some (.int l1), some (.int l2), some (.int l3), none, some (.int s0)]) (st' := []) rfl hb2 ?_
      refine ev_go kc_148 6 (i' := 6) (L' := [some (.ref 0), some (.int l3), some (.int s0), some (.int (l3 + (1 : Int32))), none, some (.int s0)]) (st' := []) (M' := M0) rfl ?_
      obtain rfl := Option.some.inj h
      exact Ev.forget (mLe.kp (mLe.kp (mLe.kp (mLe.kp (mLe.sk (mLe.sk mLe.nl)))))) (hk.1 (l3, s0, (l3 + (1 : Int32)), M0) rfl)
def f_X11_dearest_6 (l1 : Int32) (l2 : Int32) (l3 : Int32) (M0 : mM) : Option ((Int32 × mM) ⊕ (Int32 × Int32 × Int32 × mM)) :=
  bif decide ((8 : Int32) ≤ l3) then (some (.inl (l1, M0))) else (bif decide ((M0 35 0) ≤ l3) then (some (.inr (l1, l2, (l3 + (1 : Int32)), M0))) else (b1 (f_X9_everyone 35 M0) (fun v5 => b2 (f_X5_places 37 (v5 &&& ((f_X11_bit l3) ^^^ (-1 : Int32))) (2 : Int32) (100 : Int32) M0) (fun v7 M7 => bif decide (¬ v7 = (-1 : Int32)) then (f_X11_dearest_37 l1 l2 l3 v7 M7) else (f_X11_dearest_37 l1 l2 l3 (10000 : Int32) M7)))))
set_option maxRecDepth 8000 in
theorem e_X11_dearest_6 {l1 : Int32} {l2 : Int32} {l3 : Int32} {M0 : mM} {R : mZ} {out : ((Int32 × mM) ⊕ (Int32 × Int32 × Int32 × mM))}  (h : f_X11_dearest_6 l1 l2 l3 M0 = some out) (hk : (∀ s' : Int32 × Int32 × Int32 × mM, out = .inr s' → Ev (10) 148 6 [some (.ref 0), some (.int s'.1), some (.int s'.2.1), some (.int s'.2.2.1), none, none] [] (s'.2.2.2) R) ∧ (∀ e1 : (Int32 × mM), out = .inl e1 → R = emW eI e1)) : Ev (10) 148 6 [some (.ref 0), some (.int l1), some (.int l2), some (.int l3), none, none] [] M0 R := by
  unfold f_X11_dearest_6 at h
  rcases o_bif h with ⟨hb3, h⟩ | ⟨hb3, h⟩
  · refine ev_goT kc_148 3 (t := 50) (e := 9) (L' := [some (.ref 0), some (.int l1), some (.int l2), some (.int l3), none, none]) (st' := []) rfl hb3 ?_
    refine ev_go kc_148 1 (i' := 51) (L' := [some (.ref 0), some (.int l1), some (.int l2), some (.int l3), none, none]) (st' := [.int l1]) (M' := M0) rfl ?_
    obtain rfl := Option.some.inj h
    rw [show _ from (hk.2 _ rfl)]
    exact ev_ret kc_148 rfl rfl rfl
  · refine ev_goF kc_148 3 (t := 50) (e := 9) (L' := [some (.ref 0), some (.int l1), some (.int l2), some (.int l3), none, none]) (st' := []) rfl hb3 ?_
    rcases o_bif h with ⟨hb4, h⟩ | ⟨hb4, h⟩
    · refine ev_goT kc_148 5 (t := 48) (e := 14) (L' := [some (.ref 0), some (.int l1), some (.int l2), some (.int l3), none, none]) (st' := []) rfl hb4 ?_
      refine ev_go kc_148 2 (i' := 6) (L' := [some (.ref 0), some (.int l1), some (.int l2), some (.int (l3 + (1 : Int32))), none, none]) (st' := []) (M' := M0) rfl ?_
      obtain rfl := Option.some.inj h
      exact Ev.forget (mLe.kp (mLe.kp (mLe.kp (mLe.kp (mLe.sk (mLe.sk mLe.nl)))))) (hk.1 (l1, l2, (l3 + (1 : Int32)), M0) rfl)
    · refine ev_goF kc_148 5 (t := 48) (e := 14) (L' := [some (.ref 0), some (.int l1), some (.int l2), some (.int l3), none, none]) (st' := []) rfl hb4 ?_
      refine ev_go kc_148 7 (i' := 21) (L' := [some (.ref 0), some (.int l1), some (.int l2), some (.int l3), none, none]) (st' := [.ref 35, .ref 37, .ref 10]) (M' := M0) rfl ?_
      obtain ⟨v5, hc5, h⟩ := o_b1 h
      refine ev_cl0 (ins := .invokevirtual 200) kc_148 rfl rfl (a := 75) (as := [.ref 35]) (rest := [.ref 37, .ref 10]) rfl rfl (Cs.deep (c_X9_everyone (M0 := M0) hc5) (by decide)) ?_
      refine ev_go kc_148 1 (i' := 23) (L' := [some (.ref 0), some (.int l1), some (.int l2), some (.int l3), none, none]) (st' := [.int l3, .int v5, .ref 37, .ref 10]) (M' := M0) rfl ?_
      refine ev_cl0 (ins := .invokestatic 219) kc_148 rfl rfl (a := 177) (as := [.int l3]) (rest := [.int v5, .ref 37, .ref 10]) rfl rfl (Cs.deep (c_X11_bit (M0 := M0)) (by decide)) ?_
      refine ev_go kc_148 5 (i' := 29) (L' := [some (.ref 0), some (.int l1), some (.int l2), some (.int l3), none, none]) (st' := [.int (100 : Int32), .int (2 : Int32), .int (v5 &&& ((f_X11_bit l3) ^^^ (-1 : Int32))), .ref 37, .ref 10]) (M' := M0) rfl ?_
      obtain ⟨v7, M7, hc7, h⟩ := o_b2 h
      refine ev_cl0 (ins := .invokevirtual 309) kc_148 rfl rfl (a := 43) (as := [.ref 10, .ref 37, .int (v5 &&& ((f_X11_bit l3) ^^^ (-1 : Int32))), .int (2 : Int32), .int (100 : Int32)]) (rest := []) rfl rfl (Cs.deep (c_X5_places hc7) (by decide)) ?_
      rcases o_bif h with ⟨hb8, h⟩ | ⟨hb8, h⟩
      · refine ev_goT kc_148 4 (t := 36) (e := 34) (L' := [some (.ref 0), some (.int l1), some (.int l2), some (.int l3), some (.int v7), none]) (st' := []) rfl hb8 ?_
        refine ev_go kc_148 1 (i' := 37) (L' := [some (.ref 0), some (.int l1), some (.int l2), some (.int l3), some (.int v7), none]) (st' := [.int v7]) (M' := M7) rfl ?_
        exact Ev.forget (mLe.kp (mLe.kp (mLe.kp (mLe.kp (mLe.sk (mLe.sk mLe.nl)))))) (e_X11_dearest_37  h hk)
      · refine ev_goF kc_148 4 (t := 36) (e := 34) (L' := [some (.ref 0), some (.int l1), some (.int l2), some (.int l3), some (.int v7), none]) (st' := []) rfl hb8 ?_
        refine ev_go kc_148 2 (i' := 37) (L' := [some (.ref 0), some (.int l1), some (.int l2), some (.int l3), some (.int v7), none]) (st' := [.int (10000 : Int32)]) (M' := M7) rfl ?_
        exact Ev.forget (mLe.kp (mLe.kp (mLe.kp (mLe.kp (mLe.sk (mLe.sk mLe.nl)))))) (e_X11_dearest_37  h hk)
def f_X11_dearest_l6 (l1 : Int32) (l2 : Int32) (l3 : Int32) (M0 : mM) : Option (Int32 × mM) :=
  wh 100000 (fun s : Int32 × Int32 × Int32 × mM => f_X11_dearest_6 s.1 s.2.1 s.2.2.1 s.2.2.2) (l1, l2, l3, M0)
theorem e_X11_dearest_l6 {l1 : Int32} {l2 : Int32} {l3 : Int32} {M0 : mM} {R : mZ} {out : (Int32 × mM)}  (h : f_X11_dearest_l6 l1 l2 l3 M0 = some out) (hk : R = emW eI out) : Ev (10) 148 6 [some (.ref 0), some (.int l1), some (.int l2), some (.int l3), none, none] [] M0 R := by
  unfold f_X11_dearest_l6 at h
  exact wh_ev (P := fun s : Int32 × Int32 × Int32 × mM => Ev (10) 148 6 [some (.ref 0), some (.int s.1), some (.int s.2.1), some (.int s.2.2.1), none, none] [] s.2.2.2 R) (Q := fun e : (Int32 × mM) => R = emW eI e) (fun s o hb h1 h2 => e_X11_dearest_6  hb ⟨h1, h2⟩) 100000 _ _ h hk
def f_X11_dearest  (M0 : mM) : Option (Int32 × mM) :=
  f_X11_dearest_l6 (-1 : Int32) (0 : Int32) (0 : Int32) M0
set_option maxRecDepth 8000 in
theorem c_X11_dearest  {M0 : mM} {out : (Int32 × mM)} (h : f_X11_dearest M0 = some out) : Cs (10) 148 [.ref 0] M0 (emW eI out) := by
  generalize hk : emW eI out = R
  replace hk := hk.symm
  unfold f_X11_dearest at h
  show Ev (10) 148 0 [some (.ref 0), none, none, none, none, none] [] M0 R
  refine ev_go kc_148 6 (i' := 6) (L' := [some (.ref 0), some (.int (-1 : Int32)), some (.int (0 : Int32)), some (.int (0 : Int32)), none, none]) (st' := []) (M' := M0) rfl ?_
  exact Ev.forget (mLe.kp (mLe.kp (mLe.kp (mLe.kp (mLe.sk (mLe.sk mLe.nl)))))) (e_X11_dearest_l6  h hk)
/-- WakeTower.firstHas(II)I: 150, P -/
theorem kc_150 : mKc 150 = k_X11_firstHas := rfl
def f_X11_firstHas (p0 : Int32) (p1 : Int32) : Int32 :=
  bif decide (¬ p0 = (1 : Int32)) then (bif decide (¬ p1 = 0) then ((3 : Int32)) else ((-2 : Int32))) else ((1 : Int32))
set_option maxRecDepth 8000 in
theorem c_X11_firstHas {p0 : Int32} {p1 : Int32} {M0 : mM} : Cs (0) 150 [.int p0, .int p1] M0 (emR eI M0 (f_X11_firstHas p0 p1)) := by
  generalize h : f_X11_firstHas p0 p1 = out
  generalize hk : emR eI M0 out = R
  replace hk := hk.symm
  unfold f_X11_firstHas at h
  show Ev (0) 150 0 [some (.int p0), some (.int p1)] [] M0 R
  rcases o_bif h with ⟨hb1, h⟩ | ⟨hb1, h⟩
  · refine ev_goT kc_150 3 (t := 5) (e := 3) (L' := [some (.int p0), some (.int p1)]) (st' := []) rfl hb1 ?_
    rcases o_bif h with ⟨hb2, h⟩ | ⟨hb2, h⟩
    · refine ev_goT kc_150 2 (t := 9) (e := 7) (L' := [some (.int p0), some (.int p1)]) (st' := []) rfl hb2 ?_
      refine ev_go kc_150 1 (i' := 10) (L' := [some (.int p0), some (.int p1)]) (st' := [.int (3 : Int32)]) (M' := M0) rfl ?_
      subst h
      rw [hk]
      exact ev_ret kc_150 rfl rfl rfl
    · refine ev_goF kc_150 2 (t := 9) (e := 7) (L' := [some (.int p0), some (.int p1)]) (st' := []) rfl hb2 ?_
      refine ev_go kc_150 2 (i' := 10) (L' := [some (.int p0), some (.int p1)]) (st' := [.int (-2 : Int32)]) (M' := M0) rfl ?_
      subst h
      rw [hk]
      exact ev_ret kc_150 rfl rfl rfl
  · refine ev_goF kc_150 3 (t := 5) (e := 3) (L' := [some (.int p0), some (.int p1)]) (st' := []) rfl hb1 ?_
    refine ev_go kc_150 1 (i' := 4) (L' := [some (.int p0), some (.int p1)]) (st' := [.int (1 : Int32)]) (M' := M0) rfl ?_
    subst h
    rw [hk]
    exact ev_ret kc_150 rfl rfl rfl
/-- WakeTower.secondHas(III)I: 151, R -/
theorem kc_151 : mKc 151 = k_X11_secondHas := rfl
def f_X11_secondHas_18 (l2 : Int32) (l4 : Int32) (s0 : Int32) (M0 : mM) : Option Int32 :=
  bif decide (¬ l2 = 0) then (some s0) else (bif decide (l4 = 0) then (some (s0 + (-1 : Int32))) else (some (s0 + (2 : Int32))))
set_option maxRecDepth 8000 in
theorem e_X11_secondHas_18 {l2 : Int32} {l4 : Int32} {s0 : Int32} {M0 : mM} {R : mZ} {out : Int32}  (h : f_X11_secondHas_18 l2 l4 s0 M0 = some out) (hk : R = emR eI M0 out) : Ev (0) 151 18 [none, none, some (.int l2), none, some (.int l4), none] [.int s0] M0 R := by
  unfold f_X11_secondHas_18 at h
  rcases o_bif h with ⟨hb1, h⟩ | ⟨hb1, h⟩
  · refine ev_goT kc_151 3 (t := 29) (e := 21) (L' := [none, none, some (.int l2), none, some (.int l4), some (.int s0)]) (st' := []) rfl hb1 ?_
    refine ev_go kc_151 1 (i' := 30) (L' := [none, none, some (.int l2), none, some (.int l4), some (.int s0)]) (st' := [.int s0]) (M' := M0) rfl ?_
    obtain rfl := Option.some.inj h
    rw [hk]
    exact ev_ret kc_151 rfl rfl rfl
  · refine ev_goF kc_151 3 (t := 29) (e := 21) (L' := [none, none, some (.int l2), none, some (.int l4), some (.int s0)]) (st' := []) rfl hb1 ?_
    rcases o_bif h with ⟨hb2, h⟩ | ⟨hb2, h⟩
    · refine ev_goT kc_151 3 (t := 26) (e := 24) (L' := [none, none, some (.int l2), none, some (.int l4), some (.int s0)]) (st' := [.int s0]) rfl hb2 ?_
      refine ev_go kc_151 4 (i' := 30) (L' := [none, none, some (.int l2), none, some (.int l4), some (.int (s0 + (-1 : Int32)))]) (st' := [.int (s0 + (-1 : Int32))]) (M' := M0) rfl ?_
      obtain rfl := Option.some.inj h
      rw [hk]
      exact ev_ret kc_151 rfl rfl rfl
    · refine ev_goF kc_151 3 (t := 26) (e := 24) (L' := [none, none, some (.int l2), none, some (.int l4), some (.int s0)]) (st' := [.int s0]) rfl hb2 ?_
      refine ev_go kc_151 5 (i' := 30) (L' := [none, none, some (.int l2), none, some (.int l4), some (.int (s0 + (2 : Int32)))]) (st' := [.int (s0 + (2 : Int32))]) (M' := M0) rfl ?_
      obtain rfl := Option.some.inj h
      rw [hk]
      exact ev_ret kc_151 rfl rfl rfl
def f_X11_secondHas_5 (l2 : Int32) (l3 : Int32) (s0 : Bool) (M0 : mM) : Option Int32 :=
  bif s0 then (gd (mIn l3 8) (f_X11_secondHas_18 l2 (mB s0) (-((M0 42 (ix l3)) / (10 : Int32))) M0)) else (f_X11_secondHas_18 l2 (mB s0) (0 : Int32) M0)
set_option maxRecDepth 8000 in
theorem e_X11_secondHas_5 {l2 : Int32} {l3 : Int32} {s0 : Bool} {M0 : mM} {R : mZ} {out : Int32}  (h : f_X11_secondHas_5 l2 l3 s0 M0 = some out) (hk : R = emR eI M0 out) : Ev (0) 151 5 [some (.ref 0), none, some (.int l2), some (.int l3), none, none] [.int (mB s0)] M0 R := by
  unfold f_X11_secondHas_5 at h
  rcases o_bif h with ⟨hb3, h⟩ | ⟨hb3, h⟩
  · refine ev_goF kc_151 3 (t := 17) (e := 8) (L' := [some (.ref 0), none, some (.int l2), some (.int l3), some (.int (mB s0)), none]) (st' := []) rfl (mB_e0f hb3) ?_
    refine ev_go kc_151 4 (i' := 12) (L' := [some (.ref 0), none, some (.int l2), some (.int l3), some (.int (mB s0)), none]) (st' := [.int l3, .ref 42]) (M' := M0) rfl ?_
    obtain ⟨hg4, h⟩ := o_gd h
    refine ev_ia kc_151 rfl rfl hg4 ?_
    refine ev_go kc_151 4 (i' := 18) (L' := [some (.ref 0), none, some (.int l2), some (.int l3), some (.int (mB s0)), none]) (st' := [.int (-((M0 42 (ix l3)) / (10 : Int32)))]) (M' := M0) rfl ?_
    exact Ev.forget (mLe.sk (mLe.sk (mLe.kp (mLe.sk (mLe.kp (mLe.sk mLe.nl)))))) (e_X11_secondHas_18  h hk)
  · refine ev_goT kc_151 3 (t := 17) (e := 8) (L' := [some (.ref 0), none, some (.int l2), some (.int l3), some (.int (mB s0)), none]) (st' := []) rfl (mB_e0t hb3) ?_
    refine ev_go kc_151 1 (i' := 18) (L' := [some (.ref 0), none, some (.int l2), some (.int l3), some (.int (mB s0)), none]) (st' := [.int (0 : Int32)]) (M' := M0) rfl ?_
    exact Ev.forget (mLe.sk (mLe.sk (mLe.kp (mLe.sk (mLe.kp (mLe.sk mLe.nl)))))) (e_X11_secondHas_18  h hk)
def f_X11_secondHas (p1 : Int32) (p2 : Int32) (p3 : Int32) (M0 : mM) : Option Int32 :=
  bif decide (¬ p1 = 0) then (f_X11_secondHas_5 p2 p3 false M0) else (f_X11_secondHas_5 p2 p3 true M0)
set_option maxRecDepth 8000 in
theorem c_X11_secondHas {p1 : Int32} {p2 : Int32} {p3 : Int32} {M0 : mM} {out : Int32} (h : f_X11_secondHas p1 p2 p3 M0 = some out) : Cs (0) 151 [.ref 0, .int p1, .int p2, .int p3] M0 (emR eI M0 out) := by
  generalize hk : emR eI M0 out = R
  replace hk := hk.symm
  unfold f_X11_secondHas at h
  show Ev (0) 151 0 [some (.ref 0), some (.int p1), some (.int p2), some (.int p3), none, none] [] M0 R
  rcases o_bif h with ⟨hb5, h⟩ | ⟨hb5, h⟩
  · refine ev_goT kc_151 2 (t := 4) (e := 2) (L' := [some (.ref 0), some (.int p1), some (.int p2), some (.int p3), none, none]) (st' := []) rfl hb5 ?_
    refine ev_go kc_151 1 (i' := 5) (L' := [some (.ref 0), some (.int p1), some (.int p2), some (.int p3), none, none]) (st' := [.int (0 : Int32)]) (M' := M0) rfl ?_
    exact Ev.forget (mLe.kp (mLe.sk (mLe.kp (mLe.kp (mLe.sk (mLe.sk mLe.nl)))))) (e_X11_secondHas_5  h hk)
  · refine ev_goF kc_151 2 (t := 4) (e := 2) (L' := [some (.ref 0), some (.int p1), some (.int p2), some (.int p3), none, none]) (st' := []) rfl hb5 ?_
    refine ev_go kc_151 2 (i' := 5) (L' := [some (.ref 0), some (.int p1), some (.int p2), some (.int p3), none, none]) (st' := [.int (1 : Int32)]) (M' := M0) rfl ?_
    exact Ev.forget (mLe.kp (mLe.sk (mLe.kp (mLe.kp (mLe.sk (mLe.sk mLe.nl)))))) (e_X11_secondHas_5  h hk)
/-- WakeTower.rests(II)I: 149, T -/
theorem kc_149 : mKc 149 = k_X11_rests := rfl
def f_X11_rests_61 (l2 : Int32) (l3 : Int32) (l4 : Int32) (l5 : Int32) (l6 : Int32) (s0 : Bool) (M0 : mM) : Option ((((Int32 ⊕ Nat) × mM) ⊕ (Int32 × Int32)) ⊕ (Int32 × Int32)) :=
  bif decide (l6 = 0) then (some (.inr (l3, (l5 + (1 : Int32))))) else (bif s0 then (some (.inr ((l3 ||| (f_X11_bit (((2 : Int32) * l4) + l5))), (l5 + (1 : Int32))))) else (some (.inr (l3, (l5 + (1 : Int32))))))
set_option maxRecDepth 8000 in
theorem e_X11_rests_61 {l2 : Int32} {l3 : Int32} {l4 : Int32} {l5 : Int32} {l6 : Int32} {s0 : Bool} {M0 : mM} {R : mZ} {out : ((((Int32 ⊕ Nat) × mM) ⊕ (Int32 × Int32)) ⊕ (Int32 × Int32))}  (h : f_X11_rests_61 l2 l3 l4 l5 l6 s0 M0 = some out) (hk : (∀ s' : Int32 × Int32, out = .inr s' → Ev (10) 149 29 [some (.ref 0), none, some (.int l2), some (.int s'.1), some (.int l4), some (.int s'.2), none, none] [] M0 R) ∧ (∀ e2 : (((Int32 ⊕ Nat) × mM) ⊕ (Int32 × Int32)), out = .inl e2 → (∀ s' : Int32 × Int32, e2 = .inr s' → Ev (10) 149 24 [some (.ref 0), none, some (.int l2), some (.int s'.1), some (.int s'.2), none, none, none] [] M0 R) ∧ (∀ e1 : ((Int32 ⊕ Nat) × mM), e2 = .inl e1 → R = emT eI e1))) : Ev (10) 149 61 [some (.ref 0), none, some (.int l2), some (.int l3), some (.int l4), some (.int l5), some (.int l6), none] [.int (mB s0)] M0 R := by
  unfold f_X11_rests_61 at h
  rcases o_bif h with ⟨hb1, h⟩ | ⟨hb1, h⟩
  · refine ev_goT kc_149 3 (t := 75) (e := 64) (L' := [some (.ref 0), none, some (.int l2), some (.int l3), some (.int l4), some (.int l5), some (.int l6), some (.int (mB s0))]) (st' := []) rfl hb1 ?_
    refine ev_go kc_149 2 (i' := 29) (L' := [some (.ref 0), none, some (.int l2), some (.int l3), some (.int l4), some (.int (l5 + (1 : Int32))), some (.int l6), some (.int (mB s0))]) (st' := []) (M' := M0) rfl ?_
    obtain rfl := Option.some.inj h
    exact Ev.forget (mLe.kp (mLe.sk (mLe.kp (mLe.kp (mLe.kp (mLe.kp (mLe.sk (mLe.sk mLe.nl)))))))) (hk.1 (l3, (l5 + (1 : Int32))) rfl)
  · refine ev_goF kc_149 3 (t := 75) (e := 64) (L' := [some (.ref 0), none, some (.int l2), some (.int l3), some (.int l4), some (.int l5), some (.int l6), some (.int (mB s0))]) (st' := []) rfl hb1 ?_
    rcases o_bif h with ⟨hb2, h⟩ | ⟨hb2, h⟩
    · refine ev_goF kc_149 2 (t := 75) (e := 66) (L' := [some (.ref 0), none, some (.int l2), some (.int l3), some (.int l4), some (.int l5), some (.int l6), some (.int (mB s0))]) (st' := []) rfl (mB_e0f hb2) ?_
      refine ev_go kc_149 6 (i' := 72) (L' := [some (.ref 0), none, some (.int l2), some (.int l3), some (.int l4), some (.int l5), some (.int l6), some (.int (mB s0))]) (st' := [.int (((2 : Int32) * l4) + l5), .int l3]) (M' := M0) rfl ?_
      refine ev_cl0 (ins := .invokestatic 219) kc_149 rfl rfl (a := 177) (as := [.int (((2 : Int32) * l4) + l5)]) (rest := [.int l3]) rfl rfl (Cs.deep (c_X11_bit (M0 := M0)) (by decide)) ?_
      refine ev_go kc_149 4 (i' := 29) (L' := [some (.ref 0), none, some (.int l2), some (.int (l3 ||| (f_X11_bit (((2 : Int32) * l4) + l5)))), some (.int l4), some (.int (l5 + (1 : Int32))), some (.int l6), some (.int (mB s0))]) (st' := []) (M' := M0) rfl ?_
      obtain rfl := Option.some.inj h
      exact Ev.forget (mLe.kp (mLe.sk (mLe.kp (mLe.kp (mLe.kp (mLe.kp (mLe.sk (mLe.sk mLe.nl)))))))) (hk.1 ((l3 ||| (f_X11_bit (((2 : Int32) * l4) + l5))), (l5 + (1 : Int32))) rfl)
    · refine ev_goT kc_149 2 (t := 75) (e := 66) (L' := [some (.ref 0), none, some (.int l2), some (.int l3), some (.int l4), some (.int l5), some (.int l6), some (.int (mB s0))]) (st' := []) rfl (mB_e0t hb2) ?_
      refine ev_go kc_149 2 (i' := 29) (L' := [some (.ref 0), none, some (.int l2), some (.int l3), some (.int l4), some (.int (l5 + (1 : Int32))), some (.int l6), some (.int (mB s0))]) (st' := []) (M' := M0) rfl ?_
      obtain rfl := Option.some.inj h
      exact Ev.forget (mLe.kp (mLe.sk (mLe.kp (mLe.kp (mLe.kp (mLe.kp (mLe.sk (mLe.sk mLe.nl)))))))) (hk.1 (l3, (l5 + (1 : Int32))) rfl)
def f_X11_rests_44 (l2 : Int32) (l3 : Int32) (l4 : Int32) (l5 : Int32) (s0 : Bool) (M0 : mM) : Option ((((Int32 ⊕ Nat) × mM) ⊕ (Int32 × Int32)) ⊕ (Int32 × Int32)) :=
  b1 (f_X11_secondHas l4 l5 l2 M0) (fun v4 => b1 (f_X11_secondHas l4 ((1 : Int32) - l5) l2 M0) (fun v5 => bif decide (v4 < v5) then (f_X11_rests_61 l2 l3 l4 l5 (mB s0) false M0) else (f_X11_rests_61 l2 l3 l4 l5 (mB s0) true M0)))
set_option maxRecDepth 8000 in
theorem e_X11_rests_44 {l2 : Int32} {l3 : Int32} {l4 : Int32} {l5 : Int32} {s0 : Bool} {M0 : mM} {R : mZ} {out : ((((Int32 ⊕ Nat) × mM) ⊕ (Int32 × Int32)) ⊕ (Int32 × Int32))}  (h : f_X11_rests_44 l2 l3 l4 l5 s0 M0 = some out) (hk : (∀ s' : Int32 × Int32, out = .inr s' → Ev (10) 149 29 [some (.ref 0), none, some (.int l2), some (.int s'.1), some (.int l4), some (.int s'.2), none, none] [] M0 R) ∧ (∀ e2 : (((Int32 ⊕ Nat) × mM) ⊕ (Int32 × Int32)), out = .inl e2 → (∀ s' : Int32 × Int32, e2 = .inr s' → Ev (10) 149 24 [some (.ref 0), none, some (.int l2), some (.int s'.1), some (.int s'.2), none, none, none] [] M0 R) ∧ (∀ e1 : ((Int32 ⊕ Nat) × mM), e2 = .inl e1 → R = emT eI e1))) : Ev (10) 149 44 [some (.ref 0), none, some (.int l2), some (.int l3), some (.int l4), some (.int l5), none, none] [.int (mB s0)] M0 R := by
  unfold f_X11_rests_44 at h
  refine ev_go kc_149 5 (i' := 49) (L' := [some (.ref 0), none, some (.int l2), some (.int l3), some (.int l4), some (.int l5), some (.int (mB s0)), none]) (st' := [.int l2, .int l5, .int l4, .ref 0]) (M' := M0) rfl ?_
  obtain ⟨v4, hc4, h⟩ := o_b1 h
  refine ev_cl0 (ins := .invokevirtual 321) kc_149 rfl rfl (a := 151) (as := [.ref 0, .int l4, .int l5, .int l2]) (rest := []) rfl rfl (Cs.deep (c_X11_secondHas (M0 := M0) hc4) (by decide)) ?_
  refine ev_go kc_149 6 (i' := 56) (L' := [some (.ref 0), none, some (.int l2), some (.int l3), some (.int l4), some (.int l5), some (.int (mB s0)), none]) (st' := [.int l2, .int ((1 : Int32) - l5), .int l4, .ref 0, .int v4]) (M' := M0) rfl ?_
  obtain ⟨v5, hc5, h⟩ := o_b1 h
  refine ev_cl0 (ins := .invokevirtual 321) kc_149 rfl rfl (a := 151) (as := [.ref 0, .int l4, .int ((1 : Int32) - l5), .int l2]) (rest := [.int v4]) rfl rfl (Cs.deep (c_X11_secondHas (M0 := M0) hc5) (by decide)) ?_
  rcases o_bif h with ⟨hb6, h⟩ | ⟨hb6, h⟩
  · refine ev_goT kc_149 1 (t := 60) (e := 58) (L' := [some (.ref 0), none, some (.int l2), some (.int l3), some (.int l4), some (.int l5), some (.int (mB s0)), none]) (st' := []) rfl hb6 ?_
    refine ev_go kc_149 1 (i' := 61) (L' := [some (.ref 0), none, some (.int l2), some (.int l3), some (.int l4), some (.int l5), some (.int (mB s0)), none]) (st' := [.int (0 : Int32)]) (M' := M0) rfl ?_
    exact Ev.forget (mLe.kp (mLe.sk (mLe.kp (mLe.kp (mLe.kp (mLe.kp (mLe.kp (mLe.sk mLe.nl)))))))) (e_X11_rests_61  h hk)
  · refine ev_goF kc_149 1 (t := 60) (e := 58) (L' := [some (.ref 0), none, some (.int l2), some (.int l3), some (.int l4), some (.int l5), some (.int (mB s0)), none]) (st' := []) rfl hb6 ?_
    refine ev_go kc_149 2 (i' := 61) (L' := [some (.ref 0), none, some (.int l2), some (.int l3), some (.int l4), some (.int l5), some (.int (mB s0)), none]) (st' := [.int (1 : Int32)]) (M' := M0) rfl ?_
    exact Ev.forget (mLe.kp (mLe.sk (mLe.kp (mLe.kp (mLe.kp (mLe.kp (mLe.kp (mLe.sk mLe.nl)))))))) (e_X11_rests_61  h hk)
def f_X11_rests_29 (l2 : Int32) (l3 : Int32) (l4 : Int32) (l5 : Int32) (M0 : mM) : Option ((((Int32 ⊕ Nat) × mM) ⊕ (Int32 × Int32)) ⊕ (Int32 × Int32)) :=
  bif decide ((2 : Int32) ≤ l5) then (some (.inl (.inr (l3, (l4 + (1 : Int32)))))) else (bif decide ((f_X11_firstHas l4 l5) < (f_X11_firstHas ((1 : Int32) - l4) l5)) then (f_X11_rests_44 l2 l3 l4 l5 false M0) else (f_X11_rests_44 l2 l3 l4 l5 true M0))
set_option maxRecDepth 8000 in
theorem e_X11_rests_29 {l2 : Int32} {l3 : Int32} {l4 : Int32} {l5 : Int32} {M0 : mM} {R : mZ} {out : ((((Int32 ⊕ Nat) × mM) ⊕ (Int32 × Int32)) ⊕ (Int32 × Int32))}  (h : f_X11_rests_29 l2 l3 l4 l5 M0 = some out) (hk : (∀ s' : Int32 × Int32, out = .inr s' → Ev (10) 149 29 [some (.ref 0), none, some (.int l2), some (.int s'.1), some (.int l4), some (.int s'.2), none, none] [] M0 R) ∧ (∀ e2 : (((Int32 ⊕ Nat) × mM) ⊕ (Int32 × Int32)), out = .inl e2 → (∀ s' : Int32 × Int32, e2 = .inr s' → Ev (10) 149 24 [some (.ref 0), none, some (.int l2), some (.int s'.1), some (.int s'.2), none, none, none] [] M0 R) ∧ (∀ e1 : ((Int32 ⊕ Nat) × mM), e2 = .inl e1 → R = emT eI e1))) : Ev (10) 149 29 [some (.ref 0), none, some (.int l2), some (.int l3), some (.int l4), some (.int l5), none, none] [] M0 R := by
  unfold f_X11_rests_29 at h
  rcases o_bif h with ⟨hb7, h⟩ | ⟨hb7, h⟩
  · refine ev_goT kc_149 3 (t := 77) (e := 32) (L' := [some (.ref 0), none, some (.int l2), some (.int l3), some (.int l4), some (.int l5), none, none]) (st' := []) rfl hb7 ?_
    refine ev_go kc_149 2 (i' := 24) (L' := [some (.ref 0), none, some (.int l2), some (.int l3), some (.int (l4 + (1 : Int32))), some (.int l5), none, none]) (st' := []) (M' := M0) rfl ?_
    obtain rfl := Option.some.inj h
    exact Ev.forget (mLe.kp (mLe.sk (mLe.kp (mLe.kp (mLe.kp (mLe.sk (mLe.sk (mLe.sk mLe.nl)))))))) ((hk.2 _ rfl).1 (l3, (l4 + (1 : Int32))) rfl)
  · refine ev_goF kc_149 3 (t := 77) (e := 32) (L' := [some (.ref 0), none, some (.int l2), some (.int l3), some (.int l4), some (.int l5), none, none]) (st' := []) rfl hb7 ?_
    refine ev_go kc_149 2 (i' := 34) (L' := [some (.ref 0), none, some (.int l2), some (.int l3), some (.int l4), some (.int l5), none, none]) (st' := [.int l5, .int l4]) (M' := M0) rfl ?_
    refine ev_cl0 (ins := .invokestatic 317) kc_149 rfl rfl (a := 150) (as := [.int l4, .int l5]) (rest := []) rfl rfl (Cs.deep (c_X11_firstHas (M0 := M0)) (by decide)) ?_
    refine ev_go kc_149 4 (i' := 39) (L' := [some (.ref 0), none, some (.int l2), some (.int l3), some (.int l4), some (.int l5), none, none]) (st' := [.int l5, .int ((1 : Int32) - l4), .int (f_X11_firstHas l4 l5)]) (M' := M0) rfl ?_
    refine ev_cl0 (ins := .invokestatic 317) kc_149 rfl rfl (a := 150) (as := [.int ((1 : Int32) - l4), .int l5]) (rest := [.int (f_X11_firstHas l4 l5)]) rfl rfl (Cs.deep (c_X11_firstHas (M0 := M0)) (by decide)) ?_
    rcases o_bif h with ⟨hb10, h⟩ | ⟨hb10, h⟩
    · refine ev_goT kc_149 1 (t := 43) (e := 41) (L' := [some (.ref 0), none, some (.int l2), some (.int l3), some (.int l4), some (.int l5), none, none]) (st' := []) rfl hb10 ?_
      refine ev_go kc_149 1 (i' := 44) (L' := [some (.ref 0), none, some (.int l2), some (.int l3), some (.int l4), some (.int l5), none, none]) (st' := [.int (0 : Int32)]) (M' := M0) rfl ?_
      exact Ev.forget (mLe.kp (mLe.sk (mLe.kp (mLe.kp (mLe.kp (mLe.kp (mLe.sk (mLe.sk mLe.nl)))))))) (e_X11_rests_44  h hk)
    · refine ev_goF kc_149 1 (t := 43) (e := 41) (L' := [some (.ref 0), none, some (.int l2), some (.int l3), some (.int l4), some (.int l5), none, none]) (st' := []) rfl hb10 ?_
      refine ev_go kc_149 2 (i' := 44) (L' := [some (.ref 0), none, some (.int l2), some (.int l3), some (.int l4), some (.int l5), none, none]) (st' := [.int (1 : Int32)]) (M' := M0) rfl ?_
      exact Ev.forget (mLe.kp (mLe.sk (mLe.kp (mLe.kp (mLe.kp (mLe.kp (mLe.sk (mLe.sk mLe.nl)))))))) (e_X11_rests_44  h hk)
def f_X11_rests_l29 (l2 : Int32) (l4 : Int32) (l3 : Int32) (l5 : Int32) (M0 : mM) : Option (((Int32 ⊕ Nat) × mM) ⊕ (Int32 × Int32)) :=
  wh 100000 (fun s : Int32 × Int32 => f_X11_rests_29 l2 s.1 l4 s.2 M0) (l3, l5)
theorem e_X11_rests_l29 {l2 : Int32} {l3 : Int32} {l4 : Int32} {l5 : Int32} {M0 : mM} {R : mZ} {out : (((Int32 ⊕ Nat) × mM) ⊕ (Int32 × Int32))}  (h : f_X11_rests_l29 l2 l4 l3 l5 M0 = some out) (hk : (∀ s' : Int32 × Int32, out = .inr s' → Ev (10) 149 24 [some (.ref 0), none, some (.int l2), some (.int s'.1), some (.int s'.2), none, none, none] [] M0 R) ∧ (∀ e1 : ((Int32 ⊕ Nat) × mM), out = .inl e1 → R = emT eI e1)) : Ev (10) 149 29 [some (.ref 0), none, some (.int l2), some (.int l3), some (.int l4), some (.int l5), none, none] [] M0 R := by
  unfold f_X11_rests_l29 at h
  exact wh_ev (P := fun s : Int32 × Int32 => Ev (10) 149 29 [some (.ref 0), none, some (.int l2), some (.int s.1), some (.int l4), some (.int s.2), none, none] [] M0 R) (Q := fun e : (((Int32 ⊕ Nat) × mM) ⊕ (Int32 × Int32)) => (∀ s' : Int32 × Int32, e = .inr s' → Ev (10) 149 24 [some (.ref 0), none, some (.int l2), some (.int s'.1), some (.int s'.2), none, none, none] [] M0 R) ∧ (∀ e1 : ((Int32 ⊕ Nat) × mM), e = .inl e1 → R = emT eI e1)) (fun s o hb h1 h2 => e_X11_rests_29  hb ⟨h1, h2⟩) 100000 _ _ h hk
def f_X11_rests_24 (l2 : Int32) (l3 : Int32) (l4 : Int32) (M0 : mM) : Option (((Int32 ⊕ Nat) × mM) ⊕ (Int32 × Int32)) :=
  bif decide ((2 : Int32) ≤ l4) then (some (.inl (.inl l3, M0))) else (f_X11_rests_l29 l2 l4 l3 (0 : Int32) M0)
set_option maxRecDepth 8000 in
theorem e_X11_rests_24 {l2 : Int32} {l3 : Int32} {l4 : Int32} {M0 : mM} {R : mZ} {out : (((Int32 ⊕ Nat) × mM) ⊕ (Int32 × Int32))}  (h : f_X11_rests_24 l2 l3 l4 M0 = some out) (hk : (∀ s' : Int32 × Int32, out = .inr s' → Ev (10) 149 24 [some (.ref 0), none, some (.int l2), some (.int s'.1), some (.int s'.2), none, none, none] [] M0 R) ∧ (∀ e1 : ((Int32 ⊕ Nat) × mM), out = .inl e1 → R = emT eI e1)) : Ev (10) 149 24 [some (.ref 0), none, some (.int l2), some (.int l3), some (.int l4), none, none, none] [] M0 R := by
  unfold f_X11_rests_24 at h
  rcases o_bif h with ⟨hb11, h⟩ | ⟨hb11, h⟩
  · refine ev_goT kc_149 3 (t := 79) (e := 27) (L' := [some (.ref 0), none, some (.int l2), some (.int l3), some (.int l4), none, none, none]) (st' := []) rfl hb11 ?_
    refine ev_go kc_149 1 (i' := 80) (L' := [some (.ref 0), none, some (.int l2), some (.int l3), some (.int l4), none, none, none]) (st' := [.int l3]) (M' := M0) rfl ?_
    obtain rfl := Option.some.inj h
    rw [show _ from (hk.2 _ rfl)]
    exact ev_ret kc_149 rfl rfl rfl
  · refine ev_goF kc_149 3 (t := 79) (e := 27) (L' := [some (.ref 0), none, some (.int l2), some (.int l3), some (.int l4), none, none, none]) (st' := []) rfl hb11 ?_
    refine ev_go kc_149 2 (i' := 29) (L' := [some (.ref 0), none, some (.int l2), some (.int l3), some (.int l4), some (.int (0 : Int32)), none, none]) (st' := []) (M' := M0) rfl ?_
    exact Ev.forget (mLe.kp (mLe.sk (mLe.kp (mLe.kp (mLe.kp (mLe.kp (mLe.sk (mLe.sk mLe.nl)))))))) (e_X11_rests_l29  h hk)
def f_X11_rests_l24 (l2 : Int32) (l3 : Int32) (l4 : Int32) (M0 : mM) : Option ((Int32 ⊕ Nat) × mM) :=
  wh 100000 (fun s : Int32 × Int32 => f_X11_rests_24 l2 s.1 s.2 M0) (l3, l4)
theorem e_X11_rests_l24 {l2 : Int32} {l3 : Int32} {l4 : Int32} {M0 : mM} {R : mZ} {out : ((Int32 ⊕ Nat) × mM)}  (h : f_X11_rests_l24 l2 l3 l4 M0 = some out) (hk : R = emT eI out) : Ev (10) 149 24 [some (.ref 0), none, some (.int l2), some (.int l3), some (.int l4), none, none, none] [] M0 R := by
  unfold f_X11_rests_l24 at h
  exact wh_ev (P := fun s : Int32 × Int32 => Ev (10) 149 24 [some (.ref 0), none, some (.int l2), some (.int s.1), some (.int s.2), none, none, none] [] M0 R) (Q := fun e : ((Int32 ⊕ Nat) × mM) => R = emT eI e) (fun s o hb h1 h2 => e_X11_rests_24  hb ⟨h1, h2⟩) 100000 _ _ h hk
def f_X11_rests (p1 : Int32) (p2 : Int32) (M0 : mM) : Option ((Int32 ⊕ Nat) × mM) :=
  tb (f_X11_mustBePerson p1 M0) (fun v12 M12 => tb (f_X11_mustBePerson p2 M12) (fun v13 M13 => tb (f_X11_mustHold p1 M13) (fun v14 M14 => tb (f_X11_mustHold p2 M14) (fun v15 M15 => gd (mIn p1 8) (tb (f_X11_mustBeSo (f_X11_has (M15 41 (ix p1)) p2) M15) (fun v18 M18 => f_X11_rests_l24 p2 (0 : Int32) (0 : Int32) M18))))))
set_option maxRecDepth 8000 in
theorem c_X11_rests {p1 : Int32} {p2 : Int32} {M0 : mM} {out : ((Int32 ⊕ Nat) × mM)} (h : f_X11_rests p1 p2 M0 = some out) : Cs (10) 149 [.ref 0, .int p1, .int p2] M0 (emT eI out) := by
  generalize hk : emT eI out = R
  replace hk := hk.symm
  unfold f_X11_rests at h
  show Ev (10) 149 0 [some (.ref 0), some (.int p1), some (.int p2), none, none, none, none, none] [] M0 R
  refine ev_go kc_149 2 (i' := 2) (L' := [some (.ref 0), some (.int p1), some (.int p2), none, none, none, none, none]) (st' := [.int p1, .ref 0]) (M' := M0) rfl ?_
  rcases o_tb h with ⟨v12, M12, hc12, h⟩ | ⟨E12, M12, hc12, h⟩
  rotate_left
  · subst h
    rw [hk]
    exact ev_clT (ins := .invokevirtual 128) kc_149 rfl rfl (a := 170) (as := [.ref 0, .int p1]) (rest := []) rfl rfl rfl rfl (Cs.deep (c_X11_mustBePerson hc12) (by decide))
  refine ev_cl0 (ins := .invokevirtual 128) kc_149 rfl rfl (a := 170) (as := [.ref 0, .int p1]) (rest := []) rfl rfl (Cs.deep (c_X11_mustBePerson hc12) (by decide)) ?_
  refine ev_go kc_149 2 (i' := 5) (L' := [some (.ref 0), some (.int p1), some (.int p2), none, none, none, none, none]) (st' := [.int p2, .ref 0]) (M' := M12) rfl ?_
  rcases o_tb h with ⟨v13, M13, hc13, h⟩ | ⟨E13, M13, hc13, h⟩
  rotate_left
  · subst h
    rw [hk]
    exact ev_clT (ins := .invokevirtual 128) kc_149 rfl rfl (a := 170) (as := [.ref 0, .int p2]) (rest := []) rfl rfl rfl rfl (Cs.deep (c_X11_mustBePerson hc13) (by decide))
  refine ev_cl0 (ins := .invokevirtual 128) kc_149 rfl rfl (a := 170) (as := [.ref 0, .int p2]) (rest := []) rfl rfl (Cs.deep (c_X11_mustBePerson hc13) (by decide)) ?_
  refine ev_go kc_149 2 (i' := 8) (L' := [some (.ref 0), some (.int p1), some (.int p2), none, none, none, none, none]) (st' := [.int p1, .ref 0]) (M' := M13) rfl ?_
  rcases o_tb h with ⟨v14, M14, hc14, h⟩ | ⟨E14, M14, hc14, h⟩
  rotate_left
  · subst h
    rw [hk]
    exact ev_clT (ins := .invokevirtual 281) kc_149 rfl rfl (a := 176) (as := [.ref 0, .int p1]) (rest := []) rfl rfl rfl rfl (Cs.deep (c_X11_mustHold hc14) (by decide))
  refine ev_cl0 (ins := .invokevirtual 281) kc_149 rfl rfl (a := 176) (as := [.ref 0, .int p1]) (rest := []) rfl rfl (Cs.deep (c_X11_mustHold hc14) (by decide)) ?_
  refine ev_go kc_149 2 (i' := 11) (L' := [some (.ref 0), some (.int p1), some (.int p2), none, none, none, none, none]) (st' := [.int p2, .ref 0]) (M' := M14) rfl ?_
  rcases o_tb h with ⟨v15, M15, hc15, h⟩ | ⟨E15, M15, hc15, h⟩
  rotate_left
  · subst h
    rw [hk]
    exact ev_clT (ins := .invokevirtual 281) kc_149 rfl rfl (a := 176) (as := [.ref 0, .int p2]) (rest := []) rfl rfl rfl rfl (Cs.deep (c_X11_mustHold hc15) (by decide))
  refine ev_cl0 (ins := .invokevirtual 281) kc_149 rfl rfl (a := 176) (as := [.ref 0, .int p2]) (rest := []) rfl rfl (Cs.deep (c_X11_mustHold hc15) (by decide)) ?_
  refine ev_go kc_149 4 (i' := 16) (L' := [some (.ref 0), some (.int p1), some (.int p2), none, none, none, none, none]) (st' := [.int p1, .ref 41]) (M' := M15) rfl ?_
  obtain ⟨hg16, h⟩ := o_gd h
  refine ev_ia kc_149 rfl rfl hg16 ?_
  refine ev_go kc_149 1 (i' := 18) (L' := [some (.ref 0), some (.int p1), some (.int p2), none, none, none, none, none]) (st' := [.int p2, .int (M15 41 (ix p1))]) (M' := M15) rfl ?_
  refine ev_cl0 (ins := .invokestatic 134) kc_149 rfl rfl (a := 178) (as := [.int (M15 41 (ix p1)), .int p2]) (rest := []) rfl rfl (Cs.deep (c_X11_has (M0 := M15)) (by decide)) ?_
  rcases o_tb h with ⟨v18, M18, hc18, h⟩ | ⟨E18, M18, hc18, h⟩
  rotate_left
  · subst h
    rw [hk]
    exact ev_clT (ins := .invokestatic 206) kc_149 rfl rfl (a := 173) (as := [.int (mB (f_X11_has (M15 41 (ix p1)) p2))]) (rest := []) rfl rfl rfl rfl (Cs.deep (c_X11_mustBeSo hc18) (by decide))
  refine ev_cl0 (ins := .invokestatic 206) kc_149 rfl rfl (a := 173) (as := [.int (mB (f_X11_has (M15 41 (ix p1)) p2))]) (rest := []) rfl rfl (Cs.deep (c_X11_mustBeSo hc18) (by decide)) ?_
  refine ev_go kc_149 4 (i' := 24) (L' := [some (.ref 0), some (.int p1), some (.int p2), some (.int (0 : Int32)), some (.int (0 : Int32)), none, none, none]) (st' := []) (M' := M18) rfl ?_
  exact Ev.forget (mLe.kp (mLe.sk (mLe.kp (mLe.kp (mLe.kp (mLe.sk (mLe.sk (mLe.sk mLe.nl)))))))) (e_X11_rests_l24  h hk)
/-- WakeTower.odds(II)I: 152, T -/
theorem kc_152 : mKc 152 = k_X11_odds := rfl
def f_X11_odds_28 (l2 : Int32) (l3 : Int32) (l4 : Int32) (l5 : Int32) (M0 : mM) : Option (((Int32 ⊕ Nat) × mM) ⊕ (Int32 × Int32)) :=
  bif decide (l2 ≤ l5) then (some (.inl (.inl l4, M0))) else (some (.inr (((l4 * l3) / (100 : Int32)), (l5 + (1 : Int32)))))
set_option maxRecDepth 8000 in
theorem e_X11_odds_28 {l2 : Int32} {l3 : Int32} {l4 : Int32} {l5 : Int32} {M0 : mM} {R : mZ} {out : (((Int32 ⊕ Nat) × mM) ⊕ (Int32 × Int32))}  (h : f_X11_odds_28 l2 l3 l4 l5 M0 = some out) (hk : (∀ s' : Int32 × Int32, out = .inr s' → Ev (10) 152 28 [none, none, some (.int l2), some (.int l3), some (.int s'.1), some (.int s'.2)] [] M0 R) ∧ (∀ e1 : ((Int32 ⊕ Nat) × mM), out = .inl e1 → R = emT eI e1)) : Ev (10) 152 28 [none, none, some (.int l2), some (.int l3), some (.int l4), some (.int l5)] [] M0 R := by
  unfold f_X11_odds_28 at h
  rcases o_bif h with ⟨hb1, h⟩ | ⟨hb1, h⟩
  · refine ev_goT kc_152 3 (t := 39) (e := 31) (L' := [none, none, some (.int l2), some (.int l3), some (.int l4), some (.int l5)]) (st' := []) rfl hb1 ?_
    refine ev_go kc_152 1 (i' := 40) (L' := [none, none, some (.int l2), some (.int l3), some (.int l4), some (.int l5)]) (st' := [.int l4]) (M' := M0) rfl ?_
    obtain rfl := Option.some.inj h
    rw [show _ from (hk.2 _ rfl)]
    exact ev_ret kc_152 rfl rfl rfl
  · refine ev_goF kc_152 3 (t := 39) (e := 31) (L' := [none, none, some (.int l2), some (.int l3), some (.int l4), some (.int l5)]) (st' := []) rfl hb1 ?_
    refine ev_go kc_152 8 (i' := 28) (L' := [none, none, some (.int l2), some (.int l3), some (.int ((l4 * l3) / (100 : Int32))), some (.int (l5 + (1 : Int32)))]) (st' := []) (M' := M0) rfl ?_
    obtain rfl := Option.some.inj h
    exact Ev.forget (mLe.sk (mLe.sk (mLe.kp (mLe.kp (mLe.kp (mLe.kp mLe.nl)))))) (hk.1 (((l4 * l3) / (100 : Int32)), (l5 + (1 : Int32))) rfl)
def f_X11_odds_l28 (l2 : Int32) (l3 : Int32) (l4 : Int32) (l5 : Int32) (M0 : mM) : Option ((Int32 ⊕ Nat) × mM) :=
  wh 100000 (fun s : Int32 × Int32 => f_X11_odds_28 l2 l3 s.1 s.2 M0) (l4, l5)
theorem e_X11_odds_l28 {l2 : Int32} {l3 : Int32} {l4 : Int32} {l5 : Int32} {M0 : mM} {R : mZ} {out : ((Int32 ⊕ Nat) × mM)}  (h : f_X11_odds_l28 l2 l3 l4 l5 M0 = some out) (hk : R = emT eI out) : Ev (10) 152 28 [none, none, some (.int l2), some (.int l3), some (.int l4), some (.int l5)] [] M0 R := by
  unfold f_X11_odds_l28 at h
  exact wh_ev (P := fun s : Int32 × Int32 => Ev (10) 152 28 [none, none, some (.int l2), some (.int l3), some (.int s.1), some (.int s.2)] [] M0 R) (Q := fun e : ((Int32 ⊕ Nat) × mM) => R = emT eI e) (fun s o hb h1 h2 => e_X11_odds_28  hb ⟨h1, h2⟩) 100000 _ _ h hk
def f_X11_odds_11 (l1 : Int32) (l2 : Int32) (s0 : Bool) (M0 : mM) : Option ((Int32 ⊕ Nat) × mM) :=
  tb (f_X11_mustBeOne s0 M0) (fun v2 M2 => b2 (f_X0_amountOf 17 (2 : Int32) 35 l1 M2) (fun v3 M3 => f_X11_odds_l28 l2 ((100 : Int32) - (mMin (100 : Int32) v3)) (10000 : Int32) (0 : Int32) M3))
set_option maxRecDepth 8000 in
theorem e_X11_odds_11 {l1 : Int32} {l2 : Int32} {s0 : Bool} {M0 : mM} {R : mZ} {out : ((Int32 ⊕ Nat) × mM)}  (h : f_X11_odds_11 l1 l2 s0 M0 = some out) (hk : R = emT eI out) : Ev (10) 152 11 [some (.ref 0), some (.int l1), some (.int l2), none, none, none] [.int (mB s0)] M0 R := by
  unfold f_X11_odds_11 at h
  rcases o_tb h with ⟨v2, M2, hc2, h⟩ | ⟨E2, M2, hc2, h⟩
  rotate_left
  · subst h
    rw [hk]
    exact ev_clT (ins := .invokestatic 186) kc_152 rfl rfl (a := 172) (as := [.int (mB s0)]) (rest := []) rfl rfl rfl rfl (Cs.deep (c_X11_mustBeOne hc2) (by decide))
  refine ev_cl0 (ins := .invokestatic 186) kc_152 rfl rfl (a := 172) (as := [.int (mB s0)]) (rest := []) rfl rfl (Cs.deep (c_X11_mustBeOne hc2) (by decide)) ?_
  refine ev_go kc_152 8 (i' := 20) (L' := [some (.ref 0), some (.int l1), some (.int l2), none, none, none]) (st' := [.int l1, .ref 35, .int (2 : Int32), .ref 17, .int (100 : Int32), .int (100 : Int32)]) (M' := M2) rfl ?_
  obtain ⟨v3, M3, hc3, h⟩ := o_b2 h
  refine ev_cl0 (ins := .invokevirtual 163) kc_152 rfl rfl (a := 16) (as := [.ref 17, .int (2 : Int32), .ref 35, .int l1]) (rest := [.int (100 : Int32), .int (100 : Int32)]) rfl rfl (Cs.deep (c_X0_amountOf hc3) (by decide)) ?_
  refine ev_pm kc_152 rfl rfl rfl rfl (as := [.int (100 : Int32), .int v3]) (rest := [.int (100 : Int32)]) rfl rfl rfl (v := some (mMin (100 : Int32) v3)) rfl ?_
  refine ev_go kc_152 6 (i' := 28) (L' := [some (.ref 0), some (.int l1), some (.int l2), some (.int ((100 : Int32) - (mMin (100 : Int32) v3))), some (.int (10000 : Int32)), some (.int (0 : Int32))]) (st' := []) (M' := M3) rfl ?_
  exact Ev.forget (mLe.sk (mLe.sk (mLe.kp (mLe.kp (mLe.kp (mLe.kp mLe.nl)))))) (e_X11_odds_l28  h hk)
def f_X11_odds_10 (l1 : Int32) (l2 : Int32) (M0 : mM) : Option ((Int32 ⊕ Nat) × mM) :=
  f_X11_odds_11 l1 l2 false M0
set_option maxRecDepth 8000 in
theorem e_X11_odds_10 {l1 : Int32} {l2 : Int32} {M0 : mM} {R : mZ} {out : ((Int32 ⊕ Nat) × mM)}  (h : f_X11_odds_10 l1 l2 M0 = some out) (hk : R = emT eI out) : Ev (10) 152 10 [some (.ref 0), some (.int l1), some (.int l2), none, none, none] [] M0 R := by
  unfold f_X11_odds_10 at h
  refine ev_go kc_152 1 (i' := 11) (L' := [some (.ref 0), some (.int l1), some (.int l2), none, none, none]) (st' := [.int (0 : Int32)]) (M' := M0) rfl ?_
  exact Ev.forget (mLe.kp (mLe.kp (mLe.kp (mLe.sk (mLe.sk (mLe.sk mLe.nl)))))) (e_X11_odds_11  h hk)
def f_X11_odds (p1 : Int32) (p2 : Int32) (M0 : mM) : Option ((Int32 ⊕ Nat) × mM) :=
  tb (f_X11_mustBePerson p1 M0) (fun v4 M4 => bif decide (p2 < 0) then (f_X11_odds_10 p1 p2 M4) else (bif decide ((4 : Int32) < p2) then (f_X11_odds_10 p1 p2 M4) else (f_X11_odds_11 p1 p2 true M4)))
set_option maxRecDepth 8000 in
theorem c_X11_odds {p1 : Int32} {p2 : Int32} {M0 : mM} {out : ((Int32 ⊕ Nat) × mM)} (h : f_X11_odds p1 p2 M0 = some out) : Cs (10) 152 [.ref 0, .int p1, .int p2] M0 (emT eI out) := by
  generalize hk : emT eI out = R
  replace hk := hk.symm
  unfold f_X11_odds at h
  show Ev (10) 152 0 [some (.ref 0), some (.int p1), some (.int p2), none, none, none] [] M0 R
  refine ev_go kc_152 2 (i' := 2) (L' := [some (.ref 0), some (.int p1), some (.int p2), none, none, none]) (st' := [.int p1, .ref 0]) (M' := M0) rfl ?_
  rcases o_tb h with ⟨v4, M4, hc4, h⟩ | ⟨E4, M4, hc4, h⟩
  rotate_left
  · subst h
    rw [hk]
    exact ev_clT (ins := .invokevirtual 128) kc_152 rfl rfl (a := 170) (as := [.ref 0, .int p1]) (rest := []) rfl rfl rfl rfl (Cs.deep (c_X11_mustBePerson hc4) (by decide))
  refine ev_cl0 (ins := .invokevirtual 128) kc_152 rfl rfl (a := 170) (as := [.ref 0, .int p1]) (rest := []) rfl rfl (Cs.deep (c_X11_mustBePerson hc4) (by decide)) ?_
  rcases o_bif h with ⟨hb5, h⟩ | ⟨hb5, h⟩
  · refine ev_goT kc_152 2 (t := 10) (e := 5) (L' := [some (.ref 0), some (.int p1), some (.int p2), none, none, none]) (st' := []) rfl hb5 ?_
    exact Ev.forget (mLe.kp (mLe.kp (mLe.kp (mLe.sk (mLe.sk (mLe.sk mLe.nl)))))) (e_X11_odds_10  h hk)
  · refine ev_goF kc_152 2 (t := 10) (e := 5) (L' := [some (.ref 0), some (.int p1), some (.int p2), none, none, none]) (st' := []) rfl hb5 ?_
    rcases o_bif h with ⟨hb6, h⟩ | ⟨hb6, h⟩
    · refine ev_goT kc_152 3 (t := 10) (e := 8) (L' := [some (.ref 0), some (.int p1), some (.int p2), none, none, none]) (st' := []) rfl hb6 ?_
      exact Ev.forget (mLe.kp (mLe.kp (mLe.kp (mLe.sk (mLe.sk (mLe.sk mLe.nl)))))) (e_X11_odds_10  h hk)
    · refine ev_goF kc_152 3 (t := 10) (e := 8) (L' := [some (.ref 0), some (.int p1), some (.int p2), none, none, none]) (st' := []) rfl hb6 ?_
      refine ev_go kc_152 2 (i' := 11) (L' := [some (.ref 0), some (.int p1), some (.int p2), none, none, none]) (st' := [.int (1 : Int32)]) (M' := M4) rfl ?_
      exact Ev.forget (mLe.kp (mLe.kp (mLe.kp (mLe.sk (mLe.sk (mLe.sk mLe.nl)))))) (e_X11_odds_11  h hk)
/-- WakeTower.alone()I: 153, R -/
theorem kc_153 : mKc 153 = k_X11_alone := rfl
def f_X11_alone_8 (l1 : Int32) (l2 : Int32) (l3 : Int32) (M0 : mM) : Option (Int32 ⊕ (Int32 × Int32)) :=
  bif decide ((8 : Int32) ≤ l3) then (some (.inl l2)) else (bif (f_X11_has (M0 35 1) l3) then (gd (mIn l3 8) (bif decide (¬ (f_J6_bitCount_0f7a4 ((M0 41 (ix l3)) &&& l1)) = (1 : Int32)) then (some (.inr (l2, (l3 + (1 : Int32))))) else (some (.inr ((l2 ||| (f_X11_bit l3)), (l3 + (1 : Int32))))))) else (some (.inr (l2, (l3 + (1 : Int32))))))
set_option maxRecDepth 8000 in
theorem e_X11_alone_8 {l1 : Int32} {l2 : Int32} {l3 : Int32} {M0 : mM} {R : mZ} {out : (Int32 ⊕ (Int32 × Int32))}  (h : f_X11_alone_8 l1 l2 l3 M0 = some out) (hk : (∀ s' : Int32 × Int32, out = .inr s' → Ev (1) 153 8 [some (.ref 0), some (.int l1), some (.int s'.1), some (.int s'.2)] [] M0 R) ∧ (∀ e1 : Int32, out = .inl e1 → R = emR eI M0 e1)) : Ev (1) 153 8 [some (.ref 0), some (.int l1), some (.int l2), some (.int l3)] [] M0 R := by
  unfold f_X11_alone_8 at h
  rcases o_bif h with ⟨hb1, h⟩ | ⟨hb1, h⟩
  · refine ev_goT kc_153 3 (t := 34) (e := 11) (L' := [some (.ref 0), some (.int l1), some (.int l2), some (.int l3)]) (st' := []) rfl hb1 ?_
    refine ev_go kc_153 1 (i' := 35) (L' := [some (.ref 0), some (.int l1), some (.int l2), some (.int l3)]) (st' := [.int l2]) (M' := M0) rfl ?_
    obtain rfl := Option.some.inj h
    rw [show _ from (hk.2 _ rfl)]
    exact ev_ret kc_153 rfl rfl rfl
  · refine ev_goF kc_153 3 (t := 34) (e := 11) (L' := [some (.ref 0), some (.int l1), some (.int l2), some (.int l3)]) (st' := []) rfl hb1 ?_
    refine ev_go kc_153 4 (i' := 15) (L' := [some (.ref 0), some (.int l1), some (.int l2), some (.int l3)]) (st' := [.int l3, .int (M0 35 1)]) (M' := M0) rfl ?_
    refine ev_cl0 (ins := .invokestatic 134) kc_153 rfl rfl (a := 178) (as := [.int (M0 35 1), .int l3]) (rest := []) rfl rfl (Cs.deep (c_X11_has (M0 := M0)) (by decide)) ?_
    rcases o_bif h with ⟨hb3, h⟩ | ⟨hb3, h⟩
    · refine ev_goF kc_153 1 (t := 32) (e := 17) (L' := [some (.ref 0), some (.int l1), some (.int l2), some (.int l3)]) (st' := []) rfl (mB_e0f hb3) ?_
      refine ev_go kc_153 4 (i' := 21) (L' := [some (.ref 0), some (.int l1), some (.int l2), some (.int l3)]) (st' := [.int l3, .ref 41]) (M' := M0) rfl ?_
      obtain ⟨hg4, h⟩ := o_gd h
      refine ev_ia kc_153 rfl rfl hg4 ?_
      refine ev_go kc_153 2 (i' := 24) (L' := [some (.ref 0), some (.int l1), some (.int l2), some (.int l3)]) (st' := [.int ((M0 41 (ix l3)) &&& l1)]) (M' := M0) rfl ?_
      refine ev_cl0 (ins := .invokestatic 262) kc_153 rfl rfl (a := 10) (as := [.int ((M0 41 (ix l3)) &&& l1)]) (rest := []) rfl rfl (Cs.deep (c_J6_bitCount_0f7a4 (M0 := M0)) (by decide)) ?_
      rcases o_bif h with ⟨hb6, h⟩ | ⟨hb6, h⟩
      · refine ev_goT kc_153 2 (t := 32) (e := 27) (L' := [some (.ref 0), some (.int l1), some (.int l2), some (.int l3)]) (st' := []) rfl hb6 ?_
        refine ev_go kc_153 2 (i' := 8) (L' := [some (.ref 0), some (.int l1), some (.int l2), some (.int (l3 + (1 : Int32)))]) (st' := []) (M' := M0) rfl ?_
        obtain rfl := Option.some.inj h
        exact Ev.forget (mLe.kp (mLe.kp (mLe.kp (mLe.kp mLe.nl)))) (hk.1 (l2, (l3 + (1 : Int32))) rfl)
      · refine ev_goF kc_153 2 (t := 32) (e := 27) (L' := [some (.ref 0), some (.int l1), some (.int l2), some (.int l3)]) (st' := []) rfl hb6 ?_
        refine ev_go kc_153 2 (i' := 29) (L' := [some (.ref 0), some (.int l1), some (.int l2), some (.int l3)]) (st' := [.int l3, .int l2]) (M' := M0) rfl ?_
        refine ev_cl0 (ins := .invokestatic 219) kc_153 rfl rfl (a := 177) (as := [.int l3]) (rest := [.int l2]) rfl rfl (Cs.deep (c_X11_bit (M0 := M0)) (by decide)) ?_
        refine ev_go kc_153 4 (i' := 8) (L' := [some (.ref 0), some (.int l1), some (.int (l2 ||| (f_X11_bit l3))), some (.int (l3 + (1 : Int32)))]) (st' := []) (M' := M0) rfl ?_
        obtain rfl := Option.some.inj h
        exact Ev.forget (mLe.kp (mLe.kp (mLe.kp (mLe.kp mLe.nl)))) (hk.1 ((l2 ||| (f_X11_bit l3)), (l3 + (1 : Int32))) rfl)
    · refine ev_goT kc_153 1 (t := 32) (e := 17) (L' := [some (.ref 0), some (.int l1), some (.int l2), some (.int l3)]) (st' := []) rfl (mB_e0t hb3) ?_
      refine ev_go kc_153 2 (i' := 8) (L' := [some (.ref 0), some (.int l1), some (.int l2), some (.int (l3 + (1 : Int32)))]) (st' := []) (M' := M0) rfl ?_
      obtain rfl := Option.some.inj h
      exact Ev.forget (mLe.kp (mLe.kp (mLe.kp (mLe.kp mLe.nl)))) (hk.1 (l2, (l3 + (1 : Int32))) rfl)
def f_X11_alone_l8 (l1 : Int32) (l2 : Int32) (l3 : Int32) (M0 : mM) : Option Int32 :=
  wh 100000 (fun s : Int32 × Int32 => f_X11_alone_8 l1 s.1 s.2 M0) (l2, l3)
theorem e_X11_alone_l8 {l1 : Int32} {l2 : Int32} {l3 : Int32} {M0 : mM} {R : mZ} {out : Int32}  (h : f_X11_alone_l8 l1 l2 l3 M0 = some out) (hk : R = emR eI M0 out) : Ev (1) 153 8 [some (.ref 0), some (.int l1), some (.int l2), some (.int l3)] [] M0 R := by
  unfold f_X11_alone_l8 at h
  exact wh_ev (P := fun s : Int32 × Int32 => Ev (1) 153 8 [some (.ref 0), some (.int l1), some (.int s.1), some (.int s.2)] [] M0 R) (Q := fun e : Int32 => R = emR eI M0 e) (fun s o hb h1 h2 => e_X11_alone_8  hb ⟨h1, h2⟩) 100000 _ _ h hk
def f_X11_alone  (M0 : mM) : Option Int32 :=
  b1 (f_X9_holders 35 M0) (fun v8 => f_X11_alone_l8 v8 (0 : Int32) (0 : Int32) M0)
set_option maxRecDepth 8000 in
theorem c_X11_alone  {M0 : mM} {out : Int32} (h : f_X11_alone M0 = some out) : Cs (1) 153 [.ref 0] M0 (emR eI M0 out) := by
  generalize hk : emR eI M0 out = R
  replace hk := hk.symm
  unfold f_X11_alone at h
  show Ev (1) 153 0 [some (.ref 0), none, none, none] [] M0 R
  refine ev_go kc_153 2 (i' := 2) (L' := [some (.ref 0), none, none, none]) (st' := [.ref 35]) (M' := M0) rfl ?_
  obtain ⟨v8, hc8, h⟩ := o_b1 h
  refine ev_cl0 (ins := .invokevirtual 167) kc_153 rfl rfl (a := 76) (as := [.ref 35]) (rest := []) rfl rfl (Cs.deep (c_X9_holders (M0 := M0) hc8) (by decide)) ?_
  refine ev_go kc_153 5 (i' := 8) (L' := [some (.ref 0), some (.int v8), some (.int (0 : Int32)), some (.int (0 : Int32))]) (st' := []) (M' := M0) rfl ?_
  exact Ev.forget (mLe.kp (mLe.kp (mLe.kp (mLe.kp mLe.nl)))) (e_X11_alone_l8  h hk)
/-- WakeTower.tired()I: 154, R -/
theorem kc_154 : mKc 154 = k_X11_tired := rfl
def f_X11_tired_6 (l1 : Int32) (l2 : Int32) (l3 : Int32) (M0 : mM) : Option (Int32 ⊕ (Int32 × Int32 × Int32)) :=
  bif decide ((8 : Int32) ≤ l3) then (some (.inl l1)) else (gd (mIn l3 8) (bif decide ((M0 39 (ix l3)) ≤ l2) then (some (.inr (l1, l2, (l3 + (1 : Int32))))) else (gd (mIn l3 8) (some (.inr (l3, (M0 39 (ix l3)), (l3 + (1 : Int32))))))))
set_option maxRecDepth 8000 in
theorem e_X11_tired_6 {l1 : Int32} {l2 : Int32} {l3 : Int32} {M0 : mM} {R : mZ} {out : (Int32 ⊕ (Int32 × Int32 × Int32))}  (h : f_X11_tired_6 l1 l2 l3 M0 = some out) (hk : (∀ s' : Int32 × Int32 × Int32, out = .inr s' → Ev (0) 154 6 [some (.ref 0), some (.int s'.1), some (.int s'.2.1), some (.int s'.2.2)] [] M0 R) ∧ (∀ e1 : Int32, out = .inl e1 → R = emR eI M0 e1)) : Ev (0) 154 6 [some (.ref 0), some (.int l1), some (.int l2), some (.int l3)] [] M0 R := by
  unfold f_X11_tired_6 at h
  rcases o_bif h with ⟨hb1, h⟩ | ⟨hb1, h⟩
  · refine ev_goT kc_154 3 (t := 26) (e := 9) (L' := [some (.ref 0), some (.int l1), some (.int l2), some (.int l3)]) (st' := []) rfl hb1 ?_
    refine ev_go kc_154 1 (i' := 27) (L' := [some (.ref 0), some (.int l1), some (.int l2), some (.int l3)]) (st' := [.int l1]) (M' := M0) rfl ?_
    obtain rfl := Option.some.inj h
    rw [show _ from (hk.2 _ rfl)]
    exact ev_ret kc_154 rfl rfl rfl
  · refine ev_goF kc_154 3 (t := 26) (e := 9) (L' := [some (.ref 0), some (.int l1), some (.int l2), some (.int l3)]) (st' := []) rfl hb1 ?_
    refine ev_go kc_154 4 (i' := 13) (L' := [some (.ref 0), some (.int l1), some (.int l2), some (.int l3)]) (st' := [.int l3, .ref 39]) (M' := M0) rfl ?_
    obtain ⟨hg2, h⟩ := o_gd h
    refine ev_ia kc_154 rfl rfl hg2 ?_
    rcases o_bif h with ⟨hb3, h⟩ | ⟨hb3, h⟩
    · refine ev_goT kc_154 2 (t := 24) (e := 16) (L' := [some (.ref 0), some (.int l1), some (.int l2), some (.int l3)]) (st' := []) rfl hb3 ?_
      refine ev_go kc_154 2 (i' := 6) (L' := [some (.ref 0), some (.int l1), some (.int l2), some (.int (l3 + (1 : Int32)))]) (st' := []) (M' := M0) rfl ?_
      obtain rfl := Option.some.inj h
      exact Ev.forget (mLe.kp (mLe.kp (mLe.kp (mLe.kp mLe.nl)))) (hk.1 (l1, l2, (l3 + (1 : Int32))) rfl)
    · refine ev_goF kc_154 2 (t := 24) (e := 16) (L' := [some (.ref 0), some (.int l1), some (.int l2), some (.int l3)]) (st' := []) rfl hb3 ?_
      refine ev_go kc_154 4 (i' := 20) (L' := [some (.ref 0), some (.int l1), some (.int l2), some (.int l3)]) (st' := [.int l3, .ref 39]) (M' := M0) rfl ?_
      obtain ⟨hg4, h⟩ := o_gd h
      refine ev_ia kc_154 rfl rfl hg4 ?_
      refine ev_go kc_154 5 (i' := 6) (L' := [some (.ref 0), some (.int l3), some (.int (M0 39 (ix l3))), some (.int (l3 + (1 : Int32)))]) (st' := []) (M' := M0) rfl ?_
      obtain rfl := Option.some.inj h
      exact Ev.forget (mLe.kp (mLe.kp (mLe.kp (mLe.kp mLe.nl)))) (hk.1 (l3, (M0 39 (ix l3)), (l3 + (1 : Int32))) rfl)
def f_X11_tired_l6 (l1 : Int32) (l2 : Int32) (l3 : Int32) (M0 : mM) : Option Int32 :=
  wh 100000 (fun s : Int32 × Int32 × Int32 => f_X11_tired_6 s.1 s.2.1 s.2.2 M0) (l1, l2, l3)
theorem e_X11_tired_l6 {l1 : Int32} {l2 : Int32} {l3 : Int32} {M0 : mM} {R : mZ} {out : Int32}  (h : f_X11_tired_l6 l1 l2 l3 M0 = some out) (hk : R = emR eI M0 out) : Ev (0) 154 6 [some (.ref 0), some (.int l1), some (.int l2), some (.int l3)] [] M0 R := by
  unfold f_X11_tired_l6 at h
  exact wh_ev (P := fun s : Int32 × Int32 × Int32 => Ev (0) 154 6 [some (.ref 0), some (.int s.1), some (.int s.2.1), some (.int s.2.2)] [] M0 R) (Q := fun e : Int32 => R = emR eI M0 e) (fun s o hb h1 h2 => e_X11_tired_6  hb ⟨h1, h2⟩) 100000 _ _ h hk
def f_X11_tired  (M0 : mM) : Option Int32 :=
  f_X11_tired_l6 (-1 : Int32) (0 : Int32) (0 : Int32) M0
set_option maxRecDepth 8000 in
theorem c_X11_tired  {M0 : mM} {out : Int32} (h : f_X11_tired M0 = some out) : Cs (0) 154 [.ref 0] M0 (emR eI M0 out) := by
  generalize hk : emR eI M0 out = R
  replace hk := hk.symm
  unfold f_X11_tired at h
  show Ev (0) 154 0 [some (.ref 0), none, none, none] [] M0 R
  refine ev_go kc_154 6 (i' := 6) (L' := [some (.ref 0), some (.int (-1 : Int32)), some (.int (0 : Int32)), some (.int (0 : Int32))]) (st' := []) (M' := M0) rfl ?_
  exact Ev.forget (mLe.kp (mLe.kp (mLe.kp (mLe.kp mLe.nl)))) (e_X11_tired_l6  h hk)
/-- WakeTower.twins()I: 155, R -/
theorem kc_155 : mKc 155 = k_X11_twins := rfl
def f_X11_twins_11 (l1 : Int32) (l2 : Int32) (l3 : Int32) (M0 : mM) : Option ((Int32 ⊕ (Int32 × Int32)) ⊕ (Int32 × Int32)) :=
  bif decide ((8 : Int32) ≤ l3) then (some (.inl (.inr (l1, (l2 + (1 : Int32)))))) else (bif decide ((M0 35 0) ≤ l3) then (some (.inr (l1, (l3 + (1 : Int32))))) else (gd (mIn l2 8) (gd (mIn l3 8) (bif decide (¬ (M0 36 (ix l2)) = (M0 36 (ix l3))) then (some (.inr (l1, (l3 + (1 : Int32))))) else (gd (mIn l2 8) (gd (mIn l3 8) (bif decide (¬ (M0 37 (ix l2)) = (M0 37 (ix l3))) then (some (.inr (l1, (l3 + (1 : Int32))))) else (some (.inr ((l1 + (1 : Int32)), (l3 + (1 : Int32))))))))))))
set_option maxRecDepth 8000 in
theorem e_X11_twins_11 {l1 : Int32} {l2 : Int32} {l3 : Int32} {M0 : mM} {R : mZ} {out : ((Int32 ⊕ (Int32 × Int32)) ⊕ (Int32 × Int32))}  (h : f_X11_twins_11 l1 l2 l3 M0 = some out) (hk : (∀ s' : Int32 × Int32, out = .inr s' → Ev (0) 155 11 [some (.ref 0), some (.int s'.1), some (.int l2), some (.int s'.2)] [] M0 R) ∧ (∀ e2 : (Int32 ⊕ (Int32 × Int32)), out = .inl e2 → (∀ s' : Int32 × Int32, e2 = .inr s' → Ev (0) 155 4 [some (.ref 0), some (.int s'.1), some (.int s'.2), none] [] M0 R) ∧ (∀ e1 : Int32, e2 = .inl e1 → R = emR eI M0 e1))) : Ev (0) 155 11 [some (.ref 0), some (.int l1), some (.int l2), some (.int l3)] [] M0 R := by
  unfold f_X11_twins_11 at h
  rcases o_bif h with ⟨hb1, h⟩ | ⟨hb1, h⟩
  · refine ev_goT kc_155 3 (t := 44) (e := 14) (L' := [some (.ref 0), some (.int l1), some (.int l2), some (.int l3)]) (st' := []) rfl hb1 ?_
    refine ev_go kc_155 2 (i' := 4) (L' := [some (.ref 0), some (.int l1), some (.int (l2 + (1 : Int32))), some (.int l3)]) (st' := []) (M' := M0) rfl ?_
    obtain rfl := Option.some.inj h
    exact Ev.forget (mLe.kp (mLe.kp (mLe.kp (mLe.sk mLe.nl)))) ((hk.2 _ rfl).1 (l1, (l2 + (1 : Int32))) rfl)
  · refine ev_goF kc_155 3 (t := 44) (e := 14) (L' := [some (.ref 0), some (.int l1), some (.int l2), some (.int l3)]) (st' := []) rfl hb1 ?_
    rcases o_bif h with ⟨hb2, h⟩ | ⟨hb2, h⟩
    · refine ev_goT kc_155 5 (t := 42) (e := 19) (L' := [some (.ref 0), some (.int l1), some (.int l2), some (.int l3)]) (st' := []) rfl hb2 ?_
      refine ev_go kc_155 2 (i' := 11) (L' := [some (.ref 0), some (.int l1), some (.int l2), some (.int (l3 + (1 : Int32)))]) (st' := []) (M' := M0) rfl ?_
      obtain rfl := Option.some.inj h
      exact Ev.forget (mLe.kp (mLe.kp (mLe.kp (mLe.kp mLe.nl)))) (hk.1 (l1, (l3 + (1 : Int32))) rfl)
    · refine ev_goF kc_155 5 (t := 42) (e := 19) (L' := [some (.ref 0), some (.int l1), some (.int l2), some (.int l3)]) (st' := []) rfl hb2 ?_
      refine ev_go kc_155 4 (i' := 23) (L' := [some (.ref 0), some (.int l1), some (.int l2), some (.int l3)]) (st' := [.int l2, .ref 36]) (M' := M0) rfl ?_
      obtain ⟨hg3, h⟩ := o_gd h
      refine ev_ia kc_155 rfl rfl hg3 ?_
      refine ev_go kc_155 4 (i' := 28) (L' := [some (.ref 0), some (.int l1), some (.int l2), some (.int l3)]) (st' := [.int l3, .ref 36, .int (M0 36 (ix l2))]) (M' := M0) rfl ?_
      obtain ⟨hg4, h⟩ := o_gd h
      refine ev_ia kc_155 rfl rfl hg4 ?_
      rcases o_bif h with ⟨hb5, h⟩ | ⟨hb5, h⟩
      · refine ev_goT kc_155 1 (t := 42) (e := 30) (L' := [some (.ref 0), some (.int l1), some (.int l2), some (.int l3)]) (st' := []) rfl hb5 ?_
        refine ev_go kc_155 2 (i' := 11) (L' := [some (.ref 0), some (.int l1), some (.int l2), some (.int (l3 + (1 : Int32)))]) (st' := []) (M' := M0) rfl ?_
        obtain rfl := Option.some.inj h
        exact Ev.forget (mLe.kp (mLe.kp (mLe.kp (mLe.kp mLe.nl)))) (hk.1 (l1, (l3 + (1 : Int32))) rfl)
      · refine ev_goF kc_155 1 (t := 42) (e := 30) (L' := [some (.ref 0), some (.int l1), some (.int l2), some (.int l3)]) (st' := []) rfl hb5 ?_
        refine ev_go kc_155 4 (i' := 34) (L' := [some (.ref 0), some (.int l1), some (.int l2), some (.int l3)]) (st' := [.int l2, .ref 37]) (M' := M0) rfl ?_
        obtain ⟨hg6, h⟩ := o_gd h
        refine ev_ia kc_155 rfl rfl hg6 ?_
        refine ev_go kc_155 4 (i' := 39) (L' := [some (.ref 0), some (.int l1), some (.int l2), some (.int l3)]) (st' := [.int l3, .ref 37, .int (M0 37 (ix l2))]) (M' := M0) rfl ?_
        obtain ⟨hg7, h⟩ := o_gd h
        refine ev_ia kc_155 rfl rfl hg7 ?_
        rcases o_bif h with ⟨hb8, h⟩ | ⟨hb8, h⟩
        · refine ev_goT kc_155 1 (t := 42) (e := 41) (L' := [some (.ref 0), some (.int l1), some (.int l2), some (.int l3)]) (st' := []) rfl hb8 ?_
          refine ev_go kc_155 2 (i' := 11) (L' := [some (.ref 0), some (.int l1), some (.int l2), some (.int (l3 + (1 : Int32)))]) (st' := []) (M' := M0) rfl ?_
          obtain rfl := Option.some.inj h
          exact Ev.forget (mLe.kp (mLe.kp (mLe.kp (mLe.kp mLe.nl)))) (hk.1 (l1, (l3 + (1 : Int32))) rfl)
        · refine ev_goF kc_155 1 (t := 42) (e := 41) (L' := [some (.ref 0), some (.int l1), some (.int l2), some (.int l3)]) (st' := []) rfl hb8 ?_
          refine ev_go kc_155 3 (i' := 11) (L' := [some (.ref 0), some (.int (l1 + (1 : Int32))), some (.int l2), some (.int (l3 + (1 : Int32)))]) (st' := []) (M' := M0) rfl ?_
          obtain rfl := Option.some.inj h
          exact Ev.forget (mLe.kp (mLe.kp (mLe.kp (mLe.kp mLe.nl)))) (hk.1 ((l1 + (1 : Int32)), (l3 + (1 : Int32))) rfl)
def f_X11_twins_l11 (l2 : Int32) (l1 : Int32) (l3 : Int32) (M0 : mM) : Option (Int32 ⊕ (Int32 × Int32)) :=
  wh 100000 (fun s : Int32 × Int32 => f_X11_twins_11 s.1 l2 s.2 M0) (l1, l3)
theorem e_X11_twins_l11 {l1 : Int32} {l2 : Int32} {l3 : Int32} {M0 : mM} {R : mZ} {out : (Int32 ⊕ (Int32 × Int32))}  (h : f_X11_twins_l11 l2 l1 l3 M0 = some out) (hk : (∀ s' : Int32 × Int32, out = .inr s' → Ev (0) 155 4 [some (.ref 0), some (.int s'.1), some (.int s'.2), none] [] M0 R) ∧ (∀ e1 : Int32, out = .inl e1 → R = emR eI M0 e1)) : Ev (0) 155 11 [some (.ref 0), some (.int l1), some (.int l2), some (.int l3)] [] M0 R := by
  unfold f_X11_twins_l11 at h
  exact wh_ev (P := fun s : Int32 × Int32 => Ev (0) 155 11 [some (.ref 0), some (.int s.1), some (.int l2), some (.int s.2)] [] M0 R) (Q := fun e : (Int32 ⊕ (Int32 × Int32)) => (∀ s' : Int32 × Int32, e = .inr s' → Ev (0) 155 4 [some (.ref 0), some (.int s'.1), some (.int s'.2), none] [] M0 R) ∧ (∀ e1 : Int32, e = .inl e1 → R = emR eI M0 e1)) (fun s o hb h1 h2 => e_X11_twins_11  hb ⟨h1, h2⟩) 100000 _ _ h hk
def f_X11_twins_4 (l1 : Int32) (l2 : Int32) (M0 : mM) : Option (Int32 ⊕ (Int32 × Int32)) :=
  bif decide ((8 : Int32) ≤ l2) then (some (.inl l1)) else (f_X11_twins_l11 l2 l1 (l2 + (1 : Int32)) M0)
set_option maxRecDepth 8000 in
theorem e_X11_twins_4 {l1 : Int32} {l2 : Int32} {M0 : mM} {R : mZ} {out : (Int32 ⊕ (Int32 × Int32))}  (h : f_X11_twins_4 l1 l2 M0 = some out) (hk : (∀ s' : Int32 × Int32, out = .inr s' → Ev (0) 155 4 [some (.ref 0), some (.int s'.1), some (.int s'.2), none] [] M0 R) ∧ (∀ e1 : Int32, out = .inl e1 → R = emR eI M0 e1)) : Ev (0) 155 4 [some (.ref 0), some (.int l1), some (.int l2), none] [] M0 R := by
  unfold f_X11_twins_4 at h
  rcases o_bif h with ⟨hb9, h⟩ | ⟨hb9, h⟩
  · refine ev_goT kc_155 3 (t := 46) (e := 7) (L' := [some (.ref 0), some (.int l1), some (.int l2), none]) (st' := []) rfl hb9 ?_
    refine ev_go kc_155 1 (i' := 47) (L' := [some (.ref 0), some (.int l1), some (.int l2), none]) (st' := [.int l1]) (M' := M0) rfl ?_
    obtain rfl := Option.some.inj h
    rw [show _ from (hk.2 _ rfl)]
    exact ev_ret kc_155 rfl rfl rfl
  · refine ev_goF kc_155 3 (t := 46) (e := 7) (L' := [some (.ref 0), some (.int l1), some (.int l2), none]) (st' := []) rfl hb9 ?_
    refine ev_go kc_155 4 (i' := 11) (L' := [some (.ref 0), some (.int l1), some (.int l2), some (.int (l2 + (1 : Int32)))]) (st' := []) (M' := M0) rfl ?_
    exact Ev.forget (mLe.kp (mLe.kp (mLe.kp (mLe.kp mLe.nl)))) (e_X11_twins_l11  h hk)
def f_X11_twins_l4 (l1 : Int32) (l2 : Int32) (M0 : mM) : Option Int32 :=
  wh 100000 (fun s : Int32 × Int32 => f_X11_twins_4 s.1 s.2 M0) (l1, l2)
theorem e_X11_twins_l4 {l1 : Int32} {l2 : Int32} {M0 : mM} {R : mZ} {out : Int32}  (h : f_X11_twins_l4 l1 l2 M0 = some out) (hk : R = emR eI M0 out) : Ev (0) 155 4 [some (.ref 0), some (.int l1), some (.int l2), none] [] M0 R := by
  unfold f_X11_twins_l4 at h
  exact wh_ev (P := fun s : Int32 × Int32 => Ev (0) 155 4 [some (.ref 0), some (.int s.1), some (.int s.2), none] [] M0 R) (Q := fun e : Int32 => R = emR eI M0 e) (fun s o hb h1 h2 => e_X11_twins_4  hb ⟨h1, h2⟩) 100000 _ _ h hk
def f_X11_twins  (M0 : mM) : Option Int32 :=
  f_X11_twins_l4 (0 : Int32) (0 : Int32) M0
set_option maxRecDepth 8000 in
theorem c_X11_twins  {M0 : mM} {out : Int32} (h : f_X11_twins M0 = some out) : Cs (0) 155 [.ref 0] M0 (emR eI M0 out) := by
  generalize hk : emR eI M0 out = R
  replace hk := hk.symm
  unfold f_X11_twins at h
  show Ev (0) 155 0 [some (.ref 0), none, none, none] [] M0 R
  refine ev_go kc_155 4 (i' := 4) (L' := [some (.ref 0), some (.int (0 : Int32)), some (.int (0 : Int32)), none]) (st' := []) (M' := M0) rfl ?_
  exact Ev.forget (mLe.kp (mLe.kp (mLe.kp (mLe.sk mLe.nl)))) (e_X11_twins_l4  h hk)
/-- WakeTower.ring(I)I: 156, T -/
theorem kc_156 : mKc 156 = k_X11_ring := rfl
def f_X11_ring (p1 : Int32) (M0 : mM) : Option ((Int32 ⊕ Nat) × mM) :=
  tb (f_X11_mustBeRing p1 M0) (fun v1 M1 => b1 (f_X9_inRing 35 p1 M1) (fun v2 => some (.inl v2, M1)))
set_option maxRecDepth 8000 in
theorem c_X11_ring {p1 : Int32} {M0 : mM} {out : ((Int32 ⊕ Nat) × mM)} (h : f_X11_ring p1 M0 = some out) : Cs (9) 156 [.ref 0, .int p1] M0 (emT eI out) := by
  generalize hk : emT eI out = R
  replace hk := hk.symm
  unfold f_X11_ring at h
  show Ev (9) 156 0 [some (.ref 0), some (.int p1)] [] M0 R
  refine ev_go kc_156 1 (i' := 1) (L' := [some (.ref 0), some (.int p1)]) (st' := [.int p1]) (M' := M0) rfl ?_
  rcases o_tb h with ⟨v1, M1, hc1, h⟩ | ⟨E1, M1, hc1, h⟩
  rotate_left
  · subst h
    rw [hk]
    exact ev_clT (ins := .invokestatic 197) kc_156 rfl rfl (a := 171) (as := [.int p1]) (rest := []) rfl rfl rfl rfl (Cs.deep (c_X11_mustBeRing hc1) (by decide))
  refine ev_cl0 (ins := .invokestatic 197) kc_156 rfl rfl (a := 171) (as := [.int p1]) (rest := []) rfl rfl (Cs.deep (c_X11_mustBeRing hc1) (by decide)) ?_
  refine ev_go kc_156 3 (i' := 5) (L' := [some (.ref 0), some (.int p1)]) (st' := [.int p1, .ref 35]) (M' := M1) rfl ?_
  obtain ⟨v2, hc2, h⟩ := o_b1 h
  refine ev_cl0 (ins := .invokevirtual 241) kc_156 rfl rfl (a := 77) (as := [.ref 35, .int p1]) (rest := []) rfl rfl (Cs.deep (c_X9_inRing (M0 := M1) hc2) (by decide)) ?_
  obtain rfl := Option.some.inj h
  rw [hk]
  exact ev_ret kc_156 rfl rfl rfl
/-- WakeTower.reserves()I: 157, R -/
theorem kc_157 : mKc 157 = k_X11_reserves := rfl
def f_X11_reserves  (M0 : mM) : Option Int32 :=
  b1 (f_X9_everyone 35 M0) (fun v1 => some (v1 &&& ((M0 35 1) ^^^ (-1 : Int32))))
set_option maxRecDepth 8000 in
theorem c_X11_reserves  {M0 : mM} {out : Int32} (h : f_X11_reserves M0 = some out) : Cs (2) 157 [.ref 0] M0 (emR eI M0 out) := by
  generalize hk : emR eI M0 out = R
  replace hk := hk.symm
  unfold f_X11_reserves at h
  show Ev (2) 157 0 [some (.ref 0)] [] M0 R
  refine ev_go kc_157 2 (i' := 2) (L' := [some (.ref 0)]) (st' := [.ref 35]) (M' := M0) rfl ?_
  obtain ⟨v1, hc1, h⟩ := o_b1 h
  refine ev_cl0 (ins := .invokevirtual 200) kc_157 rfl rfl (a := 75) (as := [.ref 35]) (rest := []) rfl rfl (Cs.deep (c_X9_everyone (M0 := M0) hc1) (by decide)) ?_
  refine ev_go kc_157 6 (i' := 9) (L' := [some (.ref 0)]) (st' := [.int (v1 &&& ((M0 35 1) ^^^ (-1 : Int32)))]) (M' := M0) rfl ?_
  obtain rfl := Option.some.inj h
  rw [hk]
  exact ev_ret kc_157 rfl rfl rfl
/-- WakeTower.sleepers()I: 158, R -/
theorem kc_158 : mKc 158 = k_X11_sleepers := rfl
def f_X11_sleepers  (M0 : mM) : Option Int32 :=
  some (M0 35 2)
set_option maxRecDepth 8000 in
theorem c_X11_sleepers  {M0 : mM} {out : Int32} (h : f_X11_sleepers M0 = some out) : Cs (0) 158 [.ref 0] M0 (emR eI M0 out) := by
  generalize hk : emR eI M0 out = R
  replace hk := hk.symm
  unfold f_X11_sleepers at h
  show Ev (0) 158 0 [some (.ref 0)] [] M0 R
  refine ev_go kc_158 3 (i' := 3) (L' := [some (.ref 0)]) (st' := [.int (M0 35 2)]) (M' := M0) rfl ?_
  obtain rfl := Option.some.inj h
  rw [hk]
  exact ev_ret kc_158 rfl rfl rfl
/-- WakeTower.soon()I: 159, W -/
theorem kc_159 : mKc 159 = k_X11_soon := rfl
def f_X11_soon_7 (l1 : Int32) (M0 : mM) : Option ((Int32 × mM) ⊕ (Int32 × mM)) :=
  bif decide ((60 : Int32) < l1) then (some (.inl ((-1 : Int32), M0))) else (bif decide ((M0 47 5) ≤ (f_J6_bitCount_0f7a4 (M0 47 1))) then (b2 (f_X9_passHours 47 17 (1 : Int32) false M0) (fun v4 M4 => some (.inr ((l1 + (1 : Int32)), M4)))) else (some (.inl (l1, M0))))
set_option maxRecDepth 8000 in
theorem e_X11_soon_7 {l1 : Int32} {M0 : mM} {R : mZ} {out : ((Int32 × mM) ⊕ (Int32 × mM))}  (h : f_X11_soon_7 l1 M0 = some out) (hk : (∀ s' : Int32 × mM, out = .inr s' → Ev (13) 159 7 [some (.ref 0), some (.int s'.1)] [] (s'.2) R) ∧ (∀ e1 : (Int32 × mM), out = .inl e1 → R = emW eI e1)) : Ev (13) 159 7 [some (.ref 0), some (.int l1)] [] M0 R := by
  unfold f_X11_soon_7 at h
  rcases o_bif h with ⟨hb1, h⟩ | ⟨hb1, h⟩
  · refine ev_goT kc_159 3 (t := 30) (e := 10) (L' := [some (.ref 0), some (.int l1)]) (st' := []) rfl hb1 ?_
    refine ev_go kc_159 1 (i' := 31) (L' := [some (.ref 0), some (.int l1)]) (st' := [.int (-1 : Int32)]) (M' := M0) rfl ?_
    obtain rfl := Option.some.inj h
    rw [show _ from (hk.2 _ rfl)]
    exact ev_ret kc_159 rfl rfl rfl
  · refine ev_goF kc_159 3 (t := 30) (e := 10) (L' := [some (.ref 0), some (.int l1)]) (st' := []) rfl hb1 ?_
    refine ev_go kc_159 3 (i' := 13) (L' := [some (.ref 0), some (.int l1)]) (st' := [.int (M0 47 1)]) (M' := M0) rfl ?_
    refine ev_cl0 (ins := .invokestatic 262) kc_159 rfl rfl (a := 10) (as := [.int (M0 47 1)]) (rest := []) rfl rfl (Cs.deep (c_J6_bitCount_0f7a4 (M0 := M0)) (by decide)) ?_
    rcases o_bif h with ⟨hb3, h⟩ | ⟨hb3, h⟩
    · refine ev_goT kc_159 4 (t := 20) (e := 18) (L' := [some (.ref 0), some (.int l1)]) (st' := []) rfl hb3 ?_
      refine ev_go kc_159 6 (i' := 26) (L' := [some (.ref 0), some (.int l1)]) (st' := [.int (0 : Int32), .int (1 : Int32), .ref 17, .ref 47]) (M' := M0) rfl ?_
      obtain ⟨v4, M4, hc4, h⟩ := o_b2 h
      refine ev_cl0 (ins := .invokevirtual 193) kc_159 rfl rfl (a := 95) (as := [.ref 47, .ref 17, .int (1 : Int32), .int (mB false)]) (rest := []) rfl rfl (Cs.deep (c_X9_passHours hc4) (by decide)) ?_
      refine ev_go kc_159 3 (i' := 7) (L' := [some (.ref 0), some (.int (l1 + (1 : Int32)))]) (st' := []) (M' := M4) rfl ?_
      obtain rfl := Option.some.inj h
      exact Ev.forget (mLe.kp (mLe.kp mLe.nl)) (hk.1 ((l1 + (1 : Int32)), M4) rfl)
    · refine ev_goF kc_159 4 (t := 20) (e := 18) (L' := [some (.ref 0), some (.int l1)]) (st' := []) rfl hb3 ?_
      refine ev_go kc_159 1 (i' := 19) (L' := [some (.ref 0), some (.int l1)]) (st' := [.int l1]) (M' := M0) rfl ?_
      obtain rfl := Option.some.inj h
      rw [show _ from (hk.2 _ rfl)]
      exact ev_ret kc_159 rfl rfl rfl
def f_X11_soon_l7 (l1 : Int32) (M0 : mM) : Option (Int32 × mM) :=
  wh 100000 (fun s : Int32 × mM => f_X11_soon_7 s.1 s.2) (l1, M0)
theorem e_X11_soon_l7 {l1 : Int32} {M0 : mM} {R : mZ} {out : (Int32 × mM)}  (h : f_X11_soon_l7 l1 M0 = some out) (hk : R = emW eI out) : Ev (13) 159 7 [some (.ref 0), some (.int l1)] [] M0 R := by
  unfold f_X11_soon_l7 at h
  exact wh_ev (P := fun s : Int32 × mM => Ev (13) 159 7 [some (.ref 0), some (.int s.1)] [] s.2 R) (Q := fun e : (Int32 × mM) => R = emW eI e) (fun s o hb h1 h2 => e_X11_soon_7  hb ⟨h1, h2⟩) 100000 _ _ h hk
def f_X11_soon  (M0 : mM) : Option (Int32 × mM) :=
  b2 (f_X9_copyFrom 47 35 M0) (fun v5 M5 => f_X11_soon_l7 (0 : Int32) M5)
set_option maxRecDepth 8000 in
theorem c_X11_soon  {M0 : mM} {out : (Int32 × mM)} (h : f_X11_soon M0 = some out) : Cs (13) 159 [.ref 0] M0 (emW eI out) := by
  generalize hk : emW eI out = R
  replace hk := hk.symm
  unfold f_X11_soon at h
  show Ev (13) 159 0 [some (.ref 0), none] [] M0 R
  refine ev_go kc_159 4 (i' := 4) (L' := [some (.ref 0), none]) (st' := [.ref 35, .ref 47]) (M' := M0) rfl ?_
  obtain ⟨v5, M5, hc5, h⟩ := o_b2 h
  refine ev_cl0 (ins := .invokevirtual 86) kc_159 rfl rfl (a := 73) (as := [.ref 47, .ref 35]) (rest := []) rfl rfl (Cs.deep (c_X9_copyFrom hc5) (by decide)) ?_
  refine ev_go kc_159 2 (i' := 7) (L' := [some (.ref 0), some (.int (0 : Int32))]) (st' := []) (M' := M5) rfl ?_
  exact Ev.forget (mLe.kp (mLe.kp mLe.nl)) (e_X11_soon_l7  h hk)
/-- WakeTower.mustBeLookAhead(I)V: 174, T -/
theorem kc_174 : mKc 174 = k_X11_mustBeLookAhead := rfl
def f_X11_mustBeLookAhead_8 (s0 : Bool) (M0 : mM) : Option ((Unit ⊕ Nat) × mM) :=
  tb (f_X11_mustBeOne s0 M0) (fun v1 M1 => some (.inl (), M1))
set_option maxRecDepth 8000 in
theorem e_X11_mustBeLookAhead_8 {s0 : Bool} {M0 : mM} {R : mZ} {out : ((Unit ⊕ Nat) × mM)}  (h : f_X11_mustBeLookAhead_8 s0 M0 = some out) (hk : R = emT eU out) : Ev (9) 174 8 [none] [.int (mB s0)] M0 R := by
  unfold f_X11_mustBeLookAhead_8 at h
  rcases o_tb h with ⟨v1, M1, hc1, h⟩ | ⟨E1, M1, hc1, h⟩
  rotate_left
  · subst h
    rw [hk]
    exact ev_clT (ins := .invokestatic 186) kc_174 rfl rfl (a := 172) (as := [.int (mB s0)]) (rest := []) rfl rfl rfl rfl (Cs.deep (c_X11_mustBeOne hc1) (by decide))
  refine ev_cl0 (ins := .invokestatic 186) kc_174 rfl rfl (a := 172) (as := [.int (mB s0)]) (rest := []) rfl rfl (Cs.deep (c_X11_mustBeOne hc1) (by decide)) ?_
  obtain rfl := Option.some.inj h
  rw [hk]
  exact ev_vret kc_174 rfl rfl rfl
def f_X11_mustBeLookAhead_7 (M0 : mM) : Option ((Unit ⊕ Nat) × mM) :=
  f_X11_mustBeLookAhead_8 false M0
set_option maxRecDepth 8000 in
theorem e_X11_mustBeLookAhead_7 {M0 : mM} {R : mZ} {out : ((Unit ⊕ Nat) × mM)}  (h : f_X11_mustBeLookAhead_7 M0 = some out) (hk : R = emT eU out) : Ev (9) 174 7 [none] [] M0 R := by
  unfold f_X11_mustBeLookAhead_7 at h
  refine ev_go kc_174 1 (i' := 8) (L' := [none]) (st' := [.int (0 : Int32)]) (M' := M0) rfl ?_
  exact Ev.forget (mLe.sk mLe.nl) (e_X11_mustBeLookAhead_8  h hk)
def f_X11_mustBeLookAhead (p0 : Int32) (M0 : mM) : Option ((Unit ⊕ Nat) × mM) :=
  bif decide (p0 < 0) then (f_X11_mustBeLookAhead_7 M0) else (bif decide ((60 : Int32) < p0) then (f_X11_mustBeLookAhead_7 M0) else (f_X11_mustBeLookAhead_8 true M0))
set_option maxRecDepth 8000 in
theorem c_X11_mustBeLookAhead {p0 : Int32} {M0 : mM} {out : ((Unit ⊕ Nat) × mM)} (h : f_X11_mustBeLookAhead p0 M0 = some out) : Cs (9) 174 [.int p0] M0 (emT eU out) := by
  generalize hk : emT eU out = R
  replace hk := hk.symm
  unfold f_X11_mustBeLookAhead at h
  show Ev (9) 174 0 [some (.int p0)] [] M0 R
  rcases o_bif h with ⟨hb2, h⟩ | ⟨hb2, h⟩
  · refine ev_goT kc_174 2 (t := 7) (e := 2) (L' := [some (.int p0)]) (st' := []) rfl hb2 ?_
    exact Ev.forget (mLe.sk mLe.nl) (e_X11_mustBeLookAhead_7  h hk)
  · refine ev_goF kc_174 2 (t := 7) (e := 2) (L' := [some (.int p0)]) (st' := []) rfl hb2 ?_
    rcases o_bif h with ⟨hb3, h⟩ | ⟨hb3, h⟩
    · refine ev_goT kc_174 3 (t := 7) (e := 5) (L' := [some (.int p0)]) (st' := []) rfl hb3 ?_
      exact Ev.forget (mLe.sk mLe.nl) (e_X11_mustBeLookAhead_7  h hk)
    · refine ev_goF kc_174 3 (t := 7) (e := 5) (L' := [some (.int p0)]) (st' := []) rfl hb3 ?_
      refine ev_go kc_174 2 (i' := 8) (L' := [some (.int p0)]) (st' := [.int (1 : Int32)]) (M' := M0) rfl ?_
      exact Ev.forget (mLe.sk mLe.nl) (e_X11_mustBeLookAhead_8  h hk)
/-- WakeTower.ahead(II)I: 160, T -/
theorem kc_160 : mKc 160 = k_X11_ahead := rfl
def f_X11_ahead (p1 : Int32) (p2 : Int32) (M0 : mM) : Option ((Int32 ⊕ Nat) × mM) :=
  tb (f_X11_mustBePerson p1 M0) (fun v1 M1 => tb (f_X11_mustBeLookAhead p2 M1) (fun v2 M2 => b2 (f_X9_copyFrom 47 35 M2) (fun v3 M3 => b2 (f_X9_passHours 47 17 p2 false M3) (fun v4 M4 => gd (mIn p1 8) (some (.inl (M4 50 (ix p1)), M4))))))
set_option maxRecDepth 8000 in
theorem c_X11_ahead {p1 : Int32} {p2 : Int32} {M0 : mM} {out : ((Int32 ⊕ Nat) × mM)} (h : f_X11_ahead p1 p2 M0 = some out) : Cs (13) 160 [.ref 0, .int p1, .int p2] M0 (emT eI out) := by
  generalize hk : emT eI out = R
  replace hk := hk.symm
  unfold f_X11_ahead at h
  show Ev (13) 160 0 [some (.ref 0), some (.int p1), some (.int p2)] [] M0 R
  refine ev_go kc_160 2 (i' := 2) (L' := [some (.ref 0), some (.int p1), some (.int p2)]) (st' := [.int p1, .ref 0]) (M' := M0) rfl ?_
  rcases o_tb h with ⟨v1, M1, hc1, h⟩ | ⟨E1, M1, hc1, h⟩
  rotate_left
  · subst h
    rw [hk]
    exact ev_clT (ins := .invokevirtual 128) kc_160 rfl rfl (a := 170) (as := [.ref 0, .int p1]) (rest := []) rfl rfl rfl rfl (Cs.deep (c_X11_mustBePerson hc1) (by decide))
  refine ev_cl0 (ins := .invokevirtual 128) kc_160 rfl rfl (a := 170) (as := [.ref 0, .int p1]) (rest := []) rfl rfl (Cs.deep (c_X11_mustBePerson hc1) (by decide)) ?_
  refine ev_go kc_160 1 (i' := 4) (L' := [some (.ref 0), some (.int p1), some (.int p2)]) (st' := [.int p2]) (M' := M1) rfl ?_
  rcases o_tb h with ⟨v2, M2, hc2, h⟩ | ⟨E2, M2, hc2, h⟩
  rotate_left
  · subst h
    rw [hk]
    exact ev_clT (ins := .invokestatic 329) kc_160 rfl rfl (a := 174) (as := [.int p2]) (rest := []) rfl rfl rfl rfl (Cs.deep (c_X11_mustBeLookAhead hc2) (by decide))
  refine ev_cl0 (ins := .invokestatic 329) kc_160 rfl rfl (a := 174) (as := [.int p2]) (rest := []) rfl rfl (Cs.deep (c_X11_mustBeLookAhead hc2) (by decide)) ?_
  refine ev_go kc_160 4 (i' := 9) (L' := [some (.ref 0), some (.int p1), some (.int p2)]) (st' := [.ref 35, .ref 47]) (M' := M2) rfl ?_
  obtain ⟨v3, M3, hc3, h⟩ := o_b2 h
  refine ev_cl0 (ins := .invokevirtual 86) kc_160 rfl rfl (a := 73) (as := [.ref 47, .ref 35]) (rest := []) rfl rfl (Cs.deep (c_X9_copyFrom hc3) (by decide)) ?_
  refine ev_go kc_160 6 (i' := 16) (L' := [some (.ref 0), some (.int p1), some (.int p2)]) (st' := [.int (0 : Int32), .int p2, .ref 17, .ref 47]) (M' := M3) rfl ?_
  obtain ⟨v4, M4, hc4, h⟩ := o_b2 h
  refine ev_cl0 (ins := .invokevirtual 193) kc_160 rfl rfl (a := 95) (as := [.ref 47, .ref 17, .int p2, .int (mB false)]) (rest := []) rfl rfl (Cs.deep (c_X9_passHours hc4) (by decide)) ?_
  refine ev_go kc_160 5 (i' := 22) (L' := [some (.ref 0), some (.int p1), some (.int p2)]) (st' := [.int p1, .ref 50]) (M' := M4) rfl ?_
  obtain ⟨hg5, h⟩ := o_gd h
  refine ev_ia kc_160 rfl rfl hg5 ?_
  obtain rfl := Option.some.inj h
  rw [hk]
  exact ev_ret kc_160 rfl rfl rfl
/-- WakeTower.trial(IZ)I: 161, T -/
theorem kc_161 : mKc 161 = k_X11_trial := rfl
def f_X11_trial (p1 : Int32) (p2 : Bool) (M0 : mM) : Option ((Int32 ⊕ Nat) × mM) :=
  tb (f_X11_mustBeLookAhead p1 M0) (fun v1 M1 => b2 (f_X9_copyFrom 47 35 M1) (fun v2 M2 => b2 (f_X9_passHours 47 17 p1 true M2) (fun v3 M3 => bif p2 then (some (.inl (M3 47 2), M3)) else (some (.inl (M3 47 1), M3)))))
set_option maxRecDepth 8000 in
theorem c_X11_trial {p1 : Int32} {p2 : Bool} {M0 : mM} {out : ((Int32 ⊕ Nat) × mM)} (h : f_X11_trial p1 p2 M0 = some out) : Cs (13) 161 [.ref 0, .int p1, .int (mB p2)] M0 (emT eI out) := by
  generalize hk : emT eI out = R
  replace hk := hk.symm
  unfold f_X11_trial at h
  show Ev (13) 161 0 [some (.ref 0), some (.int p1), some (.int (mB p2))] [] M0 R
  refine ev_go kc_161 1 (i' := 1) (L' := [some (.ref 0), some (.int p1), some (.int (mB p2))]) (st' := [.int p1]) (M' := M0) rfl ?_
  rcases o_tb h with ⟨v1, M1, hc1, h⟩ | ⟨E1, M1, hc1, h⟩
  rotate_left
  · subst h
    rw [hk]
    exact ev_clT (ins := .invokestatic 329) kc_161 rfl rfl (a := 174) (as := [.int p1]) (rest := []) rfl rfl rfl rfl (Cs.deep (c_X11_mustBeLookAhead hc1) (by decide))
  refine ev_cl0 (ins := .invokestatic 329) kc_161 rfl rfl (a := 174) (as := [.int p1]) (rest := []) rfl rfl (Cs.deep (c_X11_mustBeLookAhead hc1) (by decide)) ?_
  refine ev_go kc_161 4 (i' := 6) (L' := [some (.ref 0), some (.int p1), some (.int (mB p2))]) (st' := [.ref 35, .ref 47]) (M' := M1) rfl ?_
  obtain ⟨v2, M2, hc2, h⟩ := o_b2 h
  refine ev_cl0 (ins := .invokevirtual 86) kc_161 rfl rfl (a := 73) (as := [.ref 47, .ref 35]) (rest := []) rfl rfl (Cs.deep (c_X9_copyFrom hc2) (by decide)) ?_
  refine ev_go kc_161 6 (i' := 13) (L' := [some (.ref 0), some (.int p1), some (.int (mB p2))]) (st' := [.int (1 : Int32), .int p1, .ref 17, .ref 47]) (M' := M2) rfl ?_
  obtain ⟨v3, M3, hc3, h⟩ := o_b2 h
  refine ev_cl0 (ins := .invokevirtual 193) kc_161 rfl rfl (a := 95) (as := [.ref 47, .ref 17, .int p1, .int (mB true)]) (rest := []) rfl rfl (Cs.deep (c_X9_passHours hc3) (by decide)) ?_
  rcases o_bif h with ⟨hb4, h⟩ | ⟨hb4, h⟩
  · refine ev_goF kc_161 3 (t := 21) (e := 17) (L' := [some (.ref 0), some (.int p1), some (.int (mB p2))]) (st' := []) rfl (mB_e0f hb4) ?_
    refine ev_go kc_161 4 (i' := 24) (L' := [some (.ref 0), some (.int p1), some (.int (mB p2))]) (st' := [.int (M3 47 2)]) (M' := M3) rfl ?_
    obtain rfl := Option.some.inj h
    rw [hk]
    exact ev_ret kc_161 rfl rfl rfl
  · refine ev_goT kc_161 3 (t := 21) (e := 17) (L' := [some (.ref 0), some (.int p1), some (.int (mB p2))]) (st' := []) rfl (mB_e0t hb4) ?_
    refine ev_go kc_161 3 (i' := 24) (L' := [some (.ref 0), some (.int p1), some (.int (mB p2))]) (st' := [.int (M3 47 1)]) (M' := M3) rfl ?_
    obtain rfl := Option.some.inj h
    rw [hk]
    exact ev_ret kc_161 rfl rfl rfl
/-- WakeTower.span(IZ)I: 162, T -/
theorem kc_162 : mKc 162 = k_X11_span := rfl
def f_X11_span_6 (l1 : Int32) (l2 : Bool) (l3 : Int32) (l4 : Int32) (M0 : mM) : Option (((Int32 ⊕ Nat) × mM) ⊕ (Int32 × Int32 × mM)) :=
  bif decide ((6 : Int32) < l4) then (some (.inl (.inl l3, M0))) else (b2 (f_X9_copyFrom 47 35 M0) (fun v2 M2 => wr (mst M2 47 6 l4) (fun M3 => b2 (f_X9_passHours 47 17 l1 true M3) (fun v4 M4 => bif decide (l3 = (-1 : Int32)) then (some (.inr ((f_J6_bitCount_0f7a4 (M4 47 1)), (l4 + (1 : Int32)), M4))) else (bif l2 then (bif decide ((f_J6_bitCount_0f7a4 (M4 47 1)) ≤ l3) then (some (.inr (l3, (l4 + (1 : Int32)), M4))) else (some (.inr ((f_J6_bitCount_0f7a4 (M4 47 1)), (l4 + (1 : Int32)), M4)))) else (bif decide (l3 ≤ (f_J6_bitCount_0f7a4 (M4 47 1))) then (some (.inr (l3, (l4 + (1 : Int32)), M4))) else (some (.inr ((f_J6_bitCount_0f7a4 (M4 47 1)), (l4 + (1 : Int32)), M4)))))))))
set_option maxRecDepth 8000 in
theorem e_X11_span_6 {l1 : Int32} {l2 : Bool} {l3 : Int32} {l4 : Int32} {M0 : mM} {R : mZ} {out : (((Int32 ⊕ Nat) × mM) ⊕ (Int32 × Int32 × mM))}  (h : f_X11_span_6 l1 l2 l3 l4 M0 = some out) (hk : (∀ s' : Int32 × Int32 × mM, out = .inr s' → Ev (13) 162 6 [some (.ref 0), some (.int l1), some (.int (mB l2)), some (.int s'.1), some (.int s'.2.1), none] [] (s'.2.2) R) ∧ (∀ e1 : ((Int32 ⊕ Nat) × mM), out = .inl e1 → R = emT eI e1)) : Ev (13) 162 6 [some (.ref 0), some (.int l1), some (.int (mB l2)), some (.int l3), some (.int l4), none] [] M0 R := by
  unfold f_X11_span_6 at h
  rcases o_bif h with ⟨hb1, h⟩ | ⟨hb1, h⟩
  · refine ev_goT kc_162 3 (t := 47) (e := 9) (L' := [some (.ref 0), some (.int l1), some (.int (mB l2)), some (.int l3), some (.int l4), none]) (st' := []) rfl hb1 ?_
    refine ev_go kc_162 1 (i' := 48) (L' := [some (.ref 0), some (.int l1), some (.int (mB l2)), some (.int l3), some (.int l4), none]) (st' := [.int l3]) (M' := M0) rfl ?_
    obtain rfl := Option.some.inj h
    rw [show _ from (hk.2 _ rfl)]
    exact ev_ret kc_162 rfl rfl rfl
  · refine ev_goF kc_162 3 (t := 47) (e := 9) (L' := [some (.ref 0), some (.int l1), some (.int (mB l2)), some (.int l3), some (.int l4), none]) (st' := []) rfl hb1 ?_
    refine ev_go kc_162 4 (i' := 13) (L' := [some (.ref 0), some (.int l1), some (.int (mB l2)), some (.int l3), some (.int l4), none]) (st' := [.ref 35, .ref 47]) (M' := M0) rfl ?_
    obtain ⟨v2, M2, hc2, h⟩ := o_b2 h
    refine ev_cl0 (ins := .invokevirtual 86) kc_162 rfl rfl (a := 73) (as := [.ref 47, .ref 35]) (rest := []) rfl rfl (Cs.deep (c_X9_copyFrom hc2) (by decide)) ?_
    refine ev_go kc_162 3 (i' := 17) (L' := [some (.ref 0), some (.int l1), some (.int (mB l2)), some (.int l3), some (.int l4), none]) (st' := [.int l4, .ref 47]) (M' := M2) rfl ?_
    obtain ⟨M3, hM3, h⟩ := o_wr h
    refine ev_pf kc_162 rfl rfl rfl rfl (fun hc => absurd hc (by decide)) hM3 ?_
    refine ev_go kc_162 6 (i' := 24) (L' := [some (.ref 0), some (.int l1), some (.int (mB l2)), some (.int l3), some (.int l4), none]) (st' := [.int (1 : Int32), .int l1, .ref 17, .ref 47]) (M' := M3) rfl ?_
    obtain ⟨v4, M4, hc4, h⟩ := o_b2 h
    refine ev_cl0 (ins := .invokevirtual 193) kc_162 rfl rfl (a := 95) (as := [.ref 47, .ref 17, .int l1, .int (mB true)]) (rest := []) rfl rfl (Cs.deep (c_X9_passHours hc4) (by decide)) ?_
    refine ev_go kc_162 4 (i' := 29) (L' := [some (.ref 0), some (.int l1), some (.int (mB l2)), some (.int l3), some (.int l4), none]) (st' := [.int (M4 47 1)]) (M' := M4) rfl ?_
    refine ev_cl0 (ins := .invokestatic 262) kc_162 rfl rfl (a := 10) (as := [.int (M4 47 1)]) (rest := []) rfl rfl (Cs.deep (c_J6_bitCount_0f7a4 (M0 := M4)) (by decide)) ?_
    rcases o_bif h with ⟨hb6, h⟩ | ⟨hb6, h⟩
    · refine ev_goT kc_162 4 (t := 43) (e := 34) (L' := [some (.ref 0), some (.int l1), some (.int (mB l2)), some (.int l3), some (.int l4), some (.int (f_J6_bitCount_0f7a4 (M4 47 1)))]) (st' := []) rfl hb6 ?_
      refine ev_go kc_162 4 (i' := 6) (L' := [some (.ref 0), some (.int l1), some (.int (mB l2)), some (.int (f_J6_bitCount_0f7a4 (M4 47 1))), some (.int (l4 + (1 : Int32))), some (.int (f_J6_bitCount_0f7a4 (M4 47 1)))]) (st' := []) (M' := M4) rfl ?_
      obtain rfl := Option.some.inj h
      exact Ev.forget (mLe.kp (mLe.kp (mLe.kp (mLe.kp (mLe.kp (mLe.sk mLe.nl)))))) (hk.1 ((f_J6_bitCount_0f7a4 (M4 47 1)), (l4 + (1 : Int32)), M4) rfl)
    · refine ev_goF kc_162 4 (t := 43) (e := 34) (L' := [some (.ref 0), some (.int l1), some (.int (mB l2)), some (.int l3), some (.int l4), some (.int (f_J6_bitCount_0f7a4 (M4 47 1)))]) (st' := []) rfl hb6 ?_
      rcases o_bif h with ⟨hb7, h⟩ | ⟨hb7, h⟩
      · refine ev_goF kc_162 2 (t := 40) (e := 36) (L' := [some (.ref 0), some (.int l1), some (.int (mB l2)), some (.int l3), some (.int l4), some (.int (f_J6_bitCount_0f7a4 (M4 47 1)))]) (st' := []) rfl (mB_e0f hb7) ?_
        rcases o_bif h with ⟨hb8, h⟩ | ⟨hb8, h⟩
        · refine ev_goT kc_162 3 (t := 45) (e := 39) (L' := [some (.ref 0), some (.int l1), some (.int (mB l2)), some (.int l3), some (.int l4), some (.int (f_J6_bitCount_0f7a4 (M4 47 1)))]) (st' := []) rfl hb8 ?_
          refine ev_go kc_162 2 (i' := 6) (L' := [some (.ref 0), some (.int l1), some (.int (mB l2)), some (.int l3), some (.int (l4 + (1 : Int32))), some (.int (f_J6_bitCount_0f7a4 (M4 47 1)))]) (st' := []) (M' := M4) rfl ?_
          obtain rfl := Option.some.inj h
          exact Ev.forget (mLe.kp (mLe.kp (mLe.kp (mLe.kp (mLe.kp (mLe.sk mLe.nl)))))) (hk.1 (l3, (l4 + (1 : Int32)), M4) rfl)
        · refine ev_goF kc_162 3 (t := 45) (e := 39) (L' := [some (.ref 0), some (.int l1), some (.int (mB l2)), some (.int l3), some (.int l4), some (.int (f_J6_bitCount_0f7a4 (M4 47 1)))]) (st' := []) rfl hb8 ?_
          refine ev_go kc_162 5 (i' := 6) (L' := [some (.ref 0), some (.int l1), some (.int (mB l2)), some (.int (f_J6_bitCount_0f7a4 (M4 47 1))), some (.int (l4 + (1 : Int32))), some (.int (f_J6_bitCount_0f7a4 (M4 47 1)))]) (st' := []) (M' := M4) rfl ?_
          obtain rfl := Option.some.inj h
          exact Ev.forget (mLe.kp (mLe.kp (mLe.kp (mLe.kp (mLe.kp (mLe.sk mLe.nl)))))) (hk.1 ((f_J6_bitCount_0f7a4 (M4 47 1)), (l4 + (1 : Int32)), M4) rfl)
      · refine ev_goT kc_162 2 (t := 40) (e := 36) (L' := [some (.ref 0), some (.int l1), some (.int (mB l2)), some (.int l3), some (.int l4), some (.int (f_J6_bitCount_0f7a4 (M4 47 1)))]) (st' := []) rfl (mB_e0t hb7) ?_
        rcases o_bif h with ⟨hb9, h⟩ | ⟨hb9, h⟩
        · refine ev_goT kc_162 3 (t := 45) (e := 43) (L' := [some (.ref 0), some (.int l1), some (.int (mB l2)), some (.int l3), some (.int l4), some (.int (f_J6_bitCount_0f7a4 (M4 47 1)))]) (st' := []) rfl hb9 ?_
          refine ev_go kc_162 2 (i' := 6) (L' := [some (.ref 0), some (.int l1), some (.int (mB l2)), some (.int l3), some (.int (l4 + (1 : Int32))), some (.int (f_J6_bitCount_0f7a4 (M4 47 1)))]) (st' := []) (M' := M4) rfl ?_
          obtain rfl := Option.some.inj h
          exact Ev.forget (mLe.kp (mLe.kp (mLe.kp (mLe.kp (mLe.kp (mLe.sk mLe.nl)))))) (hk.1 (l3, (l4 + (1 : Int32)), M4) rfl)
        · refine ev_goF kc_162 3 (t := 45) (e := 43) (L' := [some (.ref 0), some (.int l1), some (.int (mB l2)), some (.int l3), some (.int l4), some (.int (f_J6_bitCount_0f7a4 (M4 47 1)))]) (st' := []) rfl hb9 ?_
          refine ev_go kc_162 4 (i' := 6) (L' := [some (.ref 0), some (.int l1), some (.int (mB l2)), some (.int (f_J6_bitCount_0f7a4 (M4 47 1))), some (.int (l4 + (1 : Int32))), some (.int (f_J6_bitCount_0f7a4 (M4 47 1)))]) (st' := []) (M' := M4) rfl ?_
          obtain rfl := Option.some.inj h
          exact Ev.forget (mLe.kp (mLe.kp (mLe.kp (mLe.kp (mLe.kp (mLe.sk mLe.nl)))))) (hk.1 ((f_J6_bitCount_0f7a4 (M4 47 1)), (l4 + (1 : Int32)), M4) rfl)
def f_X11_span_l6 (l1 : Int32) (l2 : Bool) (l3 : Int32) (l4 : Int32) (M0 : mM) : Option ((Int32 ⊕ Nat) × mM) :=
  wh 100000 (fun s : Int32 × Int32 × mM => f_X11_span_6 l1 l2 s.1 s.2.1 s.2.2) (l3, l4, M0)
theorem e_X11_span_l6 {l1 : Int32} {l2 : Bool} {l3 : Int32} {l4 : Int32} {M0 : mM} {R : mZ} {out : ((Int32 ⊕ Nat) × mM)}  (h : f_X11_span_l6 l1 l2 l3 l4 M0 = some out) (hk : R = emT eI out) : Ev (13) 162 6 [some (.ref 0), some (.int l1), some (.int (mB l2)), some (.int l3), some (.int l4), none] [] M0 R := by
  unfold f_X11_span_l6 at h
  exact wh_ev (P := fun s : Int32 × Int32 × mM => Ev (13) 162 6 [some (.ref 0), some (.int l1), some (.int (mB l2)), some (.int s.1), some (.int s.2.1), none] [] s.2.2 R) (Q := fun e : ((Int32 ⊕ Nat) × mM) => R = emT eI e) (fun s o hb h1 h2 => e_X11_span_6  hb ⟨h1, h2⟩) 100000 _ _ h hk
def f_X11_span (p1 : Int32) (p2 : Bool) (M0 : mM) : Option ((Int32 ⊕ Nat) × mM) :=
  tb (f_X11_mustBeLookAhead p1 M0) (fun v10 M10 => f_X11_span_l6 p1 p2 (-1 : Int32) (1 : Int32) M10)
set_option maxRecDepth 8000 in
theorem c_X11_span {p1 : Int32} {p2 : Bool} {M0 : mM} {out : ((Int32 ⊕ Nat) × mM)} (h : f_X11_span p1 p2 M0 = some out) : Cs (13) 162 [.ref 0, .int p1, .int (mB p2)] M0 (emT eI out) := by
  generalize hk : emT eI out = R
  replace hk := hk.symm
  unfold f_X11_span at h
  show Ev (13) 162 0 [some (.ref 0), some (.int p1), some (.int (mB p2)), none, none, none] [] M0 R
  refine ev_go kc_162 1 (i' := 1) (L' := [some (.ref 0), some (.int p1), some (.int (mB p2)), none, none, none]) (st' := [.int p1]) (M' := M0) rfl ?_
  rcases o_tb h with ⟨v10, M10, hc10, h⟩ | ⟨E10, M10, hc10, h⟩
  rotate_left
  · subst h
    rw [hk]
    exact ev_clT (ins := .invokestatic 329) kc_162 rfl rfl (a := 174) (as := [.int p1]) (rest := []) rfl rfl rfl rfl (Cs.deep (c_X11_mustBeLookAhead hc10) (by decide))
  refine ev_cl0 (ins := .invokestatic 329) kc_162 rfl rfl (a := 174) (as := [.int p1]) (rest := []) rfl rfl (Cs.deep (c_X11_mustBeLookAhead hc10) (by decide)) ?_
  refine ev_go kc_162 4 (i' := 6) (L' := [some (.ref 0), some (.int p1), some (.int (mB p2)), some (.int (-1 : Int32)), some (.int (1 : Int32)), none]) (st' := []) (M' := M10) rfl ?_
  exact Ev.forget (mLe.kp (mLe.kp (mLe.kp (mLe.kp (mLe.kp (mLe.sk mLe.nl)))))) (e_X11_span_l6  h hk)
/-- WakeTower.led(IZ)I: 163, T -/
theorem kc_163 : mKc 163 = k_X11_led := rfl
def f_X11_led (p1 : Int32) (p2 : Bool) (M0 : mM) : Option ((Int32 ⊕ Nat) × mM) :=
  tb (f_X11_mustBePerson p1 M0) (fun v1 M1 => bif p2 then (b1 (f_X2_latestDay 44 p1 M1) (fun v3 => some (.inl v3, M1))) else (b1 (f_X2_rowsOf 44 p1 M1) (fun v4 => some (.inl v4, M1))))
set_option maxRecDepth 8000 in
theorem c_X11_led {p1 : Int32} {p2 : Bool} {M0 : mM} {out : ((Int32 ⊕ Nat) × mM)} (h : f_X11_led p1 p2 M0 = some out) : Cs (9) 163 [.ref 0, .int p1, .int (mB p2)] M0 (emT eI out) := by
  generalize hk : emT eI out = R
  replace hk := hk.symm
  unfold f_X11_led at h
  show Ev (9) 163 0 [some (.ref 0), some (.int p1), some (.int (mB p2))] [] M0 R
  refine ev_go kc_163 2 (i' := 2) (L' := [some (.ref 0), some (.int p1), some (.int (mB p2))]) (st' := [.int p1, .ref 0]) (M' := M0) rfl ?_
  rcases o_tb h with ⟨v1, M1, hc1, h⟩ | ⟨E1, M1, hc1, h⟩
  rotate_left
  · subst h
    rw [hk]
    exact ev_clT (ins := .invokevirtual 128) kc_163 rfl rfl (a := 170) (as := [.ref 0, .int p1]) (rest := []) rfl rfl rfl rfl (Cs.deep (c_X11_mustBePerson hc1) (by decide))
  refine ev_cl0 (ins := .invokevirtual 128) kc_163 rfl rfl (a := 170) (as := [.ref 0, .int p1]) (rest := []) rfl rfl (Cs.deep (c_X11_mustBePerson hc1) (by decide)) ?_
  rcases o_bif h with ⟨hb2, h⟩ | ⟨hb2, h⟩
  · refine ev_goF kc_163 2 (t := 11) (e := 5) (L' := [some (.ref 0), some (.int p1), some (.int (mB p2))]) (st' := []) rfl (mB_e0f hb2) ?_
    refine ev_go kc_163 4 (i' := 9) (L' := [some (.ref 0), some (.int p1), some (.int (mB p2))]) (st' := [.int p1, .ref 44]) (M' := M1) rfl ?_
    obtain ⟨v3, hc3, h⟩ := o_b1 h
    refine ev_cl0 (ins := .invokevirtual 339) kc_163 rfl rfl (a := 32) (as := [.ref 44, .int p1]) (rest := []) rfl rfl (Cs.deep (c_X2_latestDay (M0 := M1) hc3) (by decide)) ?_
    refine ev_go kc_163 1 (i' := 16) (L' := [some (.ref 0), some (.int p1), some (.int (mB p2))]) (st' := [.int v3]) (M' := M1) rfl ?_
    obtain rfl := Option.some.inj h
    rw [hk]
    exact ev_ret kc_163 rfl rfl rfl
  · refine ev_goT kc_163 2 (t := 11) (e := 5) (L' := [some (.ref 0), some (.int p1), some (.int (mB p2))]) (st' := []) rfl (mB_e0t hb2) ?_
    refine ev_go kc_163 4 (i' := 15) (L' := [some (.ref 0), some (.int p1), some (.int (mB p2))]) (st' := [.int p1, .ref 44]) (M' := M1) rfl ?_
    obtain ⟨v4, hc4, h⟩ := o_b1 h
    refine ev_cl0 (ins := .invokevirtual 344) kc_163 rfl rfl (a := 31) (as := [.ref 44, .int p1]) (rest := []) rfl rfl (Cs.deep (c_X2_rowsOf (M0 := M1) hc4) (by decide)) ?_
    obtain rfl := Option.some.inj h
    rw [hk]
    exact ev_ret kc_163 rfl rfl rfl
/-- WakeTower.log(II)I: 164, T -/
theorem kc_164 : mKc 164 = k_X11_log := rfl
def f_X11_log_5 (M0 : mM) : Option ((Int32 ⊕ Nat) × mM) :=
  some (.inr 3, M0)
set_option maxRecDepth 8000 in
theorem e_X11_log_5 {M0 : mM} {R : mZ} {out : ((Int32 ⊕ Nat) × mM)}  (h : f_X11_log_5 M0 = some out) (hk : R = emT eI out) : Ev (8) 164 5 [none, none, none] [] M0 R := by
  unfold f_X11_log_5 at h
  obtain rfl := Option.some.inj h
  rw [hk]
  exact ev_tr kc_164 rfl rfl rfl rfl rfl
def f_X11_log (p1 : Int32) (p2 : Int32) (M0 : mM) : Option ((Int32 ⊕ Nat) × mM) :=
  bif decide (p2 < 0) then (f_X11_log_5 M0) else (bif decide (p2 < (6 : Int32)) then (b1 (f_X2_at 44 p1 p2 M0) (fun v3 => some (.inl v3, M0))) else (f_X11_log_5 M0))
set_option maxRecDepth 8000 in
theorem c_X11_log {p1 : Int32} {p2 : Int32} {M0 : mM} {out : ((Int32 ⊕ Nat) × mM)} (h : f_X11_log p1 p2 M0 = some out) : Cs (8) 164 [.ref 0, .int p1, .int p2] M0 (emT eI out) := by
  generalize hk : emT eI out = R
  replace hk := hk.symm
  unfold f_X11_log at h
  show Ev (8) 164 0 [some (.ref 0), some (.int p1), some (.int p2)] [] M0 R
  rcases o_bif h with ⟨hb1, h⟩ | ⟨hb1, h⟩
  · refine ev_goT kc_164 2 (t := 5) (e := 2) (L' := [some (.ref 0), some (.int p1), some (.int p2)]) (st' := []) rfl hb1 ?_
    exact Ev.forget (mLe.sk (mLe.sk (mLe.sk mLe.nl))) (e_X11_log_5  h hk)
  · refine ev_goF kc_164 2 (t := 5) (e := 2) (L' := [some (.ref 0), some (.int p1), some (.int p2)]) (st' := []) rfl hb1 ?_
    rcases o_bif h with ⟨hb2, h⟩ | ⟨hb2, h⟩
    · refine ev_goT kc_164 3 (t := 10) (e := 5) (L' := [some (.ref 0), some (.int p1), some (.int p2)]) (st' := []) rfl hb2 ?_
      refine ev_go kc_164 5 (i' := 15) (L' := [some (.ref 0), some (.int p1), some (.int p2)]) (st' := [.int p2, .int p1, .ref 44]) (M' := M0) rfl ?_
      obtain ⟨v3, hc3, h⟩ := o_b1 h
      refine ev_cl0 (ins := .invokevirtual 347) kc_164 rfl rfl (a := 30) (as := [.ref 44, .int p1, .int p2]) (rest := []) rfl rfl (Cs.deep (c_X2_at (M0 := M0) hc3) (by decide)) ?_
      obtain rfl := Option.some.inj h
      rw [hk]
      exact ev_ret kc_164 rfl rfl rfl
    · refine ev_goF kc_164 3 (t := 10) (e := 5) (L' := [some (.ref 0), some (.int p1), some (.int p2)]) (st' := []) rfl hb2 ?_
      exact Ev.forget (mLe.sk (mLe.sk (mLe.sk mLe.nl))) (e_X11_log_5  h hk)
/-- WakeTower.seed(I)I: 165, W -/
theorem kc_165 : mKc 165 = k_X11_seed := rfl
def f_X11_seed (p1 : Int32) (M0 : mM) : Option (Int32 × mM) :=
  wr (mst M0 35 6 p1) (fun M1 => some ((M0 35 6), M1))
set_option maxRecDepth 8000 in
theorem c_X11_seed {p1 : Int32} {M0 : mM} {out : (Int32 × mM)} (h : f_X11_seed p1 M0 = some out) : Cs (0) 165 [.ref 0, .int p1] M0 (emW eI out) := by
  generalize hk : emW eI out = R
  replace hk := hk.symm
  unfold f_X11_seed at h
  show Ev (0) 165 0 [some (.ref 0), some (.int p1), none] [] M0 R
  refine ev_go kc_165 7 (i' := 7) (L' := [some (.ref 0), some (.int p1), some (.int (M0 35 6))]) (st' := [.int p1, .ref 35]) (M' := M0) rfl ?_
  obtain ⟨M1, hM1, h⟩ := o_wr h
  refine ev_pf kc_165 rfl rfl rfl rfl (fun hc => absurd hc (by decide)) hM1 ?_
  refine ev_go kc_165 1 (i' := 9) (L' := [some (.ref 0), some (.int p1), some (.int (M0 35 6))]) (st' := [.int (M0 35 6)]) (M' := M1) rfl ?_
  obtain rfl := Option.some.inj h
  rw [hk]
  exact ev_ret kc_165 rfl rfl rfl
/-- WakeTower.undo()Z: 166, W -/
theorem kc_166 : mKc 166 = k_X11_undo := rfl
def f_X11_undo  (M0 : mM) : Option (Bool × mM) :=
  b2 (f_X3_recall 35 M0) (fun v1 M1 => some (v1, M1))
set_option maxRecDepth 8000 in
theorem c_X11_undo  {M0 : mM} {out : (Bool × mM)} (h : f_X11_undo M0 = some out) : Cs (11) 166 [.ref 0] M0 (emW eB out) := by
  generalize hk : emW eB out = R
  replace hk := hk.symm
  unfold f_X11_undo at h
  show Ev (11) 166 0 [some (.ref 0)] [] M0 R
  refine ev_go kc_166 4 (i' := 4) (L' := [some (.ref 0)]) (st' := [.ref 35, .ref 3]) (M' := M0) rfl ?_
  obtain ⟨v1, M1, hc1, h⟩ := o_b2 h
  refine ev_cl0 (ins := .invokevirtual 350) kc_166 rfl rfl (a := 35) (as := [.ref 3, .ref 35]) (rest := []) rfl rfl (Cs.deep (c_X3_recall hc1) (by decide)) ?_
  obtain rfl := Option.some.inj h
  rw [hk]
  exact ev_ret kc_166 rfl rfl mB_rok
/-- WakeTower.image()V: 167, W -/
theorem kc_167 : mKc 167 = k_X11_image := rfl
def f_X11_image  (M0 : mM) : Option (Unit × mM) :=
  b2 (f_X9_copyFrom 59 35 M0) (fun v1 M1 => b2 (f_X0_copyFrom 29 17 M1) (fun v2 M2 => wr (mst M2 0 11 (1 : Int32)) (fun M3 => some ((), M3))))
set_option maxRecDepth 8000 in
theorem c_X11_image  {M0 : mM} {out : (Unit × mM)} (h : f_X11_image M0 = some out) : Cs (10) 167 [.ref 0] M0 (emW eU out) := by
  generalize hk : emW eU out = R
  replace hk := hk.symm
  unfold f_X11_image at h
  show Ev (10) 167 0 [some (.ref 0)] [] M0 R
  refine ev_go kc_167 4 (i' := 4) (L' := [some (.ref 0)]) (st' := [.ref 35, .ref 59]) (M' := M0) rfl ?_
  obtain ⟨v1, M1, hc1, h⟩ := o_b2 h
  refine ev_cl0 (ins := .invokevirtual 86) kc_167 rfl rfl (a := 73) (as := [.ref 59, .ref 35]) (rest := []) rfl rfl (Cs.deep (c_X9_copyFrom hc1) (by decide)) ?_
  refine ev_go kc_167 4 (i' := 9) (L' := [some (.ref 0)]) (st' := [.ref 17, .ref 29]) (M' := M1) rfl ?_
  obtain ⟨v2, M2, hc2, h⟩ := o_b2 h
  refine ev_cl0 (ins := .invokevirtual 119) kc_167 rfl rfl (a := 12) (as := [.ref 29, .ref 17]) (rest := []) rfl rfl (Cs.deep (c_X0_copyFrom hc2) (by decide)) ?_
  refine ev_go kc_167 2 (i' := 12) (L' := [some (.ref 0)]) (st' := [.int (1 : Int32), .ref 0]) (M' := M2) rfl ?_
  obtain ⟨M3, hM3, h⟩ := o_wr h
  refine ev_pf kc_167 rfl rfl rfl rfl (fun _ => Or.inr rfl) hM3 ?_
  obtain rfl := Option.some.inj h
  rw [hk]
  exact ev_vret kc_167 rfl rfl rfl
/-- WakeTower.back()Z: 168, W -/
theorem kc_168 : mKc 168 = k_X11_back := rfl
def f_X11_back  (M0 : mM) : Option (Bool × mM) :=
  bif decide (¬ (M0 0 11) = 0) then (b2 (f_X9_copyFrom 35 59 M0) (fun v2 M2 => b2 (f_X0_copyFrom 17 29 M2) (fun v3 M3 => b2 (f_X3_forget M3) (fun v4 M4 => some (true, M4))))) else (some (false, M0))
set_option maxRecDepth 8000 in
theorem c_X11_back  {M0 : mM} {out : (Bool × mM)} (h : f_X11_back M0 = some out) : Cs (10) 168 [.ref 0] M0 (emW eB out) := by
  generalize hk : emW eB out = R
  replace hk := hk.symm
  unfold f_X11_back at h
  show Ev (10) 168 0 [some (.ref 0)] [] M0 R
  rcases o_bif h with ⟨hb1, h⟩ | ⟨hb1, h⟩
  · refine ev_goT kc_168 3 (t := 5) (e := 3) (L' := [some (.ref 0)]) (st' := []) rfl hb1 ?_
    refine ev_go kc_168 4 (i' := 9) (L' := [some (.ref 0)]) (st' := [.ref 59, .ref 35]) (M' := M0) rfl ?_
    obtain ⟨v2, M2, hc2, h⟩ := o_b2 h
    refine ev_cl0 (ins := .invokevirtual 86) kc_168 rfl rfl (a := 73) (as := [.ref 35, .ref 59]) (rest := []) rfl rfl (Cs.deep (c_X9_copyFrom hc2) (by decide)) ?_
    refine ev_go kc_168 4 (i' := 14) (L' := [some (.ref 0)]) (st' := [.ref 29, .ref 17]) (M' := M2) rfl ?_
    obtain ⟨v3, M3, hc3, h⟩ := o_b2 h
    refine ev_cl0 (ins := .invokevirtual 119) kc_168 rfl rfl (a := 12) (as := [.ref 17, .ref 29]) (rest := []) rfl rfl (Cs.deep (c_X0_copyFrom hc3) (by decide)) ?_
    refine ev_go kc_168 2 (i' := 17) (L' := [some (.ref 0)]) (st' := [.ref 3]) (M' := M3) rfl ?_
    obtain ⟨v4, M4, hc4, h⟩ := o_b2 h
    refine ev_cl0 (ins := .invokevirtual 111) kc_168 rfl rfl (a := 33) (as := [.ref 3]) (rest := []) rfl rfl (Cs.deep (c_X3_forget hc4) (by decide)) ?_
    refine ev_go kc_168 1 (i' := 19) (L' := [some (.ref 0)]) (st' := [.int (1 : Int32)]) (M' := M4) rfl ?_
    obtain rfl := Option.some.inj h
    rw [hk]
    exact ev_ret kc_168 rfl rfl rfl
  · refine ev_goF kc_168 3 (t := 5) (e := 3) (L' := [some (.ref 0)]) (st' := []) rfl hb1 ?_
    refine ev_go kc_168 1 (i' := 4) (L' := [some (.ref 0)]) (st' := [.int (0 : Int32)]) (M' := M0) rfl ?_
    obtain rfl := Option.some.inj h
    rw [hk]
    exact ev_ret kc_168 rfl rfl rfl
/-- WakeTower.count(I)I: 169, R -/
theorem kc_169 : mKc 169 = k_X11_count := rfl
def f_X11_count (p1 : Int32) (M0 : mM) : Option Int32 :=
  bif decide (swN p1 (0) 11 = 0) then (some (M0 35 0)) else (bif decide (swN p1 (0) 11 = 1) then (some (M0 35 7)) else (bif decide (swN p1 (0) 11 = 2) then (bif decide ((M0 17 0) = 0) then (some (-1 : Int32)) else (some (M0 17 1))) else (bif decide (swN p1 (0) 11 = 3) then (some (M0 35 3)) else (bif decide (swN p1 (0) 11 = 4) then (some (M0 35 4)) else (bif decide (swN p1 (0) 11 = 5) then (some (M0 35 5)) else (bif decide (swN p1 (0) 11 = 6) then (some (M0 35 1)) else (bif decide (swN p1 (0) 11 = 7) then (b1 (f_X9_borneByAll 35 M0) (fun v10 => some v10)) else (bif decide (swN p1 (0) 11 = 8) then (b1 (f_X9_strengthOfAll 35 M0) (fun v12 => some v12)) else (bif decide (swN p1 (0) 11 = 9) then (some (M0 44 2)) else (bif decide (swN p1 (0) 11 = 10) then (some (M0 3 2)) else (some (-1 : Int32))))))))))))
set_option maxRecDepth 8000 in
theorem c_X11_count {p1 : Int32} {M0 : mM} {out : Int32} (h : f_X11_count p1 M0 = some out) : Cs (1) 169 [.ref 0, .int p1] M0 (emR eI M0 out) := by
  generalize hk : emR eI M0 out = R
  replace hk := hk.symm
  unfold f_X11_count at h
  show Ev (1) 169 0 [some (.ref 0), some (.int p1)] [] M0 R
  refine ev_go kc_169 1 (i' := 1) (L' := [some (.ref 0), some (.int p1)]) (st' := [.int p1]) (M' := M0) rfl ?_
  rcases o_bif h with ⟨hb1, h⟩ | ⟨hb1, h⟩
  · refine ev_sw kc_169 rfl (n := 11) (t := 2) rfl rfl hb1 rfl rfl ?_
    refine ev_go kc_169 3 (i' := 5) (L' := [some (.ref 0), some (.int p1)]) (st' := [.int (M0 35 0)]) (M' := M0) rfl ?_
    obtain rfl := Option.some.inj h
    rw [hk]
    exact ev_ret kc_169 rfl rfl rfl
  rcases o_bif h with ⟨hb2, h⟩ | ⟨hb2, h⟩
  · refine ev_sw kc_169 rfl (n := 11) (t := 6) rfl rfl hb2 rfl rfl ?_
    refine ev_go kc_169 3 (i' := 9) (L' := [some (.ref 0), some (.int p1)]) (st' := [.int (M0 35 7)]) (M' := M0) rfl ?_
    obtain rfl := Option.some.inj h
    rw [hk]
    exact ev_ret kc_169 rfl rfl rfl
  rcases o_bif h with ⟨hb3, h⟩ | ⟨hb3, h⟩
  · refine ev_sw kc_169 rfl (n := 11) (t := 10) rfl rfl hb3 rfl rfl ?_
    rcases o_bif h with ⟨hb4, h⟩ | ⟨hb4, h⟩
    · refine ev_goT kc_169 4 (t := 18) (e := 14) (L' := [some (.ref 0), some (.int p1)]) (st' := []) rfl hb4 ?_
      refine ev_go kc_169 1 (i' := 19) (L' := [some (.ref 0), some (.int p1)]) (st' := [.int (-1 : Int32)]) (M' := M0) rfl ?_
      obtain rfl := Option.some.inj h
      rw [hk]
      exact ev_ret kc_169 rfl rfl rfl
    · refine ev_goF kc_169 4 (t := 18) (e := 14) (L' := [some (.ref 0), some (.int p1)]) (st' := []) rfl hb4 ?_
      refine ev_go kc_169 4 (i' := 19) (L' := [some (.ref 0), some (.int p1)]) (st' := [.int (M0 17 1)]) (M' := M0) rfl ?_
      obtain rfl := Option.some.inj h
      rw [hk]
      exact ev_ret kc_169 rfl rfl rfl
  rcases o_bif h with ⟨hb5, h⟩ | ⟨hb5, h⟩
  · refine ev_sw kc_169 rfl (n := 11) (t := 20) rfl rfl hb5 rfl rfl ?_
    refine ev_go kc_169 3 (i' := 23) (L' := [some (.ref 0), some (.int p1)]) (st' := [.int (M0 35 3)]) (M' := M0) rfl ?_
    obtain rfl := Option.some.inj h
    rw [hk]
    exact ev_ret kc_169 rfl rfl rfl
  rcases o_bif h with ⟨hb6, h⟩ | ⟨hb6, h⟩
  · refine ev_sw kc_169 rfl (n := 11) (t := 24) rfl rfl hb6 rfl rfl ?_
    refine ev_go kc_169 3 (i' := 27) (L' := [some (.ref 0), some (.int p1)]) (st' := [.int (M0 35 4)]) (M' := M0) rfl ?_
    obtain rfl := Option.some.inj h
    rw [hk]
    exact ev_ret kc_169 rfl rfl rfl
  rcases o_bif h with ⟨hb7, h⟩ | ⟨hb7, h⟩
  · refine ev_sw kc_169 rfl (n := 11) (t := 28) rfl rfl hb7 rfl rfl ?_
    refine ev_go kc_169 3 (i' := 31) (L' := [some (.ref 0), some (.int p1)]) (st' := [.int (M0 35 5)]) (M' := M0) rfl ?_
    obtain rfl := Option.some.inj h
    rw [hk]
    exact ev_ret kc_169 rfl rfl rfl
  rcases o_bif h with ⟨hb8, h⟩ | ⟨hb8, h⟩
  · refine ev_sw kc_169 rfl (n := 11) (t := 32) rfl rfl hb8 rfl rfl ?_
    refine ev_go kc_169 3 (i' := 35) (L' := [some (.ref 0), some (.int p1)]) (st' := [.int (M0 35 1)]) (M' := M0) rfl ?_
    obtain rfl := Option.some.inj h
    rw [hk]
    exact ev_ret kc_169 rfl rfl rfl
  rcases o_bif h with ⟨hb9, h⟩ | ⟨hb9, h⟩
  · refine ev_sw kc_169 rfl (n := 11) (t := 36) rfl rfl hb9 rfl rfl ?_
    refine ev_go kc_169 2 (i' := 38) (L' := [some (.ref 0), some (.int p1)]) (st' := [.ref 35]) (M' := M0) rfl ?_
    obtain ⟨v10, hc10, h⟩ := o_b1 h
    refine ev_cl0 (ins := .invokevirtual 183) kc_169 rfl rfl (a := 80) (as := [.ref 35]) (rest := []) rfl rfl (Cs.deep (c_X9_borneByAll (M0 := M0) hc10) (by decide)) ?_
    obtain rfl := Option.some.inj h
    rw [hk]
    exact ev_ret kc_169 rfl rfl rfl
  rcases o_bif h with ⟨hb11, h⟩ | ⟨hb11, h⟩
  · refine ev_sw kc_169 rfl (n := 11) (t := 40) rfl rfl hb11 rfl rfl ?_
    refine ev_go kc_169 2 (i' := 42) (L' := [some (.ref 0), some (.int p1)]) (st' := [.ref 35]) (M' := M0) rfl ?_
    obtain ⟨v12, hc12, h⟩ := o_b1 h
    refine ev_cl0 (ins := .invokevirtual 363) kc_169 rfl rfl (a := 81) (as := [.ref 35]) (rest := []) rfl rfl (Cs.deep (c_X9_strengthOfAll (M0 := M0) hc12) (by decide)) ?_
    obtain rfl := Option.some.inj h
    rw [hk]
    exact ev_ret kc_169 rfl rfl rfl
  rcases o_bif h with ⟨hb13, h⟩ | ⟨hb13, h⟩
  · refine ev_sw kc_169 rfl (n := 11) (t := 44) rfl rfl hb13 rfl rfl ?_
    refine ev_go kc_169 4 (i' := 48) (L' := [some (.ref 0), some (.int p1)]) (st' := [.int (M0 44 2)]) (M' := M0) rfl ?_
    obtain rfl := Option.some.inj h
    rw [hk]
    exact ev_ret kc_169 rfl rfl rfl
  rcases o_bif h with ⟨hb14, h⟩ | ⟨hb14, h⟩
  · refine ev_sw kc_169 rfl (n := 11) (t := 49) rfl rfl hb14 rfl rfl ?_
    refine ev_go kc_169 3 (i' := 52) (L' := [some (.ref 0), some (.int p1)]) (st' := [.int (M0 3 2)]) (M' := M0) rfl ?_
    obtain rfl := Option.some.inj h
    rw [hk]
    exact ev_ret kc_169 rfl rfl rfl
  have hsw : swN p1 (0) 11 = 11 := by
    have := swN_le p1 (0) 11
    have hb1 := of_decide_eq_false hb1
    have hb2 := of_decide_eq_false hb2
    have hb3 := of_decide_eq_false hb3
    have hb5 := of_decide_eq_false hb5
    have hb6 := of_decide_eq_false hb6
    have hb7 := of_decide_eq_false hb7
    have hb8 := of_decide_eq_false hb8
    have hb9 := of_decide_eq_false hb9
    have hb11 := of_decide_eq_false hb11
    have hb13 := of_decide_eq_false hb13
    have hb14 := of_decide_eq_false hb14
    omega
  refine ev_swD kc_169 rfl (n := 11) rfl rfl hsw ?_
  refine ev_go kc_169 1 (i' := 54) (L' := [some (.ref 0), some (.int p1)]) (st' := [.int (-1 : Int32)]) (M' := M0) rfl ?_
  obtain rfl := Option.some.inj h
  rw [hk]
  exact ev_ret kc_169 rfl rfl rfl
/-- WakeTowerModel.thrown()I: 180, R -/
theorem kc_180 : mKc 180 = k_X12_thrown := rfl
def f_X12_thrown  (M0 : mM) : Option Int32 :=
  some (M0 215 0)
set_option maxRecDepth 8000 in
theorem c_X12_thrown  {M0 : mM} {out : Int32} (h : f_X12_thrown M0 = some out) : Cs (0) 180 [.ref 215] M0 (emR eI M0 out) := by
  generalize hk : emR eI M0 out = R
  replace hk := hk.symm
  unfold f_X12_thrown at h
  show Ev (0) 180 0 [some (.ref 215)] [] M0 R
  refine ev_go kc_180 2 (i' := 2) (L' := [some (.ref 215)]) (st' := [.int (M0 215 0)]) (M' := M0) rfl ?_
  obtain rfl := Option.some.inj h
  rw [hk]
  exact ev_ret kc_180 rfl rfl rfl
/-- WakeTowerModel.throwsIf(ZI)Z: 181, W -/
theorem kc_181 : mKc 181 = k_X12_throwsIf := rfl
def f_X12_throwsIf (p1 : Bool) (p2 : Int32) (M0 : mM) : Option (Bool × mM) :=
  bif p1 then (wr (mst M0 215 0 p2) (fun M2 => some (p1, M2))) else (some (p1, M0))
set_option maxRecDepth 8000 in
theorem c_X12_throwsIf {p1 : Bool} {p2 : Int32} {M0 : mM} {out : (Bool × mM)} (h : f_X12_throwsIf p1 p2 M0 = some out) : Cs (0) 181 [.ref 215, .int (mB p1), .int p2] M0 (emW eB out) := by
  generalize hk : emW eB out = R
  replace hk := hk.symm
  unfold f_X12_throwsIf at h
  show Ev (0) 181 0 [some (.ref 215), some (.int (mB p1)), some (.int p2)] [] M0 R
  rcases o_bif h with ⟨hb1, h⟩ | ⟨hb1, h⟩
  · refine ev_goF kc_181 2 (t := 5) (e := 2) (L' := [some (.ref 215), some (.int (mB p1)), some (.int p2)]) (st' := []) rfl (mB_e0f hb1) ?_
    refine ev_go kc_181 2 (i' := 4) (L' := [some (.ref 215), some (.int (mB p1)), some (.int p2)]) (st' := [.int p2, .ref 215]) (M' := M0) rfl ?_
    obtain ⟨M2, hM2, h⟩ := o_wr h
    refine ev_pf kc_181 rfl rfl rfl rfl (fun hc => absurd hc (by decide)) hM2 ?_
    refine ev_go kc_181 1 (i' := 6) (L' := [some (.ref 215), some (.int (mB p1)), some (.int p2)]) (st' := [.int (mB p1)]) (M' := M2) rfl ?_
    obtain rfl := Option.some.inj h
    rw [hk]
    exact ev_ret kc_181 rfl rfl mB_rok
  · refine ev_goT kc_181 2 (t := 5) (e := 2) (L' := [some (.ref 215), some (.int (mB p1)), some (.int p2)]) (st' := []) rfl (mB_e0t hb1) ?_
    refine ev_go kc_181 1 (i' := 6) (L' := [some (.ref 215), some (.int (mB p1)), some (.int p2)]) (st' := [.int (mB p1)]) (M' := M0) rfl ?_
    obtain rfl := Option.some.inj h
    rw [hk]
    exact ev_ret kc_181 rfl rfl mB_rok
