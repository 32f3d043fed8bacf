/-! the methods, by program -/
/-- WakeTower$Tower.collapse()I: 94, W -/
theorem kc_94 : mKc 94 = k_X9_collapse := rfl
def f_X9_collapse_65 (o0 : Nat) (l1 : Int32) (l2 : Int32) (l3 : Int32) (l4 : Int32) (l5 : Int32) (s1 : Int32) (s2 : Int32) (s3 : Int32) (s4 : Int32) (s5 : Bool) (M0 : mM) : Option (((Int32 × mM) ⊕ (Int32 × Int32 × mM)) ⊕ (Int32 × Int32 × mM)) :=
  gd (mIn l5 8) (b2 (f_X2_add (o0 + 9) s1 s2 s3 s4 (mB s5) (M0 (o0 + 7) (ix l5)) M0) (fun v2 M2 => some (.inr (l1, (l5 + (1 : Int32)), M2))))
set_option maxRecDepth 8000 in
theorem e_X9_collapse_65 {o0 : Nat} {l1 : Int32} {l2 : Int32} {l3 : Int32} {l4 : Int32} {l5 : Int32} {s1 : Int32} {s2 : Int32} {s3 : Int32} {s4 : Int32} {s5 : Bool} {M0 : mM} {R : mZ} {out : (((Int32 × mM) ⊕ (Int32 × Int32 × mM)) ⊕ (Int32 × Int32 × mM))} (go0 : mTwB o0 = true) (h : f_X9_collapse_65 o0 l1 l2 l3 l4 l5 s1 s2 s3 s4 s5 M0 = some out) (hk : (∀ s' : Int32 × Int32 × mM, out = .inr s' → Ev (9) 94 34 [some (.ref o0), some (.int s'.1), some (.int l2), some (.int l3), some (.int l4), some (.int s'.2.1)] [] (s'.2.2) R) ∧ (∀ e2 : ((Int32 × mM) ⊕ (Int32 × Int32 × mM)), out = .inl e2 → (∀ s' : Int32 × Int32 × mM, e2 = .inr s' → Ev (9) 94 7 [some (.ref o0), some (.int s'.1), some (.int s'.2.1), none, none, none] [] (s'.2.2) R) ∧ (∀ e1 : (Int32 × mM), e2 = .inl e1 → R = emW eI e1))) : Ev (9) 94 65 [some (.ref o0), some (.int l1), some (.int l2), some (.int l3), some (.int l4), some (.int l5)] [.int (mB s5), .int s4, .int s3, .int s2, .int s1, .ref (o0 + 9)] M0 R := by
  unfold f_X9_collapse_65 at h
  refine ev_go kc_94 1 (i' := 66) (L' := [some (.ref o0), some (.int l1), some (.int l2), some (.int l3), some (.int l4), some (.int l5)]) (st' := [.ref o0, .int (mB s5), .int s4, .int s3, .int s2, .int s1, .ref (o0 + 9)]) (M' := M0) rfl ?_
  refine ev_gr kc_94 rfl (mTw0 go0) (j := 6) rfl ?_
  refine ev_go kc_94 1 (i' := 68) (L' := [some (.ref o0), some (.int l1), some (.int l2), some (.int l3), some (.int l4), some (.int l5)]) (st' := [.int l5, .ref (o0 + 7), .int (mB s5), .int s4, .int s3, .int s2, .int s1, .ref (o0 + 9)]) (M' := M0) rfl ?_
  obtain ⟨hg1, h⟩ := o_gd h
  refine ev_ia kc_94 rfl (mTw7 go0) hg1 ?_
  obtain ⟨v2, M2, hc2, h⟩ := o_b2 h
  refine ev_cl0 (ins := .invokevirtual 136) kc_94 rfl rfl (a := 29) (as := [.ref (o0 + 9), .int s1, .int s2, .int s3, .int s4, .int (mB s5), .int (M0 (o0 + 7) (ix l5))]) (rest := []) rfl (m_rec (mTw9 go0)) (Cs.deep (c_X2_add hc2) (by decide)) ?_
  refine ev_go kc_94 2 (i' := 34) (L' := [some (.ref o0), some (.int l1), some (.int l2), some (.int l3), some (.int l4), some (.int (l5 + (1 : Int32)))]) (st' := []) (M' := M2) rfl ?_
  obtain rfl := Option.some.inj h
  exact Ev.forget (mLe.kp (mLe.kp (mLe.kp (mLe.kp (mLe.kp (mLe.kp mLe.nl)))))) (hk.1 (l1, (l5 + (1 : Int32)), M2) rfl)
def f_X9_collapse_34 (o0 : Nat) (l1 : Int32) (l2 : Int32) (l3 : Int32) (l4 : Int32) (l5 : Int32) (M0 : mM) : Option (((Int32 × mM) ⊕ (Int32 × Int32 × mM)) ⊕ (Int32 × Int32 × mM)) :=
  bif decide ((8 : Int32) ≤ l5) then (b2 (f_X9_takeDown o0 l4 M0) (fun v4 M4 => wr (mst M4 o0 2 ((M4 o0 2) &&& (l4 ^^^ (-1 : Int32)))) (fun M5 => wr (mst M5 o0 19 l2) (fun M6 => some (.inl (.inr (l1, (l2 + (1 : Int32)), M6))))))) else (bif (f_X11_has l4 l5) then (bif decide ((8 : Int32) ≤ l1) then (some (.inr (l1, (l5 + (1 : Int32)), M0))) else (gd (mIn l1 8) (wr (mst M0 (o0 + 11) (ix l1) l5) (fun M10 => bif (f_X11_has l3 l5) then (f_X9_collapse_65 o0 (l1 + (1 : Int32)) l2 l3 l4 l5 (M10 o0 4) (M10 o0 3) l5 l2 false M10) else (f_X9_collapse_65 o0 (l1 + (1 : Int32)) l2 l3 l4 l5 (M10 o0 4) (M10 o0 3) l5 l2 true M10))))) else (some (.inr (l1, (l5 + (1 : Int32)), M0))))
set_option maxRecDepth 8000 in
theorem e_X9_collapse_34 {o0 : Nat} {l1 : Int32} {l2 : Int32} {l3 : Int32} {l4 : Int32} {l5 : Int32} {M0 : mM} {R : mZ} {out : (((Int32 × mM) ⊕ (Int32 × Int32 × mM)) ⊕ (Int32 × Int32 × mM))} (go0 : mTwB o0 = true) (h : f_X9_collapse_34 o0 l1 l2 l3 l4 l5 M0 = some out) (hk : (∀ s' : Int32 × Int32 × mM, out = .inr s' → Ev (9) 94 34 [some (.ref o0), some (.int s'.1), some (.int l2), some (.int l3), some (.int l4), some (.int s'.2.1)] [] (s'.2.2) R) ∧ (∀ e2 : ((Int32 × mM) ⊕ (Int32 × Int32 × mM)), out = .inl e2 → (∀ s' : Int32 × Int32 × mM, e2 = .inr s' → Ev (9) 94 7 [some (.ref o0), some (.int s'.1), some (.int s'.2.1), none, none, none] [] (s'.2.2) R) ∧ (∀ e1 : (Int32 × mM), e2 = .inl e1 → R = emW eI e1))) : Ev (9) 94 34 [some (.ref o0), some (.int l1), some (.int l2), some (.int l3), some (.int l4), some (.int l5)] [] M0 R := by
  unfold f_X9_collapse_34 at h
  rcases o_bif h with ⟨hb3, h⟩ | ⟨hb3, h⟩
  · refine ev_goT kc_94 3 (t := 72) (e := 37) (L' := [some (.ref o0), some (.int l1), some (.int l2), some (.int l3), some (.int l4), some (.int l5)]) (st' := []) rfl hb3 ?_
    refine ev_go kc_94 2 (i' := 74) (L' := [some (.ref o0), some (.int l1), some (.int l2), some (.int l3), some (.int l4), some (.int l5)]) (st' := [.int l4, .ref o0]) (M' := M0) rfl ?_
    obtain ⟨v4, M4, hc4, h⟩ := o_b2 h
    refine ev_cl0 (ins := .invokevirtual 105) kc_94 rfl rfl (a := 85) (as := [.ref o0, .int l4]) (rest := []) rfl (m_rec (mTw0 go0)) (Cs.deep (c_X9_takeDown hc4) (by decide)) ?_
    refine ev_go kc_94 2 (i' := 77) (L' := [some (.ref o0), some (.int l1), some (.int l2), some (.int l3), some (.int l4), some (.int l5)]) (st' := [.ref o0, .ref o0]) (M' := M4) rfl ?_
    refine ev_gf kc_94 rfl (mTw0 go0) rfl ?_
    refine ev_go kc_94 4 (i' := 82) (L' := [some (.ref o0), some (.int l1), some (.int l2), some (.int l3), some (.int l4), some (.int l5)]) (st' := [.int ((M4 o0 2) &&& (l4 ^^^ (-1 : Int32))), .ref o0]) (M' := M4) rfl ?_
    obtain ⟨M5, hM5, h⟩ := o_wr h
    refine ev_pf kc_94 rfl (mTw0 go0) rfl rfl (fun hc => absurd hc (by decide)) hM5 ?_
    refine ev_go kc_94 2 (i' := 85) (L' := [some (.ref o0), some (.int l1), some (.int l2), some (.int l3), some (.int l4), some (.int l5)]) (st' := [.int l2, .ref o0]) (M' := M5) rfl ?_
    obtain ⟨M6, hM6, h⟩ := o_wr h
    refine ev_pf kc_94 rfl (mTw0 go0) rfl rfl (fun hc => absurd hc (by decide)) hM6 ?_
    refine ev_go kc_94 2 (i' := 7) (L' := [some (.ref o0), some (.int l1), some (.int (l2 + (1 : Int32))), some (.int l3), some (.int l4), some (.int l5)]) (st' := []) (M' := M6) rfl ?_
    obtain rfl := Option.some.inj h
    exact Ev.forget (mLe.kp (mLe.kp (mLe.kp (mLe.sk (mLe.sk (mLe.sk mLe.nl)))))) ((hk.2 _ rfl).1 (l1, (l2 + (1 : Int32)), M6) rfl)
  · refine ev_goF kc_94 3 (t := 72) (e := 37) (L' := [some (.ref o0), some (.int l1), some (.int l2), some (.int l3), some (.int l4), some (.int l5)]) (st' := []) rfl hb3 ?_
    refine ev_go kc_94 2 (i' := 39) (L' := [some (.ref o0), some (.int l1), some (.int l2), some (.int l3), some (.int l4), some (.int l5)]) (st' := [.int l5, .int l4]) (M' := M0) rfl ?_
    refine ev_cl0 (ins := .invokestatic 91) kc_94 rfl rfl (a := 178) (as := [.int l4, .int l5]) (rest := []) rfl rfl (Cs.deep (c_X11_has (M0 := M0)) (by decide)) ?_
    rcases o_bif h with ⟨hb8, h⟩ | ⟨hb8, h⟩
    · refine ev_goF kc_94 1 (t := 70) (e := 41) (L' := [some (.ref o0), some (.int l1), some (.int l2), some (.int l3), some (.int l4), some (.int l5)]) (st' := []) rfl (mB_e0f hb8) ?_
      rcases o_bif h with ⟨hb9, h⟩ | ⟨hb9, h⟩
      · refine ev_goT kc_94 3 (t := 70) (e := 44) (L' := [some (.ref o0), some (.int l1), some (.int l2), some (.int l3), some (.int l4), some (.int l5)]) (st' := []) rfl hb9 ?_
        refine ev_go kc_94 2 (i' := 34) (L' := [some (.ref o0), some (.int l1), some (.int l2), some (.int l3), some (.int l4), some (.int (l5 + (1 : Int32)))]) (st' := []) (M' := M0) rfl ?_
        obtain rfl := Option.some.inj h
        exact Ev.forget (mLe.kp (mLe.kp (mLe.kp (mLe.kp (mLe.kp (mLe.kp mLe.nl)))))) (hk.1 (l1, (l5 + (1 : Int32)), M0) rfl)
      · refine ev_goF kc_94 3 (t := 70) (e := 44) (L' := [some (.ref o0), some (.int l1), some (.int l2), some (.int l3), some (.int l4), some (.int l5)]) (st' := []) rfl hb9 ?_
        refine ev_go kc_94 1 (i' := 45) (L' := [some (.ref o0), some (.int l1), some (.int l2), some (.int l3), some (.int l4), some (.int l5)]) (st' := [.ref o0]) (M' := M0) rfl ?_
        refine ev_gr kc_94 rfl (mTw0 go0) (j := 10) rfl ?_
        refine ev_go kc_94 2 (i' := 48) (L' := [some (.ref o0), some (.int l1), some (.int l2), some (.int l3), some (.int l4), some (.int l5)]) (st' := [.int l5, .int l1, .ref (o0 + 11)]) (M' := M0) rfl ?_
        obtain ⟨hg11, h⟩ := o_gd h
        obtain ⟨M10, hM10, h⟩ := o_wr h
        refine ev_is kc_94 rfl (mTw11 go0) hg11 hM10 ?_
        refine ev_go kc_94 2 (i' := 51) (L' := [some (.ref o0), some (.int (l1 + (1 : Int32))), some (.int l2), some (.int l3), some (.int l4), some (.int l5)]) (st' := [.ref o0]) (M' := M10) rfl ?_
        refine ev_gr kc_94 rfl (mTw0 go0) (j := 8) rfl ?_
        refine ev_go kc_94 1 (i' := 53) (L' := [some (.ref o0), some (.int (l1 + (1 : Int32))), some (.int l2), some (.int l3), some (.int l4), some (.int l5)]) (st' := [.ref o0, .ref (o0 + 9)]) (M' := M10) rfl ?_
        refine ev_gf kc_94 rfl (mTw0 go0) rfl ?_
        refine ev_go kc_94 1 (i' := 55) (L' := [some (.ref o0), some (.int (l1 + (1 : Int32))), some (.int l2), some (.int l3), some (.int l4), some (.int l5)]) (st' := [.ref o0, .int (M10 o0 4), .ref (o0 + 9)]) (M' := M10) rfl ?_
        refine ev_gf kc_94 rfl (mTw0 go0) rfl ?_
        refine ev_go kc_94 4 (i' := 60) (L' := [some (.ref o0), some (.int (l1 + (1 : Int32))), some (.int l2), some (.int l3), some (.int l4), some (.int l5)]) (st' := [.int l5, .int l3, .int l2, .int l5, .int (M10 o0 3), .int (M10 o0 4), .ref (o0 + 9)]) (M' := M10) rfl ?_
        refine ev_cl0 (ins := .invokestatic 91) kc_94 rfl rfl (a := 178) (as := [.int l3, .int l5]) (rest := [.int l2, .int l5, .int (M10 o0 3), .int (M10 o0 4), .ref (o0 + 9)]) rfl rfl (Cs.deep (c_X11_has (M0 := M10)) (by decide)) ?_
        rcases o_bif h with ⟨hb13, h⟩ | ⟨hb13, h⟩
        · refine ev_goF kc_94 1 (t := 64) (e := 62) (L' := [some (.ref o0), some (.int (l1 + (1 : Int32))), some (.int l2), some (.int l3), some (.int l4), some (.int l5)]) (st' := [.int l2, .int l5, .int (M10 o0 3), .int (M10 o0 4), .ref (o0 + 9)]) rfl (mB_e0f hb13) ?_
          refine ev_go kc_94 2 (i' := 65) (L' := [some (.ref o0), some (.int (l1 + (1 : Int32))), some (.int l2), some (.int l3), some (.int l4), some (.int l5)]) (st' := [.int (0 : Int32), .int l2, .int l5, .int (M10 o0 3), .int (M10 o0 4), .ref (o0 + 9)]) (M' := M10) rfl ?_
          exact Ev.forget (mLe.kp (mLe.kp (mLe.kp (mLe.kp (mLe.kp (mLe.kp mLe.nl)))))) (e_X9_collapse_65 go0 h hk)
        · refine ev_goT kc_94 1 (t := 64) (e := 62) (L' := [some (.ref o0), some (.int (l1 + (1 : Int32))), some (.int l2), some (.int l3), some (.int l4), some (.int l5)]) (st' := [.int l2, .int l5, .int (M10 o0 3), .int (M10 o0 4), .ref (o0 + 9)]) rfl (mB_e0t hb13) ?_
          refine ev_go kc_94 1 (i' := 65) (L' := [some (.ref o0), some (.int (l1 + (1 : Int32))), some (.int l2), some (.int l3), some (.int l4), some (.int l5)]) (st' := [.int (1 : Int32), .int l2, .int l5, .int (M10 o0 3), .int (M10 o0 4), .ref (o0 + 9)]) (M' := M10) rfl ?_
          exact Ev.forget (mLe.kp (mLe.kp (mLe.kp (mLe.kp (mLe.kp (mLe.kp mLe.nl)))))) (e_X9_collapse_65 go0 h hk)
    · refine ev_goT kc_94 1 (t := 70) (e := 41) (L' := [some (.ref o0), some (.int l1), some (.int l2), some (.int l3), some (.int l4), some (.int l5)]) (st' := []) rfl (mB_e0t hb8) ?_
      refine ev_go kc_94 2 (i' := 34) (L' := [some (.ref o0), some (.int l1), some (.int l2), some (.int l3), some (.int l4), some (.int (l5 + (1 : Int32)))]) (st' := []) (M' := M0) rfl ?_
      obtain rfl := Option.some.inj h
      exact Ev.forget (mLe.kp (mLe.kp (mLe.kp (mLe.kp (mLe.kp (mLe.kp mLe.nl)))))) (hk.1 (l1, (l5 + (1 : Int32)), M0) rfl)
def f_X9_collapse_l34 (o0 : Nat) (l2 : Int32) (l3 : Int32) (l4 : Int32) (l1 : Int32) (l5 : Int32) (M0 : mM) : Option ((Int32 × mM) ⊕ (Int32 × Int32 × mM)) :=
  wh 100000 (fun s : Int32 × Int32 × mM => f_X9_collapse_34 o0 s.1 l2 l3 l4 s.2.1 s.2.2) (l1, l5, M0)
theorem e_X9_collapse_l34 {o0 : Nat} {l1 : Int32} {l2 : Int32} {l3 : Int32} {l4 : Int32} {l5 : Int32} {M0 : mM} {R : mZ} {out : ((Int32 × mM) ⊕ (Int32 × Int32 × mM))} (go0 : mTwB o0 = true) (h : f_X9_collapse_l34 o0 l2 l3 l4 l1 l5 M0 = some out) (hk : (∀ s' : Int32 × Int32 × mM, out = .inr s' → Ev (9) 94 7 [some (.ref o0), some (.int s'.1), some (.int s'.2.1), none, none, none] [] (s'.2.2) R) ∧ (∀ e1 : (Int32 × mM), out = .inl e1 → R = emW eI e1)) : Ev (9) 94 34 [some (.ref o0), some (.int l1), some (.int l2), some (.int l3), some (.int l4), some (.int l5)] [] M0 R := by
  unfold f_X9_collapse_l34 at h
  exact wh_ev (P := fun s : Int32 × Int32 × mM => Ev (9) 94 34 [some (.ref o0), some (.int s.1), some (.int l2), some (.int l3), some (.int l4), some (.int s.2.1)] [] s.2.2 R) (Q := fun e : ((Int32 × mM) ⊕ (Int32 × Int32 × mM)) => (∀ s' : Int32 × Int32 × mM, e = .inr s' → Ev (9) 94 7 [some (.ref o0), some (.int s'.1), some (.int s'.2.1), none, none, none] [] (s'.2.2) R) ∧ (∀ e1 : (Int32 × mM), e = .inl e1 → R = emW eI e1)) (fun s o hb h1 h2 => e_X9_collapse_34 go0 hb ⟨h1, h2⟩) 100000 _ _ h hk
def f_X9_collapse_7 (o0 : Nat) (l1 : Int32) (l2 : Int32) (M0 : mM) : Option ((Int32 × mM) ⊕ (Int32 × Int32 × mM)) :=
  bif decide ((8 : Int32) < l2) then (b2 (f_X9_settle o0 M0) (fun v15 M15 => some (.inl (l1, M15)))) else (b2 (f_X9_settle o0 M0) (fun v16 M16 => b1 (f_X9_holders o0 M16) (fun v17 => b1 (f_X9_yielding o0 v17 (o0 + 7) M16) (fun v18 => b1 (f_X9_hanging o0 (M16 o0 1) (M16 o0 2) M16) (fun v19 => bif decide (¬ (v18 ||| v19) = 0) then (f_X9_collapse_l34 o0 l2 v18 (v18 ||| v19) l1 (0 : Int32) M16) else (some (.inl (l1, M16))))))))
set_option maxRecDepth 8000 in
theorem e_X9_collapse_7 {o0 : Nat} {l1 : Int32} {l2 : Int32} {M0 : mM} {R : mZ} {out : ((Int32 × mM) ⊕ (Int32 × Int32 × mM))} (go0 : mTwB o0 = true) (h : f_X9_collapse_7 o0 l1 l2 M0 = some out) (hk : (∀ s' : Int32 × Int32 × mM, out = .inr s' → Ev (9) 94 7 [some (.ref o0), some (.int s'.1), some (.int s'.2.1), none, none, none] [] (s'.2.2) R) ∧ (∀ e1 : (Int32 × mM), out = .inl e1 → R = emW eI e1)) : Ev (9) 94 7 [some (.ref o0), some (.int l1), some (.int l2), none, none, none] [] M0 R := by
  unfold f_X9_collapse_7 at h
  rcases o_bif h with ⟨hb14, h⟩ | ⟨hb14, h⟩
  · refine ev_goT kc_94 3 (t := 88) (e := 10) (L' := [some (.ref o0), some (.int l1), some (.int l2), none, none, none]) (st' := []) rfl hb14 ?_
    refine ev_go kc_94 1 (i' := 89) (L' := [some (.ref o0), some (.int l1), some (.int l2), none, none, none]) (st' := [.ref o0]) (M' := M0) rfl ?_
    obtain ⟨v15, M15, hc15, h⟩ := o_b2 h
    refine ev_cl0 (ins := .invokevirtual 129) kc_94 rfl rfl (a := 88) (as := [.ref o0]) (rest := []) rfl (m_rec (mTw0 go0)) (Cs.deep (c_X9_settle hc15) (by decide)) ?_
    refine ev_go kc_94 1 (i' := 91) (L' := [some (.ref o0), some (.int l1), some (.int l2), none, none, none]) (st' := [.int l1]) (M' := M15) rfl ?_
    obtain rfl := Option.some.inj h
    rw [show _ from (hk.2 _ rfl)]
    exact ev_ret kc_94 rfl rfl rfl
  · refine ev_goF kc_94 3 (t := 88) (e := 10) (L' := [some (.ref o0), some (.int l1), some (.int l2), none, none, none]) (st' := []) rfl hb14 ?_
    refine ev_go kc_94 1 (i' := 11) (L' := [some (.ref o0), some (.int l1), some (.int l2), none, none, none]) (st' := [.ref o0]) (M' := M0) rfl ?_
    obtain ⟨v16, M16, hc16, h⟩ := o_b2 h
    refine ev_cl0 (ins := .invokevirtual 129) kc_94 rfl rfl (a := 88) (as := [.ref o0]) (rest := []) rfl (m_rec (mTw0 go0)) (Cs.deep (c_X9_settle hc16) (by decide)) ?_
    refine ev_go kc_94 2 (i' := 14) (L' := [some (.ref o0), some (.int l1), some (.int l2), none, none, none]) (st' := [.ref o0, .ref o0]) (M' := M16) rfl ?_
    obtain ⟨v17, hc17, h⟩ := o_b1 h
    refine ev_cl0 (ins := .invokevirtual 132) kc_94 rfl rfl (a := 76) (as := [.ref o0]) (rest := [.ref o0]) rfl (m_rec (mTw0 go0)) (Cs.deep (c_X9_holders (M0 := M16) hc17) (by decide)) ?_
    refine ev_go kc_94 1 (i' := 16) (L' := [some (.ref o0), some (.int l1), some (.int l2), none, none, none]) (st' := [.ref o0, .int v17, .ref o0]) (M' := M16) rfl ?_
    refine ev_gr kc_94 rfl (mTw0 go0) (j := 6) rfl ?_
    obtain ⟨v18, hc18, h⟩ := o_b1 h
    refine ev_cl0 (ins := .invokevirtual 125) kc_94 rfl rfl (a := 92) (as := [.ref o0, .int v17, .ref (o0 + 7)]) (rest := []) rfl (m_rec (mTw0 go0)) (Cs.deep (c_X9_yielding (M0 := M16) hc18) (by decide)) ?_
    refine ev_go kc_94 4 (i' := 22) (L' := [some (.ref o0), some (.int l1), some (.int l2), some (.int v18), none, none]) (st' := [.ref o0, .ref o0, .int v18]) (M' := M16) rfl ?_
    refine ev_gf kc_94 rfl (mTw0 go0) rfl ?_
    refine ev_go kc_94 1 (i' := 24) (L' := [some (.ref o0), some (.int l1), some (.int l2), some (.int v18), none, none]) (st' := [.ref o0, .int (M16 o0 1), .ref o0, .int v18]) (M' := M16) rfl ?_
    refine ev_gf kc_94 rfl (mTw0 go0) rfl ?_
    obtain ⟨v19, hc19, h⟩ := o_b1 h
    refine ev_cl0 (ins := .invokevirtual 121) kc_94 rfl rfl (a := 91) (as := [.ref o0, .int (M16 o0 1), .int (M16 o0 2)]) (rest := [.int v18]) rfl (m_rec (mTw0 go0)) (Cs.deep (c_X9_hanging (M0 := M16) hc19) (by decide)) ?_
    rcases o_bif h with ⟨hb20, h⟩ | ⟨hb20, h⟩
    · refine ev_goT kc_94 4 (t := 32) (e := 30) (L' := [some (.ref o0), some (.int l1), some (.int l2), some (.int v18), some (.int (v18 ||| v19)), none]) (st' := []) rfl hb20 ?_
      refine ev_go kc_94 2 (i' := 34) (L' := [some (.ref o0), some (.int l1), some (.int l2), some (.int v18), some (.int (v18 ||| v19)), some (.int (0 : Int32))]) (st' := []) (M' := M16) rfl ?_
      exact Ev.forget (mLe.kp (mLe.kp (mLe.kp (mLe.kp (mLe.kp (mLe.kp mLe.nl)))))) (e_X9_collapse_l34 go0 h hk)
    · refine ev_goF kc_94 4 (t := 32) (e := 30) (L' := [some (.ref o0), some (.int l1), some (.int l2), some (.int v18), some (.int (v18 ||| v19)), none]) (st' := []) rfl hb20 ?_
      refine ev_go kc_94 1 (i' := 31) (L' := [some (.ref o0), some (.int l1), some (.int l2), some (.int v18), some (.int (v18 ||| v19)), none]) (st' := [.int l1]) (M' := M16) rfl ?_
      obtain rfl := Option.some.inj h
      rw [show _ from (hk.2 _ rfl)]
      exact ev_ret kc_94 rfl rfl rfl
def f_X9_collapse_l7 (o0 : Nat) (l1 : Int32) (l2 : Int32) (M0 : mM) : Option (Int32 × mM) :=
  wh 100000 (fun s : Int32 × Int32 × mM => f_X9_collapse_7 o0 s.1 s.2.1 s.2.2) (l1, l2, M0)
theorem e_X9_collapse_l7 {o0 : Nat} {l1 : Int32} {l2 : Int32} {M0 : mM} {R : mZ} {out : (Int32 × mM)} (go0 : mTwB o0 = true) (h : f_X9_collapse_l7 o0 l1 l2 M0 = some out) (hk : R = emW eI out) : Ev (9) 94 7 [some (.ref o0), some (.int l1), some (.int l2), none, none, none] [] M0 R := by
  unfold f_X9_collapse_l7 at h
  exact wh_ev (P := fun s : Int32 × Int32 × mM => Ev (9) 94 7 [some (.ref o0), some (.int s.1), some (.int s.2.1), none, none, none] [] s.2.2 R) (Q := fun e : (Int32 × mM) => R = emW eI e) (fun s o hb h1 h2 => e_X9_collapse_7 go0 hb ⟨h1, h2⟩) 100000 _ _ h hk
def f_X9_collapse (o0 : Nat) (M0 : mM) : Option (Int32 × mM) :=
  gd (mTwB o0) (wr (mst M0 o0 19 (0 : Int32)) (fun M21 => f_X9_collapse_l7 o0 (0 : Int32) (1 : Int32) M21))
set_option maxRecDepth 8000 in
theorem c_X9_collapse {o0 : Nat} {M0 : mM} {out : (Int32 × mM)} (h : f_X9_collapse o0 M0 = some out) : Cs (9) 94 [.ref o0] M0 (emW eI out) := by
  generalize hk : emW eI out = R
  replace hk := hk.symm
  unfold f_X9_collapse at h
  obtain ⟨go0, h⟩ := o_gd h
  show Ev (9) 94 0 [some (.ref o0), none, none, none, none, none] [] M0 R
  refine ev_go kc_94 4 (i' := 4) (L' := [some (.ref o0), some (.int (0 : Int32)), none, none, none, none]) (st' := [.int (0 : Int32), .ref o0]) (M' := M0) rfl ?_
  obtain ⟨M21, hM21, h⟩ := o_wr h
  refine ev_pf kc_94 rfl (mTw0 go0) rfl rfl (fun hc => absurd hc (by decide)) hM21 ?_
  refine ev_go kc_94 2 (i' := 7) (L' := [some (.ref o0), some (.int (0 : Int32)), some (.int (1 : Int32)), none, none, none]) (st' := []) (M' := M21) rfl ?_
  exact Ev.forget (mLe.kp (mLe.kp (mLe.kp (mLe.sk (mLe.sk (mLe.sk mLe.nl)))))) (e_X9_collapse_l7 go0 h hk)
/-- WakeTower$Tower.fadeAndMend(LWakeTower$Law;I)V: 97, W -/
theorem kc_97 : mKc 97 = k_X9_fadeAndMend := rfl
def f_X9_fadeAndMend_49 (o0 : Nat) (o1 : Nat) (s1 : Int32) (s2 : Int32) (M0 : mM) : Option (Unit × mM) :=
  gd (mIn s1 8) (wr (mst M0 (o0 + 4) (ix s1) s2) (fun M1 => some ((), M1)))
set_option maxRecDepth 8000 in
theorem e_X9_fadeAndMend_49 {o0 : Nat} {o1 : Nat} {s1 : Int32} {s2 : Int32} {M0 : mM} {R : mZ} {out : (Unit × mM)} (go0 : mTwB o0 = true) (go1 : mLwB o1 = true) (h : f_X9_fadeAndMend_49 o0 o1 s1 s2 M0 = some out) (hk : R = emW eU out) : Ev (10) 97 49 [none, none, none, none, none] [.int s2, .int s1, .ref (o0 + 4)] M0 R := by
  unfold f_X9_fadeAndMend_49 at h
  obtain ⟨hg2, h⟩ := o_gd h
  obtain ⟨M1, hM1, h⟩ := o_wr h
  refine ev_is kc_97 rfl (mTw4 go0) hg2 hM1 ?_
  obtain rfl := Option.some.inj h
  rw [hk]
  exact ev_vret kc_97 rfl rfl rfl
def f_X9_fadeAndMend (o0 : Nat) (o1 : Nat) (p2 : Int32) (M0 : mM) : Option (Unit × mM) :=
  gd (mTwB o0) (gd (mLwB o1) (b2 (f_X0_amountOf o1 (0 : Int32) o0 p2 M0) (fun v3 M3 => b2 (f_X0_amountOf o1 (1 : Int32) o0 p2 M3) (fun v4 M4 => gd (mIn p2 8) (gd (mIn p2 8) (gd (mIn p2 8) (wr (mst M4 (o0 + 3) (ix p2) (mMin (M4 (o0 + 2) (ix p2)) ((mMax (0 : Int32) ((M4 (o0 + 3) (ix p2)) - v3)) + v4))) (fun M7 => b1 (f_X9_holders o0 M7) (fun v9 => bif (f_X11_has v9 p2) then (gd (mIn p2 8) (f_X9_fadeAndMend_49 o0 o1 p2 (mMin (99 : Int32) ((M7 (o0 + 4) (ix p2)) + (1 : Int32))) M7)) else (f_X9_fadeAndMend_49 o0 o1 p2 (0 : Int32) M7))))))))))
set_option maxRecDepth 8000 in
theorem c_X9_fadeAndMend {o0 : Nat} {o1 : Nat} {p2 : Int32} {M0 : mM} {out : (Unit × mM)} (h : f_X9_fadeAndMend o0 o1 p2 M0 = some out) : Cs (10) 97 [.ref o0, .ref o1, .int p2] M0 (emW eU out) := by
  generalize hk : emW eU out = R
  replace hk := hk.symm
  unfold f_X9_fadeAndMend at h
  obtain ⟨go0, h⟩ := o_gd h
  obtain ⟨go1, h⟩ := o_gd h
  show Ev (10) 97 0 [some (.ref o0), some (.ref o1), some (.int p2), none, none] [] M0 R
  refine ev_go kc_97 4 (i' := 4) (L' := [some (.ref o0), some (.ref o1), some (.int p2), none, none]) (st' := [.int p2, .ref o0, .int (0 : Int32), .ref o1]) (M' := M0) rfl ?_
  obtain ⟨v3, M3, hc3, h⟩ := o_b2 h
  refine ev_cl0 (ins := .invokevirtual 162) kc_97 rfl rfl (a := 16) (as := [.ref o1, .int (0 : Int32), .ref o0, .int p2]) (rest := []) rfl (m_rec (mLw0 go1)) (Cs.deep (c_X0_amountOf hc3) (by decide)) ?_
  refine ev_go kc_97 5 (i' := 10) (L' := [some (.ref o0), some (.ref o1), some (.int p2), some (.int v3), none]) (st' := [.int p2, .ref o0, .int (1 : Int32), .ref o1]) (M' := M3) rfl ?_
  obtain ⟨v4, M4, hc4, h⟩ := o_b2 h
  refine ev_cl0 (ins := .invokevirtual 162) kc_97 rfl rfl (a := 16) (as := [.ref o1, .int (1 : Int32), .ref o0, .int p2]) (rest := []) rfl (m_rec (mLw0 go1)) (Cs.deep (c_X0_amountOf hc4) (by decide)) ?_
  refine ev_go kc_97 2 (i' := 13) (L' := [some (.ref o0), some (.ref o1), some (.int p2), some (.int v3), some (.int v4)]) (st' := [.ref o0]) (M' := M4) rfl ?_
  refine ev_gr kc_97 rfl (mTw0 go0) (j := 2) rfl ?_
  refine ev_go kc_97 2 (i' := 16) (L' := [some (.ref o0), some (.ref o1), some (.int p2), some (.int v3), some (.int v4)]) (st' := [.ref o0, .int p2, .ref (o0 + 3)]) (M' := M4) rfl ?_
  refine ev_gr kc_97 rfl (mTw0 go0) (j := 1) rfl ?_
  refine ev_go kc_97 1 (i' := 18) (L' := [some (.ref o0), some (.ref o1), some (.int p2), some (.int v3), some (.int v4)]) (st' := [.int p2, .ref (o0 + 2), .int p2, .ref (o0 + 3)]) (M' := M4) rfl ?_
  obtain ⟨hg5, h⟩ := o_gd h
  refine ev_ia kc_97 rfl (mTw2 go0) hg5 ?_
  refine ev_go kc_97 2 (i' := 21) (L' := [some (.ref o0), some (.ref o1), some (.int p2), some (.int v3), some (.int v4)]) (st' := [.ref o0, .int (0 : Int32), .int (M4 (o0 + 2) (ix p2)), .int p2, .ref (o0 + 3)]) (M' := M4) rfl ?_
  refine ev_gr kc_97 rfl (mTw0 go0) (j := 2) rfl ?_
  refine ev_go kc_97 1 (i' := 23) (L' := [some (.ref o0), some (.ref o1), some (.int p2), some (.int v3), some (.int v4)]) (st' := [.int p2, .ref (o0 + 3), .int (0 : Int32), .int (M4 (o0 + 2) (ix p2)), .int p2, .ref (o0 + 3)]) (M' := M4) rfl ?_
  obtain ⟨hg6, h⟩ := o_gd h
  refine ev_ia kc_97 rfl (mTw3 go0) hg6 ?_
  refine ev_go kc_97 2 (i' := 26) (L' := [some (.ref o0), some (.ref o1), some (.int p2), some (.int v3), some (.int v4)]) (st' := [.int ((M4 (o0 + 3) (ix p2)) - v3), .int (0 : Int32), .int (M4 (o0 + 2) (ix p2)), .int p2, .ref (o0 + 3)]) (M' := M4) rfl ?_
  refine ev_pm kc_97 rfl rfl rfl rfl (as := [.int (0 : Int32), .int ((M4 (o0 + 3) (ix p2)) - v3)]) (rest := [.int (M4 (o0 + 2) (ix p2)), .int p2, .ref (o0 + 3)]) rfl rfl rfl (v := some (mMax (0 : Int32) ((M4 (o0 + 3) (ix p2)) - v3))) rfl ?_
  refine ev_go kc_97 2 (i' := 29) (L' := [some (.ref o0), some (.ref o1), some (.int p2), some (.int v3), some (.int v4)]) (st' := [.int ((mMax (0 : Int32) ((M4 (o0 + 3) (ix p2)) - v3)) + v4), .int (M4 (o0 + 2) (ix p2)), .int p2, .ref (o0 + 3)]) (M' := M4) rfl ?_
  refine ev_pm kc_97 rfl rfl rfl rfl (as := [.int (M4 (o0 + 2) (ix p2)), .int ((mMax (0 : Int32) ((M4 (o0 + 3) (ix p2)) - v3)) + v4)]) (rest := [.int p2, .ref (o0 + 3)]) rfl rfl rfl (v := some (mMin (M4 (o0 + 2) (ix p2)) ((mMax (0 : Int32) ((M4 (o0 + 3) (ix p2)) - v3)) + v4))) rfl ?_
  obtain ⟨hg8, h⟩ := o_gd h
  obtain ⟨M7, hM7, h⟩ := o_wr h
  refine ev_is kc_97 rfl (mTw3 go0) hg8 hM7 ?_
  refine ev_go kc_97 1 (i' := 32) (L' := [some (.ref o0), some (.ref o1), some (.int p2), some (.int v3), some (.int v4)]) (st' := [.ref o0]) (M' := M7) rfl ?_
  refine ev_gr kc_97 rfl (mTw0 go0) (j := 3) rfl ?_
  refine ev_go kc_97 2 (i' := 35) (L' := [some (.ref o0), some (.ref o1), some (.int p2), some (.int v3), some (.int v4)]) (st' := [.ref o0, .int p2, .ref (o0 + 4)]) (M' := M7) rfl ?_
  obtain ⟨v9, hc9, h⟩ := o_b1 h
  refine ev_cl0 (ins := .invokevirtual 132) kc_97 rfl rfl (a := 76) (as := [.ref o0]) (rest := [.int p2, .ref (o0 + 4)]) rfl (m_rec (mTw0 go0)) (Cs.deep (c_X9_holders (M0 := M7) hc9) (by decide)) ?_
  refine ev_go kc_97 1 (i' := 37) (L' := [some (.ref o0), some (.ref o1), some (.int p2), some (.int v3), some (.int v4)]) (st' := [.int p2, .int v9, .int p2, .ref (o0 + 4)]) (M' := M7) rfl ?_
  refine ev_cl0 (ins := .invokestatic 91) kc_97 rfl rfl (a := 178) (as := [.int v9, .int p2]) (rest := [.int p2, .ref (o0 + 4)]) rfl rfl (Cs.deep (c_X11_has (M0 := M7)) (by decide)) ?_
  rcases o_bif h with ⟨hb11, h⟩ | ⟨hb11, h⟩
  · refine ev_goF kc_97 1 (t := 48) (e := 39) (L' := [some (.ref o0), some (.ref o1), some (.int p2), some (.int v3), some (.int v4)]) (st' := [.int p2, .ref (o0 + 4)]) rfl (mB_e0f hb11) ?_
    refine ev_go kc_97 2 (i' := 41) (L' := [some (.ref o0), some (.ref o1), some (.int p2), some (.int v3), some (.int v4)]) (st' := [.ref o0, .int (99 : Int32), .int p2, .ref (o0 + 4)]) (M' := M7) rfl ?_
    refine ev_gr kc_97 rfl (mTw0 go0) (j := 3) rfl ?_
    refine ev_go kc_97 1 (i' := 43) (L' := [some (.ref o0), some (.ref o1), some (.int p2), some (.int v3), some (.int v4)]) (st' := [.int p2, .ref (o0 + 4), .int (99 : Int32), .int p2, .ref (o0 + 4)]) (M' := M7) rfl ?_
    obtain ⟨hg12, h⟩ := o_gd h
    refine ev_ia kc_97 rfl (mTw4 go0) hg12 ?_
    refine ev_go kc_97 2 (i' := 46) (L' := [some (.ref o0), some (.ref o1), some (.int p2), some (.int v3), some (.int v4)]) (st' := [.int ((M7 (o0 + 4) (ix p2)) + (1 : Int32)), .int (99 : Int32), .int p2, .ref (o0 + 4)]) (M' := M7) rfl ?_
    refine ev_pm kc_97 rfl rfl rfl rfl (as := [.int (99 : Int32), .int ((M7 (o0 + 4) (ix p2)) + (1 : Int32))]) (rest := [.int p2, .ref (o0 + 4)]) rfl rfl rfl (v := some (mMin (99 : Int32) ((M7 (o0 + 4) (ix p2)) + (1 : Int32)))) rfl ?_
    refine ev_go kc_97 1 (i' := 49) (L' := [some (.ref o0), some (.ref o1), some (.int p2), some (.int v3), some (.int v4)]) (st' := [.int (mMin (99 : Int32) ((M7 (o0 + 4) (ix p2)) + (1 : Int32))), .int p2, .ref (o0 + 4)]) (M' := M7) rfl ?_
    exact Ev.forget (mLe.sk (mLe.sk (mLe.sk (mLe.sk (mLe.sk mLe.nl))))) (e_X9_fadeAndMend_49 go0 go1 h hk)
  · refine ev_goT kc_97 1 (t := 48) (e := 39) (L' := [some (.ref o0), some (.ref o1), some (.int p2), some (.int v3), some (.int v4)]) (st' := [.int p2, .ref (o0 + 4)]) rfl (mB_e0t hb11) ?_
    refine ev_go kc_97 1 (i' := 49) (L' := [some (.ref o0), some (.ref o1), some (.int p2), some (.int v3), some (.int v4)]) (st' := [.int (0 : Int32), .int p2, .ref (o0 + 4)]) (M' := M7) rfl ?_
    exact Ev.forget (mLe.sk (mLe.sk (mLe.sk (mLe.sk (mLe.sk mLe.nl))))) (e_X9_fadeAndMend_49 go0 go1 h hk)
/-- WakeTower$Tower.draw()I: 99, W -/
theorem kc_99 : mKc 99 = k_X9_draw := rfl
def f_X9_draw (o0 : Nat) (M0 : mM) : Option (Int32 × mM) :=
  gd (mTwB o0) (wr (mst M0 o0 6 (((1103515245 : Int32) * (M0 o0 6)) + (12345 : Int32))) (fun M1 => some (((ushr (M1 o0 6) (16 : Int32)) &&& (32767 : Int32)), M1)))
set_option maxRecDepth 8000 in
theorem c_X9_draw {o0 : Nat} {M0 : mM} {out : (Int32 × mM)} (h : f_X9_draw o0 M0 = some out) : Cs (0) 99 [.ref o0] M0 (emW eI out) := by
  generalize hk : emW eI out = R
  replace hk := hk.symm
  unfold f_X9_draw at h
  obtain ⟨go0, h⟩ := o_gd h
  show Ev (0) 99 0 [some (.ref o0)] [] M0 R
  refine ev_go kc_99 3 (i' := 3) (L' := [some (.ref o0)]) (st' := [.ref o0, .int (1103515245 : Int32), .ref o0]) (M' := M0) rfl ?_
  refine ev_gf kc_99 rfl (mTw0 go0) rfl ?_
  refine ev_go kc_99 3 (i' := 7) (L' := [some (.ref o0)]) (st' := [.int (((1103515245 : Int32) * (M0 o0 6)) + (12345 : Int32)), .ref o0]) (M' := M0) rfl ?_
  obtain ⟨M1, hM1, h⟩ := o_wr h
  refine ev_pf kc_99 rfl (mTw0 go0) rfl rfl (fun hc => absurd hc (by decide)) hM1 ?_
  refine ev_go kc_99 1 (i' := 9) (L' := [some (.ref o0)]) (st' := [.ref o0]) (M' := M1) rfl ?_
  refine ev_gf kc_99 rfl (mTw0 go0) rfl ?_
  refine ev_go kc_99 4 (i' := 14) (L' := [some (.ref o0)]) (st' := [.int ((ushr (M1 o0 6) (16 : Int32)) &&& (32767 : Int32))]) (M' := M1) rfl ?_
  obtain rfl := Option.some.inj h
  rw [hk]
  exact ev_ret kc_99 rfl rfl rfl
/-- WakeTower$Tower.drawSleep(LWakeTower$Law;)V: 98, W -/
theorem kc_98 : mKc 98 = k_X9_drawSleep := rfl
def f_X9_drawSleep_2 (o0 : Nat) (o1 : Nat) (l2 : Int32) (M0 : mM) : Option ((Unit × mM) ⊕ (Int32 × mM)) :=
  bif decide ((8 : Int32) ≤ l2) then (some (.inl ((), M0))) else (b1 (f_X9_holders o0 M0) (fun v2 => bif (f_X11_has v2 l2) then (b2 (f_X9_draw o0 M0) (fun v5 M5 => b2 (f_X0_amountOf o1 (2 : Int32) o0 l2 M5) (fun v6 M6 => bif decide (v6 ≤ (rmd v5 (100 : Int32))) then (some (.inr ((l2 + (1 : Int32)), M6))) else (wr (mst M6 o0 2 ((M6 o0 2) ||| (f_X11_bit l2))) (fun M9 => b2 (f_X9_settle o0 M9) (fun v10 M10 => some (.inr ((l2 + (1 : Int32)), M10)))))))) else (some (.inr ((l2 + (1 : Int32)), M0)))))
set_option maxRecDepth 8000 in
theorem e_X9_drawSleep_2 {o0 : Nat} {o1 : Nat} {l2 : Int32} {M0 : mM} {R : mZ} {out : ((Unit × mM) ⊕ (Int32 × mM))} (go0 : mTwB o0 = true) (go1 : mLwB o1 = true) (h : f_X9_drawSleep_2 o0 o1 l2 M0 = some out) (hk : (∀ s' : Int32 × mM, out = .inr s' → Ev (10) 98 2 [some (.ref o0), some (.ref o1), some (.int s'.1)] [] (s'.2) R) ∧ (∀ e1 : (Unit × mM), out = .inl e1 → R = emW eU e1)) : Ev (10) 98 2 [some (.ref o0), some (.ref o1), some (.int l2)] [] M0 R := by
  unfold f_X9_drawSleep_2 at h
  rcases o_bif h with ⟨hb1, h⟩ | ⟨hb1, h⟩
  · refine ev_goT kc_98 3 (t := 31) (e := 5) (L' := [some (.ref o0), some (.ref o1), some (.int l2)]) (st' := []) rfl hb1 ?_
    obtain rfl := Option.some.inj h
    rw [show _ from (hk.2 _ rfl)]
    exact ev_vret kc_98 rfl rfl rfl
  · refine ev_goF kc_98 3 (t := 31) (e := 5) (L' := [some (.ref o0), some (.ref o1), some (.int l2)]) (st' := []) rfl hb1 ?_
    refine ev_go kc_98 1 (i' := 6) (L' := [some (.ref o0), some (.ref o1), some (.int l2)]) (st' := [.ref o0]) (M' := M0) rfl ?_
    obtain ⟨v2, hc2, h⟩ := o_b1 h
    refine ev_cl0 (ins := .invokevirtual 132) kc_98 rfl rfl (a := 76) (as := [.ref o0]) (rest := []) rfl (m_rec (mTw0 go0)) (Cs.deep (c_X9_holders (M0 := M0) hc2) (by decide)) ?_
    refine ev_go kc_98 1 (i' := 8) (L' := [some (.ref o0), some (.ref o1), some (.int l2)]) (st' := [.int l2, .int v2]) (M' := M0) rfl ?_
    refine ev_cl0 (ins := .invokestatic 91) kc_98 rfl rfl (a := 178) (as := [.int v2, .int l2]) (rest := []) rfl rfl (Cs.deep (c_X11_has (M0 := M0)) (by decide)) ?_
    rcases o_bif h with ⟨hb4, h⟩ | ⟨hb4, h⟩
    · refine ev_goF kc_98 1 (t := 29) (e := 10) (L' := [some (.ref o0), some (.ref o1), some (.int l2)]) (st' := []) rfl (mB_e0f hb4) ?_
      refine ev_go kc_98 1 (i' := 11) (L' := [some (.ref o0), some (.ref o1), some (.int l2)]) (st' := [.ref o0]) (M' := M0) rfl ?_
      obtain ⟨v5, M5, hc5, h⟩ := o_b2 h
      refine ev_cl0 (ins := .invokevirtual 169) kc_98 rfl rfl (a := 99) (as := [.ref o0]) (rest := []) rfl (m_rec (mTw0 go0)) (Cs.deep (c_X9_draw hc5) (by decide)) ?_
      refine ev_go kc_98 6 (i' := 18) (L' := [some (.ref o0), some (.ref o1), some (.int l2)]) (st' := [.int l2, .ref o0, .int (2 : Int32), .ref o1, .int (rmd v5 (100 : Int32))]) (M' := M5) rfl ?_
      obtain ⟨v6, M6, hc6, h⟩ := o_b2 h
      refine ev_cl0 (ins := .invokevirtual 162) kc_98 rfl rfl (a := 16) (as := [.ref o1, .int (2 : Int32), .ref o0, .int l2]) (rest := [.int (rmd v5 (100 : Int32))]) rfl (m_rec (mLw0 go1)) (Cs.deep (c_X0_amountOf hc6) (by decide)) ?_
      rcases o_bif h with ⟨hb7, h⟩ | ⟨hb7, h⟩
      · refine ev_goT kc_98 1 (t := 29) (e := 20) (L' := [some (.ref o0), some (.ref o1), some (.int l2)]) (st' := []) rfl hb7 ?_
        refine ev_go kc_98 2 (i' := 2) (L' := [some (.ref o0), some (.ref o1), some (.int (l2 + (1 : Int32)))]) (st' := []) (M' := M6) rfl ?_
        obtain rfl := Option.some.inj h
        exact Ev.forget (mLe.kp (mLe.kp (mLe.kp mLe.nl))) (hk.1 ((l2 + (1 : Int32)), M6) rfl)
      · refine ev_goF kc_98 1 (t := 29) (e := 20) (L' := [some (.ref o0), some (.ref o1), some (.int l2)]) (st' := []) rfl hb7 ?_
        refine ev_go kc_98 2 (i' := 22) (L' := [some (.ref o0), some (.ref o1), some (.int l2)]) (st' := [.ref o0, .ref o0]) (M' := M6) rfl ?_
        refine ev_gf kc_98 rfl (mTw0 go0) rfl ?_
        refine ev_go kc_98 1 (i' := 24) (L' := [some (.ref o0), some (.ref o1), some (.int l2)]) (st' := [.int l2, .int (M6 o0 2), .ref o0]) (M' := M6) rfl ?_
        refine ev_cl0 (ins := .invokestatic 87) kc_98 rfl rfl (a := 177) (as := [.int l2]) (rest := [.int (M6 o0 2), .ref o0]) rfl rfl (Cs.deep (c_X11_bit (M0 := M6)) (by decide)) ?_
        refine ev_go kc_98 1 (i' := 26) (L' := [some (.ref o0), some (.ref o1), some (.int l2)]) (st' := [.int ((M6 o0 2) ||| (f_X11_bit l2)), .ref o0]) (M' := M6) rfl ?_
        obtain ⟨M9, hM9, h⟩ := o_wr h
        refine ev_pf kc_98 rfl (mTw0 go0) rfl rfl (fun hc => absurd hc (by decide)) hM9 ?_
        refine ev_go kc_98 1 (i' := 28) (L' := [some (.ref o0), some (.ref o1), some (.int l2)]) (st' := [.ref o0]) (M' := M9) rfl ?_
        obtain ⟨v10, M10, hc10, h⟩ := o_b2 h
        refine ev_cl0 (ins := .invokevirtual 129) kc_98 rfl rfl (a := 88) (as := [.ref o0]) (rest := []) rfl (m_rec (mTw0 go0)) (Cs.deep (c_X9_settle hc10) (by decide)) ?_
        refine ev_go kc_98 2 (i' := 2) (L' := [some (.ref o0), some (.ref o1), some (.int (l2 + (1 : Int32)))]) (st' := []) (M' := M10) rfl ?_
        obtain rfl := Option.some.inj h
        exact Ev.forget (mLe.kp (mLe.kp (mLe.kp mLe.nl))) (hk.1 ((l2 + (1 : Int32)), M10) rfl)
    · refine ev_goT kc_98 1 (t := 29) (e := 10) (L' := [some (.ref o0), some (.ref o1), some (.int l2)]) (st' := []) rfl (mB_e0t hb4) ?_
      refine ev_go kc_98 2 (i' := 2) (L' := [some (.ref o0), some (.ref o1), some (.int (l2 + (1 : Int32)))]) (st' := []) (M' := M0) rfl ?_
      obtain rfl := Option.some.inj h
      exact Ev.forget (mLe.kp (mLe.kp (mLe.kp mLe.nl))) (hk.1 ((l2 + (1 : Int32)), M0) rfl)
def f_X9_drawSleep_l2 (o0 : Nat) (o1 : Nat) (l2 : Int32) (M0 : mM) : Option (Unit × mM) :=
  wh 100000 (fun s : Int32 × mM => f_X9_drawSleep_2 o0 o1 s.1 s.2) (l2, M0)
theorem e_X9_drawSleep_l2 {o0 : Nat} {o1 : Nat} {l2 : Int32} {M0 : mM} {R : mZ} {out : (Unit × mM)} (go0 : mTwB o0 = true) (go1 : mLwB o1 = true) (h : f_X9_drawSleep_l2 o0 o1 l2 M0 = some out) (hk : R = emW eU out) : Ev (10) 98 2 [some (.ref o0), some (.ref o1), some (.int l2)] [] M0 R := by
  unfold f_X9_drawSleep_l2 at h
  exact wh_ev (P := fun s : Int32 × mM => Ev (10) 98 2 [some (.ref o0), some (.ref o1), some (.int s.1)] [] s.2 R) (Q := fun e : (Unit × mM) => R = emW eU e) (fun s o hb h1 h2 => e_X9_drawSleep_2 go0 go1 hb ⟨h1, h2⟩) 100000 _ _ h hk
def f_X9_drawSleep (o0 : Nat) (o1 : Nat) (M0 : mM) : Option (Unit × mM) :=
  gd (mTwB o0) (gd (mLwB o1) (f_X9_drawSleep_l2 o0 o1 (0 : Int32) M0))
set_option maxRecDepth 8000 in
theorem c_X9_drawSleep {o0 : Nat} {o1 : Nat} {M0 : mM} {out : (Unit × mM)} (h : f_X9_drawSleep o0 o1 M0 = some out) : Cs (10) 98 [.ref o0, .ref o1] M0 (emW eU out) := by
  generalize hk : emW eU out = R
  replace hk := hk.symm
  unfold f_X9_drawSleep at h
  obtain ⟨go0, h⟩ := o_gd h
  obtain ⟨go1, h⟩ := o_gd h
  show Ev (10) 98 0 [some (.ref o0), some (.ref o1), none] [] M0 R
  refine ev_go kc_98 2 (i' := 2) (L' := [some (.ref o0), some (.ref o1), some (.int (0 : Int32))]) (st' := []) (M' := M0) rfl ?_
  exact Ev.forget (mLe.kp (mLe.kp (mLe.kp mLe.nl))) (e_X9_drawSleep_l2 go0 go1 h hk)
/-- WakeTower$Tower.passHour(LWakeTower$Law;Z)I: 96, W -/
theorem kc_96 : mKc 96 = k_X9_passHour := rfl
def f_X9_passHour_20 (o0 : Nat) (o1 : Nat) (M0 : mM) : Option (Int32 × mM) :=
  b2 (f_X9_collapse o0 M0) (fun v1 M1 => wr (mst M1 o0 3 ((M1 o0 3) + (1 : Int32))) (fun M2 => bif decide ((M2 o0 3) < (24 : Int32)) then (some (v1, M2)) else (wr (mst M2 o0 3 (0 : Int32)) (fun M4 => wr (mst M4 o0 4 (mMin (9999 : Int32) ((M4 o0 4) + (1 : Int32)))) (fun M5 => some (v1, M5))))))
set_option maxRecDepth 8000 in
theorem e_X9_passHour_20 {o0 : Nat} {o1 : Nat} {M0 : mM} {R : mZ} {out : (Int32 × mM)} (go0 : mTwB o0 = true) (go1 : mLwB o1 = true) (h : f_X9_passHour_20 o0 o1 M0 = some out) (hk : R = emW eI out) : Ev (11) 96 20 [some (.ref o0), none, none, none] [] M0 R := by
  unfold f_X9_passHour_20 at h
  refine ev_go kc_96 1 (i' := 21) (L' := [some (.ref o0), none, none, none]) (st' := [.ref o0]) (M' := M0) rfl ?_
  obtain ⟨v1, M1, hc1, h⟩ := o_b2 h
  refine ev_cl0 (ins := .invokevirtual 152) kc_96 rfl rfl (a := 94) (as := [.ref o0]) (rest := []) rfl (m_rec (mTw0 go0)) (Cs.deep (c_X9_collapse hc1) (by decide)) ?_
  refine ev_go kc_96 3 (i' := 25) (L' := [some (.ref o0), none, none, some (.int v1)]) (st' := [.ref o0, .ref o0]) (M' := M1) rfl ?_
  refine ev_gf kc_96 rfl (mTw0 go0) rfl ?_
  refine ev_go kc_96 2 (i' := 28) (L' := [some (.ref o0), none, none, some (.int v1)]) (st' := [.int ((M1 o0 3) + (1 : Int32)), .ref o0]) (M' := M1) rfl ?_
  obtain ⟨M2, hM2, h⟩ := o_wr h
  refine ev_pf kc_96 rfl (mTw0 go0) rfl rfl (fun hc => absurd hc (by decide)) hM2 ?_
  refine ev_go kc_96 1 (i' := 30) (L' := [some (.ref o0), none, none, some (.int v1)]) (st' := [.ref o0]) (M' := M2) rfl ?_
  refine ev_gf kc_96 rfl (mTw0 go0) rfl ?_
  rcases o_bif h with ⟨hb3, h⟩ | ⟨hb3, h⟩
  · refine ev_goT kc_96 2 (t := 44) (e := 33) (L' := [some (.ref o0), none, none, some (.int v1)]) (st' := []) rfl hb3 ?_
    refine ev_go kc_96 1 (i' := 45) (L' := [some (.ref o0), none, none, some (.int v1)]) (st' := [.int v1]) (M' := M2) rfl ?_
    obtain rfl := Option.some.inj h
    rw [hk]
    exact ev_ret kc_96 rfl rfl rfl
  · refine ev_goF kc_96 2 (t := 44) (e := 33) (L' := [some (.ref o0), none, none, some (.int v1)]) (st' := []) rfl hb3 ?_
    refine ev_go kc_96 2 (i' := 35) (L' := [some (.ref o0), none, none, some (.int v1)]) (st' := [.int (0 : Int32), .ref o0]) (M' := M2) rfl ?_
    obtain ⟨M4, hM4, h⟩ := o_wr h
    refine ev_pf kc_96 rfl (mTw0 go0) rfl rfl (fun hc => absurd hc (by decide)) hM4 ?_
    refine ev_go kc_96 3 (i' := 39) (L' := [some (.ref o0), none, none, some (.int v1)]) (st' := [.ref o0, .int (9999 : Int32), .ref o0]) (M' := M4) rfl ?_
    refine ev_gf kc_96 rfl (mTw0 go0) rfl ?_
    refine ev_go kc_96 2 (i' := 42) (L' := [some (.ref o0), none, none, some (.int v1)]) (st' := [.int ((M4 o0 4) + (1 : Int32)), .int (9999 : Int32), .ref o0]) (M' := M4) rfl ?_
    refine ev_pm kc_96 rfl rfl rfl rfl (as := [.int (9999 : Int32), .int ((M4 o0 4) + (1 : Int32))]) (rest := [.ref o0]) rfl rfl rfl (v := some (mMin (9999 : Int32) ((M4 o0 4) + (1 : Int32)))) rfl ?_
    obtain ⟨M5, hM5, h⟩ := o_wr h
    refine ev_pf kc_96 rfl (mTw0 go0) rfl rfl (fun hc => absurd hc (by decide)) hM5 ?_
    refine ev_go kc_96 1 (i' := 45) (L' := [some (.ref o0), none, none, some (.int v1)]) (st' := [.int v1]) (M' := M5) rfl ?_
    obtain rfl := Option.some.inj h
    rw [hk]
    exact ev_ret kc_96 rfl rfl rfl
def f_X9_passHour_2 (o0 : Nat) (o1 : Nat) (l2 : Bool) (l3 : Int32) (M0 : mM) : Option ((Int32 × mM) ⊕ (Int32 × mM)) :=
  bif decide ((8 : Int32) ≤ l3) then (bif l2 then (b2 (f_X9_drawSleep o0 o1 M0) (fun v8 M8 => b1 (f_X9_passHour_20 o0 o1 M8) (fun r9 => some (.inl r9)))) else (b1 (f_X9_passHour_20 o0 o1 M0) (fun r10 => some (.inl r10)))) else (bif decide ((M0 o0 0) ≤ l3) then (some (.inr ((l3 + (1 : Int32)), M0))) else (b2 (f_X9_fadeAndMend o0 o1 l3 M0) (fun v12 M12 => some (.inr ((l3 + (1 : Int32)), M12)))))
set_option maxRecDepth 8000 in
theorem e_X9_passHour_2 {o0 : Nat} {o1 : Nat} {l2 : Bool} {l3 : Int32} {M0 : mM} {R : mZ} {out : ((Int32 × mM) ⊕ (Int32 × mM))} (go0 : mTwB o0 = true) (go1 : mLwB o1 = true) (h : f_X9_passHour_2 o0 o1 l2 l3 M0 = some out) (hk : (∀ s' : Int32 × mM, out = .inr s' → Ev (11) 96 2 [some (.ref o0), some (.ref o1), some (.int (mB l2)), some (.int s'.1)] [] (s'.2) R) ∧ (∀ e1 : (Int32 × mM), out = .inl e1 → R = emW eI e1)) : Ev (11) 96 2 [some (.ref o0), some (.ref o1), some (.int (mB l2)), some (.int l3)] [] M0 R := by
  unfold f_X9_passHour_2 at h
  rcases o_bif h with ⟨hb6, h⟩ | ⟨hb6, h⟩
  · refine ev_goT kc_96 3 (t := 15) (e := 5) (L' := [some (.ref o0), some (.ref o1), some (.int (mB l2)), some (.int l3)]) (st' := []) rfl hb6 ?_
    rcases o_bif h with ⟨hb7, h⟩ | ⟨hb7, h⟩
    · refine ev_goF kc_96 2 (t := 20) (e := 17) (L' := [some (.ref o0), some (.ref o1), some (.int (mB l2)), some (.int l3)]) (st' := []) rfl (mB_e0f hb7) ?_
      refine ev_go kc_96 2 (i' := 19) (L' := [some (.ref o0), some (.ref o1), some (.int (mB l2)), some (.int l3)]) (st' := [.ref o1, .ref o0]) (M' := M0) rfl ?_
      obtain ⟨v8, M8, hc8, h⟩ := o_b2 h
      refine ev_cl0 (ins := .invokevirtual 148) kc_96 rfl rfl (a := 98) (as := [.ref o0, .ref o1]) (rest := []) rfl (m_rec (mTw0 go0)) (Cs.deep (c_X9_drawSleep hc8) (by decide)) ?_
      obtain ⟨r9, hr9, h⟩ := o_b1 h
      obtain rfl := Option.some.inj h
      exact Ev.forget (mLe.kp (mLe.sk (mLe.sk (mLe.sk mLe.nl)))) (e_X9_passHour_20 go0 go1 hr9 (hk.2 _ rfl))
    · refine ev_goT kc_96 2 (t := 20) (e := 17) (L' := [some (.ref o0), some (.ref o1), some (.int (mB l2)), some (.int l3)]) (st' := []) rfl (mB_e0t hb7) ?_
      obtain ⟨r10, hr10, h⟩ := o_b1 h
      obtain rfl := Option.some.inj h
      exact Ev.forget (mLe.kp (mLe.sk (mLe.sk (mLe.sk mLe.nl)))) (e_X9_passHour_20 go0 go1 hr10 (hk.2 _ rfl))
  · refine ev_goF kc_96 3 (t := 15) (e := 5) (L' := [some (.ref o0), some (.ref o1), some (.int (mB l2)), some (.int l3)]) (st' := []) rfl hb6 ?_
    refine ev_go kc_96 2 (i' := 7) (L' := [some (.ref o0), some (.ref o1), some (.int (mB l2)), some (.int l3)]) (st' := [.ref o0, .int l3]) (M' := M0) rfl ?_
    refine ev_gf kc_96 rfl (mTw0 go0) rfl ?_
    rcases o_bif h with ⟨hb11, h⟩ | ⟨hb11, h⟩
    · refine ev_goT kc_96 1 (t := 13) (e := 9) (L' := [some (.ref o0), some (.ref o1), some (.int (mB l2)), some (.int l3)]) (st' := []) rfl hb11 ?_
      refine ev_go kc_96 2 (i' := 2) (L' := [some (.ref o0), some (.ref o1), some (.int (mB l2)), some (.int (l3 + (1 : Int32)))]) (st' := []) (M' := M0) rfl ?_
      obtain rfl := Option.some.inj h
      exact Ev.forget (mLe.kp (mLe.kp (mLe.kp (mLe.kp mLe.nl)))) (hk.1 ((l3 + (1 : Int32)), M0) rfl)
    · refine ev_goF kc_96 1 (t := 13) (e := 9) (L' := [some (.ref o0), some (.ref o1), some (.int (mB l2)), some (.int l3)]) (st' := []) rfl hb11 ?_
      refine ev_go kc_96 3 (i' := 12) (L' := [some (.ref o0), some (.ref o1), some (.int (mB l2)), some (.int l3)]) (st' := [.int l3, .ref o1, .ref o0]) (M' := M0) rfl ?_
      obtain ⟨v12, M12, hc12, h⟩ := o_b2 h
      refine ev_cl0 (ins := .invokevirtual 144) kc_96 rfl rfl (a := 97) (as := [.ref o0, .ref o1, .int l3]) (rest := []) rfl (m_rec (mTw0 go0)) (Cs.deep (c_X9_fadeAndMend hc12) (by decide)) ?_
      refine ev_go kc_96 2 (i' := 2) (L' := [some (.ref o0), some (.ref o1), some (.int (mB l2)), some (.int (l3 + (1 : Int32)))]) (st' := []) (M' := M12) rfl ?_
      obtain rfl := Option.some.inj h
      exact Ev.forget (mLe.kp (mLe.kp (mLe.kp (mLe.kp mLe.nl)))) (hk.1 ((l3 + (1 : Int32)), M12) rfl)
def f_X9_passHour_l2 (o0 : Nat) (o1 : Nat) (l2 : Bool) (l3 : Int32) (M0 : mM) : Option (Int32 × mM) :=
  wh 100000 (fun s : Int32 × mM => f_X9_passHour_2 o0 o1 l2 s.1 s.2) (l3, M0)
theorem e_X9_passHour_l2 {o0 : Nat} {o1 : Nat} {l2 : Bool} {l3 : Int32} {M0 : mM} {R : mZ} {out : (Int32 × mM)} (go0 : mTwB o0 = true) (go1 : mLwB o1 = true) (h : f_X9_passHour_l2 o0 o1 l2 l3 M0 = some out) (hk : R = emW eI out) : Ev (11) 96 2 [some (.ref o0), some (.ref o1), some (.int (mB l2)), some (.int l3)] [] M0 R := by
  unfold f_X9_passHour_l2 at h
  exact wh_ev (P := fun s : Int32 × mM => Ev (11) 96 2 [some (.ref o0), some (.ref o1), some (.int (mB l2)), some (.int s.1)] [] s.2 R) (Q := fun e : (Int32 × mM) => R = emW eI e) (fun s o hb h1 h2 => e_X9_passHour_2 go0 go1 hb ⟨h1, h2⟩) 100000 _ _ h hk
def f_X9_passHour (o0 : Nat) (o1 : Nat) (p2 : Bool) (M0 : mM) : Option (Int32 × mM) :=
  gd (mTwB o0) (gd (mLwB o1) (f_X9_passHour_l2 o0 o1 p2 (0 : Int32) M0))
set_option maxRecDepth 8000 in
theorem c_X9_passHour {o0 : Nat} {o1 : Nat} {p2 : Bool} {M0 : mM} {out : (Int32 × mM)} (h : f_X9_passHour o0 o1 p2 M0 = some out) : Cs (11) 96 [.ref o0, .ref o1, .int (mB p2)] M0 (emW eI out) := by
  generalize hk : emW eI out = R
  replace hk := hk.symm
  unfold f_X9_passHour at h
  obtain ⟨go0, h⟩ := o_gd h
  obtain ⟨go1, h⟩ := o_gd h
  show Ev (11) 96 0 [some (.ref o0), some (.ref o1), some (.int (mB p2)), none] [] M0 R
  refine ev_go kc_96 2 (i' := 2) (L' := [some (.ref o0), some (.ref o1), some (.int (mB p2)), some (.int (0 : Int32))]) (st' := []) (M' := M0) rfl ?_
  exact Ev.forget (mLe.kp (mLe.kp (mLe.kp (mLe.kp mLe.nl)))) (e_X9_passHour_l2 go0 go1 h hk)
/-- WakeTower$Tower.passHours(LWakeTower$Law;IZ)I: 95, W -/
theorem kc_95 : mKc 95 = k_X9_passHours := rfl
def f_X9_passHours_4 (o0 : Nat) (o1 : Nat) (l2 : Int32) (l3 : Bool) (l4 : Int32) (l5 : Int32) (M0 : mM) : Option ((Int32 × mM) ⊕ (Int32 × Int32 × mM)) :=
  bif decide (l2 ≤ l5) then (some (.inl (l4, M0))) else (bif decide ((60 : Int32) ≤ l5) then (some (.inl (l4, M0))) else (b2 (f_X9_passHour o0 o1 l3 M0) (fun v3 M3 => some (.inr ((l4 + v3), (l5 + (1 : Int32)), M3)))))
set_option maxRecDepth 8000 in
theorem e_X9_passHours_4 {o0 : Nat} {o1 : Nat} {l2 : Int32} {l3 : Bool} {l4 : Int32} {l5 : Int32} {M0 : mM} {R : mZ} {out : ((Int32 × mM) ⊕ (Int32 × Int32 × mM))} (go0 : mTwB o0 = true) (go1 : mLwB o1 = true) (h : f_X9_passHours_4 o0 o1 l2 l3 l4 l5 M0 = some out) (hk : (∀ s' : Int32 × Int32 × mM, out = .inr s' → Ev (12) 95 4 [some (.ref o0), some (.ref o1), some (.int l2), some (.int (mB l3)), some (.int s'.1), some (.int s'.2.1)] [] (s'.2.2) R) ∧ (∀ e1 : (Int32 × mM), out = .inl e1 → R = emW eI e1)) : Ev (12) 95 4 [some (.ref o0), some (.ref o1), some (.int l2), some (.int (mB l3)), some (.int l4), some (.int l5)] [] M0 R := by
  unfold f_X9_passHours_4 at h
  rcases o_bif h with ⟨hb1, h⟩ | ⟨hb1, h⟩
  · refine ev_goT kc_95 3 (t := 19) (e := 7) (L' := [some (.ref o0), some (.ref o1), some (.int l2), some (.int (mB l3)), some (.int l4), some (.int l5)]) (st' := []) rfl hb1 ?_
    refine ev_go kc_95 1 (i' := 20) (L' := [some (.ref o0), some (.ref o1), some (.int l2), some (.int (mB l3)), some (.int l4), some (.int l5)]) (st' := [.int l4]) (M' := M0) rfl ?_
    obtain rfl := Option.some.inj h
    rw [show _ from (hk.2 _ rfl)]
    exact ev_ret kc_95 rfl rfl rfl
  · refine ev_goF kc_95 3 (t := 19) (e := 7) (L' := [some (.ref o0), some (.ref o1), some (.int l2), some (.int (mB l3)), some (.int l4), some (.int l5)]) (st' := []) rfl hb1 ?_
    rcases o_bif h with ⟨hb2, h⟩ | ⟨hb2, h⟩
    · refine ev_goT kc_95 3 (t := 19) (e := 10) (L' := [some (.ref o0), some (.ref o1), some (.int l2), some (.int (mB l3)), some (.int l4), some (.int l5)]) (st' := []) rfl hb2 ?_
      refine ev_go kc_95 1 (i' := 20) (L' := [some (.ref o0), some (.ref o1), some (.int l2), some (.int (mB l3)), some (.int l4), some (.int l5)]) (st' := [.int l4]) (M' := M0) rfl ?_
      obtain rfl := Option.some.inj h
      rw [show _ from (hk.2 _ rfl)]
      exact ev_ret kc_95 rfl rfl rfl
    · refine ev_goF kc_95 3 (t := 19) (e := 10) (L' := [some (.ref o0), some (.ref o1), some (.int l2), some (.int (mB l3)), some (.int l4), some (.int l5)]) (st' := []) rfl hb2 ?_
      refine ev_go kc_95 4 (i' := 14) (L' := [some (.ref o0), some (.ref o1), some (.int l2), some (.int (mB l3)), some (.int l4), some (.int l5)]) (st' := [.int (mB l3), .ref o1, .ref o0, .int l4]) (M' := M0) rfl ?_
      obtain ⟨v3, M3, hc3, h⟩ := o_b2 h
      refine ev_cl0 (ins := .invokevirtual 140) kc_95 rfl rfl (a := 96) (as := [.ref o0, .ref o1, .int (mB l3)]) (rest := [.int l4]) rfl (m_rec (mTw0 go0)) (Cs.deep (c_X9_passHour hc3) (by decide)) ?_
      refine ev_go kc_95 4 (i' := 4) (L' := [some (.ref o0), some (.ref o1), some (.int l2), some (.int (mB l3)), some (.int (l4 + v3)), some (.int (l5 + (1 : Int32)))]) (st' := []) (M' := M3) rfl ?_
      obtain rfl := Option.some.inj h
      exact Ev.forget (mLe.kp (mLe.kp (mLe.kp (mLe.kp (mLe.kp (mLe.kp mLe.nl)))))) (hk.1 ((l4 + v3), (l5 + (1 : Int32)), M3) rfl)
def f_X9_passHours_l4 (o0 : Nat) (o1 : Nat) (l2 : Int32) (l3 : Bool) (l4 : Int32) (l5 : Int32) (M0 : mM) : Option (Int32 × mM) :=
  wh 100000 (fun s : Int32 × Int32 × mM => f_X9_passHours_4 o0 o1 l2 l3 s.1 s.2.1 s.2.2) (l4, l5, M0)
theorem e_X9_passHours_l4 {o0 : Nat} {o1 : Nat} {l2 : Int32} {l3 : Bool} {l4 : Int32} {l5 : Int32} {M0 : mM} {R : mZ} {out : (Int32 × mM)} (go0 : mTwB o0 = true) (go1 : mLwB o1 = true) (h : f_X9_passHours_l4 o0 o1 l2 l3 l4 l5 M0 = some out) (hk : R = emW eI out) : Ev (12) 95 4 [some (.ref o0), some (.ref o1), some (.int l2), some (.int (mB l3)), some (.int l4), some (.int l5)] [] M0 R := by
  unfold f_X9_passHours_l4 at h
  exact wh_ev (P := fun s : Int32 × Int32 × mM => Ev (12) 95 4 [some (.ref o0), some (.ref o1), some (.int l2), some (.int (mB l3)), some (.int s.1), some (.int s.2.1)] [] s.2.2 R) (Q := fun e : (Int32 × mM) => R = emW eI e) (fun s o hb h1 h2 => e_X9_passHours_4 go0 go1 hb ⟨h1, h2⟩) 100000 _ _ h hk
def f_X9_passHours (o0 : Nat) (o1 : Nat) (p2 : Int32) (p3 : Bool) (M0 : mM) : Option (Int32 × mM) :=
  gd (mTwB o0) (gd (mLwB o1) (f_X9_passHours_l4 o0 o1 p2 p3 (0 : Int32) (0 : Int32) M0))
set_option maxRecDepth 8000 in
theorem c_X9_passHours {o0 : Nat} {o1 : Nat} {p2 : Int32} {p3 : Bool} {M0 : mM} {out : (Int32 × mM)} (h : f_X9_passHours o0 o1 p2 p3 M0 = some out) : Cs (12) 95 [.ref o0, .ref o1, .int p2, .int (mB p3)] M0 (emW eI out) := by
  generalize hk : emW eI out = R
  replace hk := hk.symm
  unfold f_X9_passHours at h
  obtain ⟨go0, h⟩ := o_gd h
  obtain ⟨go1, h⟩ := o_gd h
  show Ev (12) 95 0 [some (.ref o0), some (.ref o1), some (.int p2), some (.int (mB p3)), none, none] [] M0 R
  refine ev_go kc_95 4 (i' := 4) (L' := [some (.ref o0), some (.ref o1), some (.int p2), some (.int (mB p3)), some (.int (0 : Int32)), some (.int (0 : Int32))]) (st' := []) (M' := M0) rfl ?_
  exact Ev.forget (mLe.kp (mLe.kp (mLe.kp (mLe.kp (mLe.kp (mLe.kp mLe.nl)))))) (e_X9_passHours_l4 go0 go1 h hk)
/-- WakeTower$TowerText.readPerson(LWakeTower$Tape;LWakeTower$Tower;)Z: 102, W -/
theorem kc_102 : mKc 102 = k_X10_readPerson := rfl
def f_X10_readPerson (o1 : Nat) (M0 : mM) : Option (Bool × mM) :=
  gd (mTwB o1) (b2 (f_X7_must 401 M0) (fun v1 M1 => bif v1 then (b2 (f_X7_number (1 : Int32) (99 : Int32) M1) (fun v3 M3 => bif decide (v3 = (-1 : Int32)) then (some (false, M3)) else (b2 (f_X7_must 402 M3) (fun v5 M5 => bif v5 then (b2 (f_X7_number (0 : Int32) (999 : Int32) M5) (fun v7 M7 => bif decide (¬ v7 = (-1 : Int32)) then (b2 (f_X9_addPerson o1 v3 v7 M7) (fun v9 M9 => some (true, M9))) else (some (false, M7)))) else (some (false, M5)))))) else (some (false, M1))))
set_option maxRecDepth 8000 in
theorem c_X10_readPerson {o1 : Nat} {M0 : mM} {out : (Bool × mM)} (h : f_X10_readPerson o1 M0 = some out) : Cs (10) 102 [.ref 1, .ref o1] M0 (emW eB out) := by
  generalize hk : emW eB out = R
  replace hk := hk.symm
  unfold f_X10_readPerson at h
  obtain ⟨go1, h⟩ := o_gd h
  show Ev (10) 102 0 [some (.ref 1), some (.ref o1), none, none] [] M0 R
  refine ev_go kc_102 2 (i' := 2) (L' := [some (.ref 1), some (.ref o1), none, none]) (st' := [.ref 401, .ref 1]) (M' := M0) rfl ?_
  obtain ⟨v1, M1, hc1, h⟩ := o_b2 h
  refine ev_cl0 (ins := .invokevirtual 92) kc_102 rfl rfl (a := 65) (as := [.ref 1, .ref 401]) (rest := []) rfl rfl (Cs.deep (c_X7_must hc1) (by decide)) ?_
  rcases o_bif h with ⟨hb2, h⟩ | ⟨hb2, h⟩
  · refine ev_goT kc_102 1 (t := 6) (e := 4) (L' := [some (.ref 1), some (.ref o1), none, none]) (st' := []) rfl (mB_n0t hb2) ?_
    refine ev_go kc_102 3 (i' := 9) (L' := [some (.ref 1), some (.ref o1), none, none]) (st' := [.int (99 : Int32), .int (1 : Int32), .ref 1]) (M' := M1) rfl ?_
    obtain ⟨v3, M3, hc3, h⟩ := o_b2 h
    refine ev_cl0 (ins := .invokevirtual 76) kc_102 rfl rfl (a := 68) (as := [.ref 1, .int (1 : Int32), .int (99 : Int32)]) (rest := []) rfl rfl (Cs.deep (c_X7_number hc3) (by decide)) ?_
    rcases o_bif h with ⟨hb4, h⟩ | ⟨hb4, h⟩
    · refine ev_goT kc_102 4 (t := 18) (e := 14) (L' := [some (.ref 1), some (.ref o1), some (.int v3), none]) (st' := []) rfl hb4 ?_
      refine ev_go kc_102 1 (i' := 19) (L' := [some (.ref 1), some (.ref o1), some (.int v3), none]) (st' := [.int (0 : Int32)]) (M' := M3) rfl ?_
      obtain rfl := Option.some.inj h
      rw [hk]
      exact ev_ret kc_102 rfl rfl rfl
    · refine ev_goF kc_102 4 (t := 18) (e := 14) (L' := [some (.ref 1), some (.ref o1), some (.int v3), none]) (st' := []) rfl hb4 ?_
      refine ev_go kc_102 2 (i' := 16) (L' := [some (.ref 1), some (.ref o1), some (.int v3), none]) (st' := [.ref 402, .ref 1]) (M' := M3) rfl ?_
      obtain ⟨v5, M5, hc5, h⟩ := o_b2 h
      refine ev_cl0 (ins := .invokevirtual 92) kc_102 rfl rfl (a := 65) (as := [.ref 1, .ref 402]) (rest := []) rfl rfl (Cs.deep (c_X7_must hc5) (by decide)) ?_
      rcases o_bif h with ⟨hb6, h⟩ | ⟨hb6, h⟩
      · refine ev_goT kc_102 1 (t := 20) (e := 18) (L' := [some (.ref 1), some (.ref o1), some (.int v3), none]) (st' := []) rfl (mB_n0t hb6) ?_
        refine ev_go kc_102 3 (i' := 23) (L' := [some (.ref 1), some (.ref o1), some (.int v3), none]) (st' := [.int (999 : Int32), .int (0 : Int32), .ref 1]) (M' := M5) rfl ?_
        obtain ⟨v7, M7, hc7, h⟩ := o_b2 h
        refine ev_cl0 (ins := .invokevirtual 76) kc_102 rfl rfl (a := 68) (as := [.ref 1, .int (0 : Int32), .int (999 : Int32)]) (rest := []) rfl rfl (Cs.deep (c_X7_number hc7) (by decide)) ?_
        rcases o_bif h with ⟨hb8, h⟩ | ⟨hb8, h⟩
        · refine ev_goT kc_102 4 (t := 30) (e := 28) (L' := [some (.ref 1), some (.ref o1), some (.int v3), some (.int v7)]) (st' := []) rfl hb8 ?_
          refine ev_go kc_102 3 (i' := 33) (L' := [some (.ref 1), some (.ref o1), some (.int v3), some (.int v7)]) (st' := [.int v7, .int v3, .ref o1]) (M' := M7) rfl ?_
          obtain ⟨v9, M9, hc9, h⟩ := o_b2 h
          refine ev_cl0 (ins := .invokevirtual 97) kc_102 rfl rfl (a := 82) (as := [.ref o1, .int v3, .int v7]) (rest := []) rfl (m_rec (mTw0 go1)) (Cs.deep (c_X9_addPerson hc9) (by decide)) ?_
          refine ev_go kc_102 1 (i' := 35) (L' := [some (.ref 1), some (.ref o1), some (.int v3), some (.int v7)]) (st' := [.int (1 : Int32)]) (M' := M9) rfl ?_
          obtain rfl := Option.some.inj h
          rw [hk]
          exact ev_ret kc_102 rfl rfl rfl
        · refine ev_goF kc_102 4 (t := 30) (e := 28) (L' := [some (.ref 1), some (.ref o1), some (.int v3), some (.int v7)]) (st' := []) rfl hb8 ?_
          refine ev_go kc_102 1 (i' := 29) (L' := [some (.ref 1), some (.ref o1), some (.int v3), some (.int v7)]) (st' := [.int (0 : Int32)]) (M' := M7) rfl ?_
          obtain rfl := Option.some.inj h
          rw [hk]
          exact ev_ret kc_102 rfl rfl rfl
      · refine ev_goF kc_102 1 (t := 20) (e := 18) (L' := [some (.ref 1), some (.ref o1), some (.int v3), none]) (st' := []) rfl (mB_n0f hb6) ?_
        refine ev_go kc_102 1 (i' := 19) (L' := [some (.ref 1), some (.ref o1), some (.int v3), none]) (st' := [.int (0 : Int32)]) (M' := M5) rfl ?_
        obtain rfl := Option.some.inj h
        rw [hk]
        exact ev_ret kc_102 rfl rfl rfl
  · refine ev_goF kc_102 1 (t := 6) (e := 4) (L' := [some (.ref 1), some (.ref o1), none, none]) (st' := []) rfl (mB_n0f hb2) ?_
    refine ev_go kc_102 1 (i' := 5) (L' := [some (.ref 1), some (.ref o1), none, none]) (st' := [.int (0 : Int32)]) (M' := M1) rfl ?_
    obtain rfl := Option.some.inj h
    rw [hk]
    exact ev_ret kc_102 rfl rfl rfl
/-- WakeTower$TowerText.readUp(LWakeTower$Tape;LWakeTower$Tower;)Z: 103, W -/
theorem kc_103 : mKc 103 = k_X10_readUp := rfl
def f_X10_readUp_25 (o1 : Nat) (l2 : Int32) (M0 : mM) : Option (Bool × mM) :=
  b2 (f_X7_wrong l2 M0) (fun v1 M1 => some (v1, M1))
set_option maxRecDepth 8000 in
theorem e_X10_readUp_25 {o1 : Nat} {l2 : Int32} {M0 : mM} {R : mZ} {out : (Bool × mM)} (go1 : mTwB o1 = true) (h : f_X10_readUp_25 o1 l2 M0 = some out) (hk : R = emW eB out) : Ev (10) 103 25 [some (.ref 1), none, some (.int l2), none, none, none] [] M0 R := by
  unfold f_X10_readUp_25 at h
  refine ev_go kc_103 2 (i' := 27) (L' := [some (.ref 1), none, some (.int l2), none, none, none]) (st' := [.int l2, .ref 1]) (M' := M0) rfl ?_
  obtain ⟨v1, M1, hc1, h⟩ := o_b2 h
  refine ev_cl0 (ins := .invokevirtual 32) kc_103 rfl rfl (a := 62) (as := [.ref 1, .int l2]) (rest := []) rfl rfl (Cs.deep (c_X7_wrong hc1) (by decide)) ?_
  obtain rfl := Option.some.inj h
  rw [hk]
  exact ev_ret kc_103 rfl rfl mB_rok
def f_X10_readUp_67 (o1 : Nat) (l3 : Int32) (l4 : Int32) (l5 : Int32) (M0 : mM) : Option (Bool × mM) :=
  b2 (f_X9_bringUp o1 l3 l4 l5 M0) (fun v2 M2 => some (true, M2))
set_option maxRecDepth 8000 in
theorem e_X10_readUp_67 {o1 : Nat} {l3 : Int32} {l4 : Int32} {l5 : Int32} {M0 : mM} {R : mZ} {out : (Bool × mM)} (go1 : mTwB o1 = true) (h : f_X10_readUp_67 o1 l3 l4 l5 M0 = some out) (hk : R = emW eB out) : Ev (10) 103 67 [none, some (.ref o1), none, some (.int l3), some (.int l4), some (.int l5)] [] M0 R := by
  unfold f_X10_readUp_67 at h
  refine ev_go kc_103 4 (i' := 71) (L' := [none, some (.ref o1), none, some (.int l3), some (.int l4), some (.int l5)]) (st' := [.int l5, .int l4, .int l3, .ref o1]) (M' := M0) rfl ?_
  obtain ⟨v2, M2, hc2, h⟩ := o_b2 h
  refine ev_cl0 (ins := .invokevirtual 118) kc_103 rfl rfl (a := 84) (as := [.ref o1, .int l3, .int l4, .int l5]) (rest := []) rfl (m_rec (mTw0 go1)) (Cs.deep (c_X9_bringUp hc2) (by decide)) ?_
  refine ev_go kc_103 1 (i' := 73) (L' := [none, some (.ref o1), none, some (.int l3), some (.int l4), some (.int l5)]) (st' := [.int (1 : Int32)]) (M' := M2) rfl ?_
  obtain rfl := Option.some.inj h
  rw [hk]
  exact ev_ret kc_103 rfl rfl rfl
def f_X10_readUp_62 (o1 : Nat) (l3 : Int32) (l4 : Int32) (s0 : Int32) (M0 : mM) : Option (Bool × mM) :=
  bif decide (¬ s0 = 0) then (f_X10_readUp_67 o1 l3 l4 s0 M0) else (some (false, M0))
set_option maxRecDepth 8000 in
theorem e_X10_readUp_62 {o1 : Nat} {l3 : Int32} {l4 : Int32} {s0 : Int32} {M0 : mM} {R : mZ} {out : (Bool × mM)} (go1 : mTwB o1 = true) (h : f_X10_readUp_62 o1 l3 l4 s0 M0 = some out) (hk : R = emW eB out) : Ev (10) 103 62 [none, some (.ref o1), none, some (.int l3), some (.int l4), none] [.int s0] M0 R := by
  unfold f_X10_readUp_62 at h
  rcases o_bif h with ⟨hb3, h⟩ | ⟨hb3, h⟩
  · refine ev_goT kc_103 3 (t := 67) (e := 65) (L' := [none, some (.ref o1), none, some (.int l3), some (.int l4), some (.int s0)]) (st' := []) rfl hb3 ?_
    exact Ev.forget (mLe.sk (mLe.kp (mLe.sk (mLe.kp (mLe.kp (mLe.kp mLe.nl)))))) (e_X10_readUp_67 go1 h hk)
  · refine ev_goF kc_103 3 (t := 67) (e := 65) (L' := [none, some (.ref o1), none, some (.int l3), some (.int l4), some (.int s0)]) (st' := []) rfl hb3 ?_
    refine ev_go kc_103 1 (i' := 66) (L' := [none, some (.ref o1), none, some (.int l3), some (.int l4), some (.int s0)]) (st' := [.int (0 : Int32)]) (M' := M0) rfl ?_
    obtain rfl := Option.some.inj h
    rw [hk]
    exact ev_ret kc_103 rfl rfl rfl
def f_X10_readUp (o1 : Nat) (M0 : mM) : Option (Bool × mM) :=
  gd (mTwB o1) (b2 (f_X7_number (0 : Int32) ((M0 o1 0) - (1 : Int32)) M0) (fun v4 M4 => bif decide (¬ v4 = (-1 : Int32)) then (b1 (f_X9_isPerson o1 v4 M4) (fun v6 => bif v6 then (bif (f_X11_has (M4 o1 1) v4) then (f_X10_readUp_25 o1 (M0 1 2) M4) else (b2 (f_X7_must 404 M4) (fun v10 M10 => bif v10 then (b2 (f_X7_number (0 : Int32) (4 : Int32) M10) (fun v12 M12 => bif decide (¬ v12 = (-1 : Int32)) then (bif decide (v12 ≤ 0) then (f_X10_readUp_67 o1 v4 v12 (0 : Int32) M12) else (b2 (f_X7_must 405 M12) (fun v15 M15 => bif v15 then (b1 (f_X9_inRing o1 (v12 - (1 : Int32)) M15) (fun v17 => b2 (f_X7_letters v17 M15) (fun v18 M18 => f_X10_readUp_62 o1 v4 v12 v18 M18))) else (f_X10_readUp_62 o1 v4 v12 (0 : Int32) M15)))) else (some (false, M12)))) else (some (false, M10))))) else (f_X10_readUp_25 o1 (M0 1 2) M4))) else (some (false, M4))))
set_option maxRecDepth 8000 in
theorem c_X10_readUp {o1 : Nat} {M0 : mM} {out : (Bool × mM)} (h : f_X10_readUp o1 M0 = some out) : Cs (10) 103 [.ref 1, .ref o1] M0 (emW eB out) := by
  generalize hk : emW eB out = R
  replace hk := hk.symm
  unfold f_X10_readUp at h
  obtain ⟨go1, h⟩ := o_gd h
  show Ev (10) 103 0 [some (.ref 1), some (.ref o1), none, none, none, none] [] M0 R
  refine ev_go kc_103 6 (i' := 6) (L' := [some (.ref 1), some (.ref o1), some (.int (M0 1 2)), none, none, none]) (st' := [.ref o1, .int (0 : Int32), .ref 1]) (M' := M0) rfl ?_
  refine ev_gf kc_103 rfl (mTw0 go1) rfl ?_
  refine ev_go kc_103 2 (i' := 9) (L' := [some (.ref 1), some (.ref o1), some (.int (M0 1 2)), none, none, none]) (st' := [.int ((M0 o1 0) - (1 : Int32)), .int (0 : Int32), .ref 1]) (M' := M0) rfl ?_
  obtain ⟨v4, M4, hc4, h⟩ := o_b2 h
  refine ev_cl0 (ins := .invokevirtual 76) kc_103 rfl rfl (a := 68) (as := [.ref 1, .int (0 : Int32), .int ((M0 o1 0) - (1 : Int32))]) (rest := []) rfl rfl (Cs.deep (c_X7_number hc4) (by decide)) ?_
  rcases o_bif h with ⟨hb5, h⟩ | ⟨hb5, h⟩
  · refine ev_goT kc_103 4 (t := 16) (e := 14) (L' := [some (.ref 1), some (.ref o1), some (.int (M0 1 2)), some (.int v4), none, none]) (st' := []) rfl hb5 ?_
    refine ev_go kc_103 2 (i' := 18) (L' := [some (.ref 1), some (.ref o1), some (.int (M0 1 2)), some (.int v4), none, none]) (st' := [.int v4, .ref o1]) (M' := M4) rfl ?_
    obtain ⟨v6, hc6, h⟩ := o_b1 h
    refine ev_cl0 (ins := .invokevirtual 101) kc_103 rfl rfl (a := 74) (as := [.ref o1, .int v4]) (rest := []) rfl (m_rec (mTw0 go1)) (Cs.deep (c_X9_isPerson (M0 := M4) hc6) (by decide)) ?_
    rcases o_bif h with ⟨hb7, h⟩ | ⟨hb7, h⟩
    · refine ev_goF kc_103 1 (t := 25) (e := 20) (L' := [some (.ref 1), some (.ref o1), some (.int (M0 1 2)), some (.int v4), none, none]) (st' := []) rfl (mB_e0f hb7) ?_
      refine ev_go kc_103 1 (i' := 21) (L' := [some (.ref 1), some (.ref o1), some (.int (M0 1 2)), some (.int v4), none, none]) (st' := [.ref o1]) (M' := M4) rfl ?_
      refine ev_gf kc_103 rfl (mTw0 go1) rfl ?_
      refine ev_go kc_103 1 (i' := 23) (L' := [some (.ref 1), some (.ref o1), some (.int (M0 1 2)), some (.int v4), none, none]) (st' := [.int v4, .int (M4 o1 1)]) (M' := M4) rfl ?_
      refine ev_cl0 (ins := .invokestatic 104) kc_103 rfl rfl (a := 178) (as := [.int (M4 o1 1), .int v4]) (rest := []) rfl rfl (Cs.deep (c_X11_has (M0 := M4)) (by decide)) ?_
      rcases o_bif h with ⟨hb9, h⟩ | ⟨hb9, h⟩
      · refine ev_goF kc_103 1 (t := 29) (e := 25) (L' := [some (.ref 1), some (.ref o1), some (.int (M0 1 2)), some (.int v4), none, none]) (st' := []) rfl (mB_e0f hb9) ?_
        exact Ev.forget (mLe.kp (mLe.sk (mLe.kp (mLe.sk (mLe.sk (mLe.sk mLe.nl)))))) (e_X10_readUp_25 go1 h hk)
      · refine ev_goT kc_103 1 (t := 29) (e := 25) (L' := [some (.ref 1), some (.ref o1), some (.int (M0 1 2)), some (.int v4), none, none]) (st' := []) rfl (mB_e0t hb9) ?_
        refine ev_go kc_103 2 (i' := 31) (L' := [some (.ref 1), some (.ref o1), some (.int (M0 1 2)), some (.int v4), none, none]) (st' := [.ref 404, .ref 1]) (M' := M4) rfl ?_
        obtain ⟨v10, M10, hc10, h⟩ := o_b2 h
        refine ev_cl0 (ins := .invokevirtual 92) kc_103 rfl rfl (a := 65) (as := [.ref 1, .ref 404]) (rest := []) rfl rfl (Cs.deep (c_X7_must hc10) (by decide)) ?_
        rcases o_bif h with ⟨hb11, h⟩ | ⟨hb11, h⟩
        · refine ev_goT kc_103 1 (t := 35) (e := 33) (L' := [some (.ref 1), some (.ref o1), some (.int (M0 1 2)), some (.int v4), none, none]) (st' := []) rfl (mB_n0t hb11) ?_
          refine ev_go kc_103 3 (i' := 38) (L' := [some (.ref 1), some (.ref o1), some (.int (M0 1 2)), some (.int v4), none, none]) (st' := [.int (4 : Int32), .int (0 : Int32), .ref 1]) (M' := M10) rfl ?_
          obtain ⟨v12, M12, hc12, h⟩ := o_b2 h
          refine ev_cl0 (ins := .invokevirtual 76) kc_103 rfl rfl (a := 68) (as := [.ref 1, .int (0 : Int32), .int (4 : Int32)]) (rest := []) rfl rfl (Cs.deep (c_X7_number hc12) (by decide)) ?_
          rcases o_bif h with ⟨hb13, h⟩ | ⟨hb13, h⟩
          · refine ev_goT kc_103 4 (t := 45) (e := 43) (L' := [some (.ref 1), some (.ref o1), some (.int (M0 1 2)), some (.int v4), some (.int v12), none]) (st' := []) rfl hb13 ?_
            rcases o_bif h with ⟨hb14, h⟩ | ⟨hb14, h⟩
            · refine ev_goT kc_103 4 (t := 67) (e := 49) (L' := [some (.ref 1), some (.ref o1), some (.int (M0 1 2)), some (.int v4), some (.int v12), some (.int (0 : Int32))]) (st' := []) rfl hb14 ?_
              exact Ev.forget (mLe.sk (mLe.kp (mLe.sk (mLe.kp (mLe.kp (mLe.kp mLe.nl)))))) (e_X10_readUp_67 go1 h hk)
            · refine ev_goF kc_103 4 (t := 67) (e := 49) (L' := [some (.ref 1), some (.ref o1), some (.int (M0 1 2)), some (.int v4), some (.int v12), some (.int (0 : Int32))]) (st' := []) rfl hb14 ?_
              refine ev_go kc_103 2 (i' := 51) (L' := [some (.ref 1), some (.ref o1), some (.int (M0 1 2)), some (.int v4), some (.int v12), some (.int (0 : Int32))]) (st' := [.ref 405, .ref 1]) (M' := M12) rfl ?_
              obtain ⟨v15, M15, hc15, h⟩ := o_b2 h
              refine ev_cl0 (ins := .invokevirtual 92) kc_103 rfl rfl (a := 65) (as := [.ref 1, .ref 405]) (rest := []) rfl rfl (Cs.deep (c_X7_must hc15) (by decide)) ?_
              rcases o_bif h with ⟨hb16, h⟩ | ⟨hb16, h⟩
              · refine ev_goF kc_103 1 (t := 61) (e := 53) (L' := [some (.ref 1), some (.ref o1), some (.int (M0 1 2)), some (.int v4), some (.int v12), some (.int (0 : Int32))]) (st' := []) rfl (mB_e0f hb16) ?_
                refine ev_go kc_103 5 (i' := 58) (L' := [some (.ref 1), some (.ref o1), some (.int (M0 1 2)), some (.int v4), some (.int v12), some (.int (0 : Int32))]) (st' := [.int (v12 - (1 : Int32)), .ref o1, .ref 1]) (M' := M15) rfl ?_
                obtain ⟨v17, hc17, h⟩ := o_b1 h
                refine ev_cl0 (ins := .invokevirtual 111) kc_103 rfl rfl (a := 77) (as := [.ref o1, .int (v12 - (1 : Int32))]) (rest := [.ref 1]) rfl (m_rec (mTw0 go1)) (Cs.deep (c_X9_inRing (M0 := M15) hc17) (by decide)) ?_
                obtain ⟨v18, M18, hc18, h⟩ := o_b2 h
                refine ev_cl0 (ins := .invokevirtual 115) kc_103 rfl rfl (a := 69) (as := [.ref 1, .int v17]) (rest := []) rfl rfl (Cs.deep (c_X7_letters hc18) (by decide)) ?_
                refine ev_go kc_103 1 (i' := 62) (L' := [some (.ref 1), some (.ref o1), some (.int (M0 1 2)), some (.int v4), some (.int v12), some (.int (0 : Int32))]) (st' := [.int v18]) (M' := M18) rfl ?_
                exact Ev.forget (mLe.sk (mLe.kp (mLe.sk (mLe.kp (mLe.kp (mLe.sk mLe.nl)))))) (e_X10_readUp_62 go1 h hk)
              · refine ev_goT kc_103 1 (t := 61) (e := 53) (L' := [some (.ref 1), some (.ref o1), some (.int (M0 1 2)), some (.int v4), some (.int v12), some (.int (0 : Int32))]) (st' := []) rfl (mB_e0t hb16) ?_
                refine ev_go kc_103 1 (i' := 62) (L' := [some (.ref 1), some (.ref o1), some (.int (M0 1 2)), some (.int v4), some (.int v12), some (.int (0 : Int32))]) (st' := [.int (0 : Int32)]) (M' := M15) rfl ?_
                exact Ev.forget (mLe.sk (mLe.kp (mLe.sk (mLe.kp (mLe.kp (mLe.sk mLe.nl)))))) (e_X10_readUp_62 go1 h hk)
          · refine ev_goF kc_103 4 (t := 45) (e := 43) (L' := [some (.ref 1), some (.ref o1), some (.int (M0 1 2)), some (.int v4), some (.int v12), none]) (st' := []) rfl hb13 ?_
            refine ev_go kc_103 1 (i' := 44) (L' := [some (.ref 1), some (.ref o1), some (.int (M0 1 2)), some (.int v4), some (.int v12), none]) (st' := [.int (0 : Int32)]) (M' := M12) rfl ?_
            obtain rfl := Option.some.inj h
            rw [hk]
            exact ev_ret kc_103 rfl rfl rfl
        · refine ev_goF kc_103 1 (t := 35) (e := 33) (L' := [some (.ref 1), some (.ref o1), some (.int (M0 1 2)), some (.int v4), none, none]) (st' := []) rfl (mB_n0f hb11) ?_
          refine ev_go kc_103 1 (i' := 34) (L' := [some (.ref 1), some (.ref o1), some (.int (M0 1 2)), some (.int v4), none, none]) (st' := [.int (0 : Int32)]) (M' := M10) rfl ?_
          obtain rfl := Option.some.inj h
          rw [hk]
          exact ev_ret kc_103 rfl rfl rfl
    · refine ev_goT kc_103 1 (t := 25) (e := 20) (L' := [some (.ref 1), some (.ref o1), some (.int (M0 1 2)), some (.int v4), none, none]) (st' := []) rfl (mB_e0t hb7) ?_
      exact Ev.forget (mLe.kp (mLe.sk (mLe.kp (mLe.sk (mLe.sk (mLe.sk mLe.nl)))))) (e_X10_readUp_25 go1 h hk)
  · refine ev_goF kc_103 4 (t := 16) (e := 14) (L' := [some (.ref 1), some (.ref o1), some (.int (M0 1 2)), some (.int v4), none, none]) (st' := []) rfl hb5 ?_
    refine ev_go kc_103 1 (i' := 15) (L' := [some (.ref 1), some (.ref o1), some (.int (M0 1 2)), some (.int v4), none, none]) (st' := [.int (0 : Int32)]) (M' := M4) rfl ?_
    obtain rfl := Option.some.inj h
    rw [hk]
    exact ev_ret kc_103 rfl rfl rfl
/-- WakeTower$TowerText.readAsleep(LWakeTower$Tape;LWakeTower$Tower;)Z: 104, W -/
theorem kc_104 : mKc 104 = k_X10_readAsleep := rfl
def f_X10_readAsleep (o1 : Nat) (M0 : mM) : Option (Bool × mM) :=
  gd (mTwB o1) (b2 (f_X7_number (0 : Int32) ((M0 o1 0) - (1 : Int32)) M0) (fun v1 M1 => bif decide (¬ v1 = (-1 : Int32)) then (bif (f_X11_has (M1 o1 2) v1) then (b2 (f_X7_wrong (M0 1 2) M1) (fun v5 M5 => some (v5, M5))) else (wr (mst M1 o1 2 ((M1 o1 2) ||| (f_X11_bit v1))) (fun M7 => some (true, M7)))) else (some (false, M1))))
set_option maxRecDepth 8000 in
theorem c_X10_readAsleep {o1 : Nat} {M0 : mM} {out : (Bool × mM)} (h : f_X10_readAsleep o1 M0 = some out) : Cs (2) 104 [.ref 1, .ref o1] M0 (emW eB out) := by
  generalize hk : emW eB out = R
  replace hk := hk.symm
  unfold f_X10_readAsleep at h
  obtain ⟨go1, h⟩ := o_gd h
  show Ev (2) 104 0 [some (.ref 1), some (.ref o1), none, none] [] M0 R
  refine ev_go kc_104 6 (i' := 6) (L' := [some (.ref 1), some (.ref o1), some (.int (M0 1 2)), none]) (st' := [.ref o1, .int (0 : Int32), .ref 1]) (M' := M0) rfl ?_
  refine ev_gf kc_104 rfl (mTw0 go1) rfl ?_
  refine ev_go kc_104 2 (i' := 9) (L' := [some (.ref 1), some (.ref o1), some (.int (M0 1 2)), none]) (st' := [.int ((M0 o1 0) - (1 : Int32)), .int (0 : Int32), .ref 1]) (M' := M0) rfl ?_
  obtain ⟨v1, M1, hc1, h⟩ := o_b2 h
  refine ev_cl0 (ins := .invokevirtual 76) kc_104 rfl rfl (a := 68) (as := [.ref 1, .int (0 : Int32), .int ((M0 o1 0) - (1 : Int32))]) (rest := []) rfl rfl (Cs.deep (c_X7_number hc1) (by decide)) ?_
  rcases o_bif h with ⟨hb2, h⟩ | ⟨hb2, h⟩
  · refine ev_goT kc_104 4 (t := 16) (e := 14) (L' := [some (.ref 1), some (.ref o1), some (.int (M0 1 2)), some (.int v1)]) (st' := []) rfl hb2 ?_
    refine ev_go kc_104 1 (i' := 17) (L' := [some (.ref 1), some (.ref o1), some (.int (M0 1 2)), some (.int v1)]) (st' := [.ref o1]) (M' := M1) rfl ?_
    refine ev_gf kc_104 rfl (mTw0 go1) rfl ?_
    refine ev_go kc_104 1 (i' := 19) (L' := [some (.ref 1), some (.ref o1), some (.int (M0 1 2)), some (.int v1)]) (st' := [.int v1, .int (M1 o1 2)]) (M' := M1) rfl ?_
    refine ev_cl0 (ins := .invokestatic 104) kc_104 rfl rfl (a := 178) (as := [.int (M1 o1 2), .int v1]) (rest := []) rfl rfl (Cs.deep (c_X11_has (M0 := M1)) (by decide)) ?_
    rcases o_bif h with ⟨hb4, h⟩ | ⟨hb4, h⟩
    · refine ev_goF kc_104 1 (t := 25) (e := 21) (L' := [some (.ref 1), some (.ref o1), some (.int (M0 1 2)), some (.int v1)]) (st' := []) rfl (mB_e0f hb4) ?_
      refine ev_go kc_104 2 (i' := 23) (L' := [some (.ref 1), some (.ref o1), some (.int (M0 1 2)), some (.int v1)]) (st' := [.int (M0 1 2), .ref 1]) (M' := M1) rfl ?_
      obtain ⟨v5, M5, hc5, h⟩ := o_b2 h
      refine ev_cl0 (ins := .invokevirtual 32) kc_104 rfl rfl (a := 62) (as := [.ref 1, .int (M0 1 2)]) (rest := []) rfl rfl (Cs.deep (c_X7_wrong hc5) (by decide)) ?_
      obtain rfl := Option.some.inj h
      rw [hk]
      exact ev_ret kc_104 rfl rfl mB_rok
    · refine ev_goT kc_104 1 (t := 25) (e := 21) (L' := [some (.ref 1), some (.ref o1), some (.int (M0 1 2)), some (.int v1)]) (st' := []) rfl (mB_e0t hb4) ?_
      refine ev_go kc_104 2 (i' := 27) (L' := [some (.ref 1), some (.ref o1), some (.int (M0 1 2)), some (.int v1)]) (st' := [.ref o1, .ref o1]) (M' := M1) rfl ?_
      refine ev_gf kc_104 rfl (mTw0 go1) rfl ?_
      refine ev_go kc_104 1 (i' := 29) (L' := [some (.ref 1), some (.ref o1), some (.int (M0 1 2)), some (.int v1)]) (st' := [.int v1, .int (M1 o1 2), .ref o1]) (M' := M1) rfl ?_
      refine ev_cl0 (ins := .invokestatic 122) kc_104 rfl rfl (a := 177) (as := [.int v1]) (rest := [.int (M1 o1 2), .ref o1]) rfl rfl (Cs.deep (c_X11_bit (M0 := M1)) (by decide)) ?_
      refine ev_go kc_104 1 (i' := 31) (L' := [some (.ref 1), some (.ref o1), some (.int (M0 1 2)), some (.int v1)]) (st' := [.int ((M1 o1 2) ||| (f_X11_bit v1)), .ref o1]) (M' := M1) rfl ?_
      obtain ⟨M7, hM7, h⟩ := o_wr h
      refine ev_pf kc_104 rfl (mTw0 go1) rfl rfl (fun hc => absurd hc (by decide)) hM7 ?_
      refine ev_go kc_104 1 (i' := 33) (L' := [some (.ref 1), some (.ref o1), some (.int (M0 1 2)), some (.int v1)]) (st' := [.int (1 : Int32)]) (M' := M7) rfl ?_
      obtain rfl := Option.some.inj h
      rw [hk]
      exact ev_ret kc_104 rfl rfl rfl
  · refine ev_goF kc_104 4 (t := 16) (e := 14) (L' := [some (.ref 1), some (.ref o1), some (.int (M0 1 2)), some (.int v1)]) (st' := []) rfl hb2 ?_
    refine ev_go kc_104 1 (i' := 15) (L' := [some (.ref 1), some (.ref o1), some (.int (M0 1 2)), some (.int v1)]) (st' := [.int (0 : Int32)]) (M' := M1) rfl ?_
    obtain rfl := Option.some.inj h
    rw [hk]
    exact ev_ret kc_104 rfl rfl rfl
/-- WakeTower$TowerText.readLine(LWakeTower$Tape;LWakeTower$Tower;)Z: 101, W -/
theorem kc_101 : mKc 101 = k_X10_readLine := rfl
def f_X10_readLine (o1 : Nat) (M0 : mM) : Option (Bool × mM) :=
  gd (mTwB o1) (b2 (f_X7_takes 400 M0) (fun v1 M1 => bif v1 then (bif decide ((8 : Int32) ≤ (M1 o1 0)) then (b2 (f_X7_wrong (M0 1 2) M1) (fun v4 M4 => some (v4, M4))) else (b2 (f_X10_readPerson o1 M1) (fun v5 M5 => some (v5, M5)))) else (b2 (f_X7_takes 403 M1) (fun v6 M6 => bif v6 then (b2 (f_X10_readUp o1 M6) (fun v8 M8 => some (v8, M8))) else (b2 (f_X7_takes 406 M6) (fun v9 M9 => bif v9 then (b2 (f_X10_readAsleep o1 M9) (fun v11 M11 => some (v11, M11))) else (b2 (f_X7_takes 407 M9) (fun v12 M12 => bif v12 then (b2 (f_X7_number (0 : Int32) (8 : Int32) M12) (fun v14 M14 => wr (mst M14 o1 5 v14) (fun M15 => bif decide ((M15 o1 5) = (-1 : Int32)) then (some (false, M15)) else (some (true, M15))))) else (b2 (f_X7_takes 408 M12) (fun v17 M17 => bif v17 then (b2 (f_X7_number (0 : Int32) (23 : Int32) M17) (fun v19 M19 => wr (mst M19 o1 3 v19) (fun M20 => bif decide ((M20 o1 3) = (-1 : Int32)) then (some (false, M20)) else (some (true, M20))))) else (b2 (f_X7_takes 409 M17) (fun v22 M22 => bif v22 then (b2 (f_X7_number (0 : Int32) (999 : Int32) M22) (fun v24 M24 => wr (mst M24 o1 4 v24) (fun M25 => bif decide ((M25 o1 4) = (-1 : Int32)) then (some (false, M25)) else (some (true, M25))))) else (b2 (f_X7_wrong (M0 1 2) M22) (fun v27 M27 => some (v27, M27)))))))))))))))
set_option maxRecDepth 8000 in
theorem c_X10_readLine {o1 : Nat} {M0 : mM} {out : (Bool × mM)} (h : f_X10_readLine o1 M0 = some out) : Cs (11) 101 [.ref 1, .ref o1] M0 (emW eB out) := by
  generalize hk : emW eB out = R
  replace hk := hk.symm
  unfold f_X10_readLine at h
  obtain ⟨go1, h⟩ := o_gd h
  show Ev (11) 101 0 [some (.ref 1), some (.ref o1), none] [] M0 R
  refine ev_go kc_101 5 (i' := 5) (L' := [some (.ref 1), some (.ref o1), some (.int (M0 1 2))]) (st' := [.ref 400, .ref 1]) (M' := M0) rfl ?_
  obtain ⟨v1, M1, hc1, h⟩ := o_b2 h
  refine ev_cl0 (ins := .invokevirtual 56) kc_101 rfl rfl (a := 64) (as := [.ref 1, .ref 400]) (rest := []) rfl rfl (Cs.deep (c_X7_takes hc1) (by decide)) ?_
  rcases o_bif h with ⟨hb2, h⟩ | ⟨hb2, h⟩
  · refine ev_goF kc_101 1 (t := 19) (e := 7) (L' := [some (.ref 1), some (.ref o1), some (.int (M0 1 2))]) (st' := []) rfl (mB_e0f hb2) ?_
    refine ev_go kc_101 1 (i' := 8) (L' := [some (.ref 1), some (.ref o1), some (.int (M0 1 2))]) (st' := [.ref o1]) (M' := M1) rfl ?_
    refine ev_gf kc_101 rfl (mTw0 go1) rfl ?_
    rcases o_bif h with ⟨hb3, h⟩ | ⟨hb3, h⟩
    · refine ev_goT kc_101 2 (t := 15) (e := 11) (L' := [some (.ref 1), some (.ref o1), some (.int (M0 1 2))]) (st' := []) rfl hb3 ?_
      refine ev_go kc_101 2 (i' := 17) (L' := [some (.ref 1), some (.ref o1), some (.int (M0 1 2))]) (st' := [.int (M0 1 2), .ref 1]) (M' := M1) rfl ?_
      obtain ⟨v4, M4, hc4, h⟩ := o_b2 h
      refine ev_cl0 (ins := .invokevirtual 32) kc_101 rfl rfl (a := 62) (as := [.ref 1, .int (M0 1 2)]) (rest := []) rfl rfl (Cs.deep (c_X7_wrong hc4) (by decide)) ?_
      obtain rfl := Option.some.inj h
      rw [hk]
      exact ev_ret kc_101 rfl rfl mB_rok
    · refine ev_goF kc_101 2 (t := 15) (e := 11) (L' := [some (.ref 1), some (.ref o1), some (.int (M0 1 2))]) (st' := []) rfl hb3 ?_
      refine ev_go kc_101 2 (i' := 13) (L' := [some (.ref 1), some (.ref o1), some (.int (M0 1 2))]) (st' := [.ref o1, .ref 1]) (M' := M1) rfl ?_
      obtain ⟨v5, M5, hc5, h⟩ := o_b2 h
      refine ev_cl0 (ins := .invokestatic 63) kc_101 rfl rfl (a := 102) (as := [.ref 1, .ref o1]) (rest := []) rfl rfl (Cs.deep (c_X10_readPerson hc5) (by decide)) ?_
      refine ev_go kc_101 1 (i' := 18) (L' := [some (.ref 1), some (.ref o1), some (.int (M0 1 2))]) (st' := [.int (mB v5)]) (M' := M5) rfl ?_
      obtain rfl := Option.some.inj h
      rw [hk]
      exact ev_ret kc_101 rfl rfl mB_rok
  · refine ev_goT kc_101 1 (t := 19) (e := 7) (L' := [some (.ref 1), some (.ref o1), some (.int (M0 1 2))]) (st' := []) rfl (mB_e0t hb2) ?_
    refine ev_go kc_101 2 (i' := 21) (L' := [some (.ref 1), some (.ref o1), some (.int (M0 1 2))]) (st' := [.ref 403, .ref 1]) (M' := M1) rfl ?_
    obtain ⟨v6, M6, hc6, h⟩ := o_b2 h
    refine ev_cl0 (ins := .invokevirtual 56) kc_101 rfl rfl (a := 64) (as := [.ref 1, .ref 403]) (rest := []) rfl rfl (Cs.deep (c_X7_takes hc6) (by decide)) ?_
    rcases o_bif h with ⟨hb7, h⟩ | ⟨hb7, h⟩
    · refine ev_goF kc_101 1 (t := 27) (e := 23) (L' := [some (.ref 1), some (.ref o1), some (.int (M0 1 2))]) (st' := []) rfl (mB_e0f hb7) ?_
      refine ev_go kc_101 2 (i' := 25) (L' := [some (.ref 1), some (.ref o1), some (.int (M0 1 2))]) (st' := [.ref o1, .ref 1]) (M' := M6) rfl ?_
      obtain ⟨v8, M8, hc8, h⟩ := o_b2 h
      refine ev_cl0 (ins := .invokestatic 67) kc_101 rfl rfl (a := 103) (as := [.ref 1, .ref o1]) (rest := []) rfl rfl (Cs.deep (c_X10_readUp hc8) (by decide)) ?_
      obtain rfl := Option.some.inj h
      rw [hk]
      exact ev_ret kc_101 rfl rfl mB_rok
    · refine ev_goT kc_101 1 (t := 27) (e := 23) (L' := [some (.ref 1), some (.ref o1), some (.int (M0 1 2))]) (st' := []) rfl (mB_e0t hb7) ?_
      refine ev_go kc_101 2 (i' := 29) (L' := [some (.ref 1), some (.ref o1), some (.int (M0 1 2))]) (st' := [.ref 406, .ref 1]) (M' := M6) rfl ?_
      obtain ⟨v9, M9, hc9, h⟩ := o_b2 h
      refine ev_cl0 (ins := .invokevirtual 56) kc_101 rfl rfl (a := 64) (as := [.ref 1, .ref 406]) (rest := []) rfl rfl (Cs.deep (c_X7_takes hc9) (by decide)) ?_
      rcases o_bif h with ⟨hb10, h⟩ | ⟨hb10, h⟩
      · refine ev_goF kc_101 1 (t := 35) (e := 31) (L' := [some (.ref 1), some (.ref o1), some (.int (M0 1 2))]) (st' := []) rfl (mB_e0f hb10) ?_
        refine ev_go kc_101 2 (i' := 33) (L' := [some (.ref 1), some (.ref o1), some (.int (M0 1 2))]) (st' := [.ref o1, .ref 1]) (M' := M9) rfl ?_
        obtain ⟨v11, M11, hc11, h⟩ := o_b2 h
        refine ev_cl0 (ins := .invokestatic 71) kc_101 rfl rfl (a := 104) (as := [.ref 1, .ref o1]) (rest := []) rfl rfl (Cs.deep (c_X10_readAsleep hc11) (by decide)) ?_
        obtain rfl := Option.some.inj h
        rw [hk]
        exact ev_ret kc_101 rfl rfl mB_rok
      · refine ev_goT kc_101 1 (t := 35) (e := 31) (L' := [some (.ref 1), some (.ref o1), some (.int (M0 1 2))]) (st' := []) rfl (mB_e0t hb10) ?_
        refine ev_go kc_101 2 (i' := 37) (L' := [some (.ref 1), some (.ref o1), some (.int (M0 1 2))]) (st' := [.ref 407, .ref 1]) (M' := M9) rfl ?_
        obtain ⟨v12, M12, hc12, h⟩ := o_b2 h
        refine ev_cl0 (ins := .invokevirtual 56) kc_101 rfl rfl (a := 64) (as := [.ref 1, .ref 407]) (rest := []) rfl rfl (Cs.deep (c_X7_takes hc12) (by decide)) ?_
        rcases o_bif h with ⟨hb13, h⟩ | ⟨hb13, h⟩
        · refine ev_goF kc_101 1 (t := 53) (e := 39) (L' := [some (.ref 1), some (.ref o1), some (.int (M0 1 2))]) (st' := []) rfl (mB_e0f hb13) ?_
          refine ev_go kc_101 4 (i' := 43) (L' := [some (.ref 1), some (.ref o1), some (.int (M0 1 2))]) (st' := [.int (8 : Int32), .int (0 : Int32), .ref 1, .ref o1]) (M' := M12) rfl ?_
          obtain ⟨v14, M14, hc14, h⟩ := o_b2 h
          refine ev_cl0 (ins := .invokevirtual 76) kc_101 rfl rfl (a := 68) (as := [.ref 1, .int (0 : Int32), .int (8 : Int32)]) (rest := [.ref o1]) rfl rfl (Cs.deep (c_X7_number hc14) (by decide)) ?_
          obtain ⟨M15, hM15, h⟩ := o_wr h
          refine ev_pf kc_101 rfl (mTw0 go1) rfl rfl (fun hc => absurd hc (by decide)) hM15 ?_
          refine ev_go kc_101 1 (i' := 46) (L' := [some (.ref 1), some (.ref o1), some (.int (M0 1 2))]) (st' := [.ref o1]) (M' := M15) rfl ?_
          refine ev_gf kc_101 rfl (mTw0 go1) rfl ?_
          rcases o_bif h with ⟨hb16, h⟩ | ⟨hb16, h⟩
          · refine ev_goT kc_101 2 (t := 51) (e := 49) (L' := [some (.ref 1), some (.ref o1), some (.int (M0 1 2))]) (st' := []) rfl hb16 ?_
            refine ev_go kc_101 1 (i' := 52) (L' := [some (.ref 1), some (.ref o1), some (.int (M0 1 2))]) (st' := [.int (0 : Int32)]) (M' := M15) rfl ?_
            obtain rfl := Option.some.inj h
            rw [hk]
            exact ev_ret kc_101 rfl rfl rfl
          · refine ev_goF kc_101 2 (t := 51) (e := 49) (L' := [some (.ref 1), some (.ref o1), some (.int (M0 1 2))]) (st' := []) rfl hb16 ?_
            refine ev_go kc_101 2 (i' := 52) (L' := [some (.ref 1), some (.ref o1), some (.int (M0 1 2))]) (st' := [.int (1 : Int32)]) (M' := M15) rfl ?_
            obtain rfl := Option.some.inj h
            rw [hk]
            exact ev_ret kc_101 rfl rfl rfl
        · refine ev_goT kc_101 1 (t := 53) (e := 39) (L' := [some (.ref 1), some (.ref o1), some (.int (M0 1 2))]) (st' := []) rfl (mB_e0t hb13) ?_
          refine ev_go kc_101 2 (i' := 55) (L' := [some (.ref 1), some (.ref o1), some (.int (M0 1 2))]) (st' := [.ref 408, .ref 1]) (M' := M12) rfl ?_
          obtain ⟨v17, M17, hc17, h⟩ := o_b2 h
          refine ev_cl0 (ins := .invokevirtual 56) kc_101 rfl rfl (a := 64) (as := [.ref 1, .ref 408]) (rest := []) rfl rfl (Cs.deep (c_X7_takes hc17) (by decide)) ?_
          rcases o_bif h with ⟨hb18, h⟩ | ⟨hb18, h⟩
          · refine ev_goF kc_101 1 (t := 71) (e := 57) (L' := [some (.ref 1), some (.ref o1), some (.int (M0 1 2))]) (st' := []) rfl (mB_e0f hb18) ?_
            refine ev_go kc_101 4 (i' := 61) (L' := [some (.ref 1), some (.ref o1), some (.int (M0 1 2))]) (st' := [.int (23 : Int32), .int (0 : Int32), .ref 1, .ref o1]) (M' := M17) rfl ?_
            obtain ⟨v19, M19, hc19, h⟩ := o_b2 h
            refine ev_cl0 (ins := .invokevirtual 76) kc_101 rfl rfl (a := 68) (as := [.ref 1, .int (0 : Int32), .int (23 : Int32)]) (rest := [.ref o1]) rfl rfl (Cs.deep (c_X7_number hc19) (by decide)) ?_
            obtain ⟨M20, hM20, h⟩ := o_wr h
            refine ev_pf kc_101 rfl (mTw0 go1) rfl rfl (fun hc => absurd hc (by decide)) hM20 ?_
            refine ev_go kc_101 1 (i' := 64) (L' := [some (.ref 1), some (.ref o1), some (.int (M0 1 2))]) (st' := [.ref o1]) (M' := M20) rfl ?_
            refine ev_gf kc_101 rfl (mTw0 go1) rfl ?_
            rcases o_bif h with ⟨hb21, h⟩ | ⟨hb21, h⟩
            · refine ev_goT kc_101 2 (t := 69) (e := 67) (L' := [some (.ref 1), some (.ref o1), some (.int (M0 1 2))]) (st' := []) rfl hb21 ?_
              refine ev_go kc_101 1 (i' := 70) (L' := [some (.ref 1), some (.ref o1), some (.int (M0 1 2))]) (st' := [.int (0 : Int32)]) (M' := M20) rfl ?_
              obtain rfl := Option.some.inj h
              rw [hk]
              exact ev_ret kc_101 rfl rfl rfl
            · refine ev_goF kc_101 2 (t := 69) (e := 67) (L' := [some (.ref 1), some (.ref o1), some (.int (M0 1 2))]) (st' := []) rfl hb21 ?_
              refine ev_go kc_101 2 (i' := 70) (L' := [some (.ref 1), some (.ref o1), some (.int (M0 1 2))]) (st' := [.int (1 : Int32)]) (M' := M20) rfl ?_
              obtain rfl := Option.some.inj h
              rw [hk]
              exact ev_ret kc_101 rfl rfl rfl
          · refine ev_goT kc_101 1 (t := 71) (e := 57) (L' := [some (.ref 1), some (.ref o1), some (.int (M0 1 2))]) (st' := []) rfl (mB_e0t hb18) ?_
            refine ev_go kc_101 2 (i' := 73) (L' := [some (.ref 1), some (.ref o1), some (.int (M0 1 2))]) (st' := [.ref 409, .ref 1]) (M' := M17) rfl ?_
            obtain ⟨v22, M22, hc22, h⟩ := o_b2 h
            refine ev_cl0 (ins := .invokevirtual 56) kc_101 rfl rfl (a := 64) (as := [.ref 1, .ref 409]) (rest := []) rfl rfl (Cs.deep (c_X7_takes hc22) (by decide)) ?_
            rcases o_bif h with ⟨hb23, h⟩ | ⟨hb23, h⟩
            · refine ev_goF kc_101 1 (t := 89) (e := 75) (L' := [some (.ref 1), some (.ref o1), some (.int (M0 1 2))]) (st' := []) rfl (mB_e0f hb23) ?_
              refine ev_go kc_101 4 (i' := 79) (L' := [some (.ref 1), some (.ref o1), some (.int (M0 1 2))]) (st' := [.int (999 : Int32), .int (0 : Int32), .ref 1, .ref o1]) (M' := M22) rfl ?_
              obtain ⟨v24, M24, hc24, h⟩ := o_b2 h
              refine ev_cl0 (ins := .invokevirtual 76) kc_101 rfl rfl (a := 68) (as := [.ref 1, .int (0 : Int32), .int (999 : Int32)]) (rest := [.ref o1]) rfl rfl (Cs.deep (c_X7_number hc24) (by decide)) ?_
              obtain ⟨M25, hM25, h⟩ := o_wr h
              refine ev_pf kc_101 rfl (mTw0 go1) rfl rfl (fun hc => absurd hc (by decide)) hM25 ?_
              refine ev_go kc_101 1 (i' := 82) (L' := [some (.ref 1), some (.ref o1), some (.int (M0 1 2))]) (st' := [.ref o1]) (M' := M25) rfl ?_
              refine ev_gf kc_101 rfl (mTw0 go1) rfl ?_
              rcases o_bif h with ⟨hb26, h⟩ | ⟨hb26, h⟩
              · refine ev_goT kc_101 2 (t := 87) (e := 85) (L' := [some (.ref 1), some (.ref o1), some (.int (M0 1 2))]) (st' := []) rfl hb26 ?_
                refine ev_go kc_101 1 (i' := 88) (L' := [some (.ref 1), some (.ref o1), some (.int (M0 1 2))]) (st' := [.int (0 : Int32)]) (M' := M25) rfl ?_
                obtain rfl := Option.some.inj h
                rw [hk]
                exact ev_ret kc_101 rfl rfl rfl
              · refine ev_goF kc_101 2 (t := 87) (e := 85) (L' := [some (.ref 1), some (.ref o1), some (.int (M0 1 2))]) (st' := []) rfl hb26 ?_
                refine ev_go kc_101 2 (i' := 88) (L' := [some (.ref 1), some (.ref o1), some (.int (M0 1 2))]) (st' := [.int (1 : Int32)]) (M' := M25) rfl ?_
                obtain rfl := Option.some.inj h
                rw [hk]
                exact ev_ret kc_101 rfl rfl rfl
            · refine ev_goT kc_101 1 (t := 89) (e := 75) (L' := [some (.ref 1), some (.ref o1), some (.int (M0 1 2))]) (st' := []) rfl (mB_e0t hb23) ?_
              refine ev_go kc_101 2 (i' := 91) (L' := [some (.ref 1), some (.ref o1), some (.int (M0 1 2))]) (st' := [.int (M0 1 2), .ref 1]) (M' := M22) rfl ?_
              obtain ⟨v27, M27, hc27, h⟩ := o_b2 h
              refine ev_cl0 (ins := .invokevirtual 32) kc_101 rfl rfl (a := 62) (as := [.ref 1, .int (M0 1 2)]) (rest := []) rfl rfl (Cs.deep (c_X7_wrong hc27) (by decide)) ?_
              obtain rfl := Option.some.inj h
              rw [hk]
              exact ev_ret kc_101 rfl rfl mB_rok
/-- WakeTower$TowerText.read(LWakeTower$Tape;LWakeTower$Tower;)Z: 100, W -/
theorem kc_100 : mKc 100 = k_X10_read := rfl
def f_X10_read_28 (o1 : Nat) (l3 : Int32) (s0 : Bool) (M0 : mM) : Option ((Bool × mM) ⊕ (Int32 × Int32 × mM)) :=
  bif s0 then (b2 (f_X7_mustSign (59 : Int32) M0) (fun v2 M2 => bif v2 then (some (.inr ((mB s0), (l3 + (1 : Int32)), M2))) else (some (.inl (false, M2))))) else (some (.inr ((mB s0), (l3 + (1 : Int32)), M0)))
set_option maxRecDepth 8000 in
theorem e_X10_read_28 {o1 : Nat} {l3 : Int32} {s0 : Bool} {M0 : mM} {R : mZ} {out : ((Bool × mM) ⊕ (Int32 × Int32 × mM))} (go1 : mTwB o1 = true) (h : f_X10_read_28 o1 l3 s0 M0 = some out) (hk : (∀ s' : Int32 × Int32 × mM, out = .inr s' → Ev (12) 100 11 [some (.ref 1), some (.ref o1), some (.int s'.1), some (.int s'.2.1)] [] (s'.2.2) R) ∧ (∀ e1 : (Bool × mM), out = .inl e1 → R = emW eB e1)) : Ev (12) 100 28 [some (.ref 1), some (.ref o1), none, some (.int l3)] [.int (mB s0)] M0 R := by
  unfold f_X10_read_28 at h
  rcases o_bif h with ⟨hb1, h⟩ | ⟨hb1, h⟩
  · refine ev_goF kc_100 3 (t := 37) (e := 31) (L' := [some (.ref 1), some (.ref o1), some (.int (mB s0)), some (.int l3)]) (st' := []) rfl (mB_e0f hb1) ?_
    refine ev_go kc_100 2 (i' := 33) (L' := [some (.ref 1), some (.ref o1), some (.int (mB s0)), some (.int l3)]) (st' := [.int (59 : Int32), .ref 1]) (M' := M0) rfl ?_
    obtain ⟨v2, M2, hc2, h⟩ := o_b2 h
    refine ev_cl0 (ins := .invokevirtual 24) kc_100 rfl rfl (a := 67) (as := [.ref 1, .int (59 : Int32)]) (rest := []) rfl rfl (Cs.deep (c_X7_mustSign hc2) (by decide)) ?_
    rcases o_bif h with ⟨hb3, h⟩ | ⟨hb3, h⟩
    · refine ev_goT kc_100 1 (t := 37) (e := 35) (L' := [some (.ref 1), some (.ref o1), some (.int (mB s0)), some (.int l3)]) (st' := []) rfl (mB_n0t hb3) ?_
      refine ev_go kc_100 2 (i' := 11) (L' := [some (.ref 1), some (.ref o1), some (.int (mB s0)), some (.int (l3 + (1 : Int32)))]) (st' := []) (M' := M2) rfl ?_
      obtain rfl := Option.some.inj h
      exact Ev.forget (mLe.kp (mLe.kp (mLe.kp (mLe.kp mLe.nl)))) (hk.1 ((mB s0), (l3 + (1 : Int32)), M2) rfl)
    · refine ev_goF kc_100 1 (t := 37) (e := 35) (L' := [some (.ref 1), some (.ref o1), some (.int (mB s0)), some (.int l3)]) (st' := []) rfl (mB_n0f hb3) ?_
      refine ev_go kc_100 1 (i' := 36) (L' := [some (.ref 1), some (.ref o1), some (.int (mB s0)), some (.int l3)]) (st' := [.int (0 : Int32)]) (M' := M2) rfl ?_
      obtain rfl := Option.some.inj h
      rw [show _ from (hk.2 _ rfl)]
      exact ev_ret kc_100 rfl rfl rfl
  · refine ev_goT kc_100 3 (t := 37) (e := 31) (L' := [some (.ref 1), some (.ref o1), some (.int (mB s0)), some (.int l3)]) (st' := []) rfl (mB_e0t hb1) ?_
    refine ev_go kc_100 2 (i' := 11) (L' := [some (.ref 1), some (.ref o1), some (.int (mB s0)), some (.int (l3 + (1 : Int32)))]) (st' := []) (M' := M0) rfl ?_
    obtain rfl := Option.some.inj h
    exact Ev.forget (mLe.kp (mLe.kp (mLe.kp (mLe.kp mLe.nl)))) (hk.1 ((mB s0), (l3 + (1 : Int32)), M0) rfl)
def f_X10_read_39 (o1 : Nat) (l2 : Int32) (M0 : mM) : Option (Bool × mM) :=
  bif decide (l2 = 0) then (b2 (f_X9_settle o1 M0) (fun v5 M5 => b2 (f_X9_stands o1 (M5 o1 1) (M5 o1 2) M5) (fun v6 M6 => bif v6 then (some (true, M6)) else (b2 (f_X7_wrong (M6 1 1) M6) (fun v8 M8 => bif v8 then (some (true, M8)) else (some (false, M8))))))) else (b2 (f_X7_wrong (M0 1 2) M0) (fun v10 M10 => some (v10, M10)))
set_option maxRecDepth 8000 in
theorem e_X10_read_39 {o1 : Nat} {l2 : Int32} {M0 : mM} {R : mZ} {out : (Bool × mM)} (go1 : mTwB o1 = true) (h : f_X10_read_39 o1 l2 M0 = some out) (hk : R = emW eB out) : Ev (12) 100 39 [some (.ref 1), some (.ref o1), some (.int l2), none] [] M0 R := by
  unfold f_X10_read_39 at h
  rcases o_bif h with ⟨hb4, h⟩ | ⟨hb4, h⟩
  · refine ev_goT kc_100 2 (t := 46) (e := 41) (L' := [some (.ref 1), some (.ref o1), some (.int l2), none]) (st' := []) rfl hb4 ?_
    refine ev_go kc_100 1 (i' := 47) (L' := [some (.ref 1), some (.ref o1), some (.int l2), none]) (st' := [.ref o1]) (M' := M0) rfl ?_
    obtain ⟨v5, M5, hc5, h⟩ := o_b2 h
    refine ev_cl0 (ins := .invokevirtual 36) kc_100 rfl rfl (a := 88) (as := [.ref o1]) (rest := []) rfl (m_rec (mTw0 go1)) (Cs.deep (c_X9_settle hc5) (by decide)) ?_
    refine ev_go kc_100 2 (i' := 50) (L' := [some (.ref 1), some (.ref o1), some (.int l2), none]) (st' := [.ref o1, .ref o1]) (M' := M5) rfl ?_
    refine ev_gf kc_100 rfl (mTw0 go1) rfl ?_
    refine ev_go kc_100 1 (i' := 52) (L' := [some (.ref 1), some (.ref o1), some (.int l2), none]) (st' := [.ref o1, .int (M5 o1 1), .ref o1]) (M' := M5) rfl ?_
    refine ev_gf kc_100 rfl (mTw0 go1) rfl ?_
    obtain ⟨v6, M6, hc6, h⟩ := o_b2 h
    refine ev_cl0 (ins := .invokevirtual 47) kc_100 rfl rfl (a := 93) (as := [.ref o1, .int (M5 o1 1), .int (M5 o1 2)]) (rest := []) rfl (m_rec (mTw0 go1)) (Cs.deep (c_X9_stands hc6) (by decide)) ?_
    rcases o_bif h with ⟨hb7, h⟩ | ⟨hb7, h⟩
    · refine ev_goT kc_100 1 (t := 60) (e := 55) (L' := [some (.ref 1), some (.ref o1), some (.int l2), none]) (st' := []) rfl (mB_n0t hb7) ?_
      refine ev_go kc_100 2 (i' := 63) (L' := [some (.ref 1), some (.ref o1), some (.int l2), none]) (st' := [.int (1 : Int32)]) (M' := M6) rfl ?_
      obtain rfl := Option.some.inj h
      rw [hk]
      exact ev_ret kc_100 rfl rfl rfl
    · refine ev_goF kc_100 1 (t := 60) (e := 55) (L' := [some (.ref 1), some (.ref o1), some (.int l2), none]) (st' := []) rfl (mB_n0f hb7) ?_
      refine ev_go kc_100 3 (i' := 58) (L' := [some (.ref 1), some (.ref o1), some (.int l2), none]) (st' := [.int (M6 1 1), .ref 1]) (M' := M6) rfl ?_
      obtain ⟨v8, M8, hc8, h⟩ := o_b2 h
      refine ev_cl0 (ins := .invokevirtual 32) kc_100 rfl rfl (a := 62) (as := [.ref 1, .int (M6 1 1)]) (rest := []) rfl rfl (Cs.deep (c_X7_wrong hc8) (by decide)) ?_
      rcases o_bif h with ⟨hb9, h⟩ | ⟨hb9, h⟩
      · refine ev_goF kc_100 1 (t := 62) (e := 60) (L' := [some (.ref 1), some (.ref o1), some (.int l2), none]) (st' := []) rfl (mB_e0f hb9) ?_
        refine ev_go kc_100 2 (i' := 63) (L' := [some (.ref 1), some (.ref o1), some (.int l2), none]) (st' := [.int (1 : Int32)]) (M' := M8) rfl ?_
        obtain rfl := Option.some.inj h
        rw [hk]
        exact ev_ret kc_100 rfl rfl rfl
      · refine ev_goT kc_100 1 (t := 62) (e := 60) (L' := [some (.ref 1), some (.ref o1), some (.int l2), none]) (st' := []) rfl (mB_e0t hb9) ?_
        refine ev_go kc_100 1 (i' := 63) (L' := [some (.ref 1), some (.ref o1), some (.int l2), none]) (st' := [.int (0 : Int32)]) (M' := M8) rfl ?_
        obtain rfl := Option.some.inj h
        rw [hk]
        exact ev_ret kc_100 rfl rfl rfl
  · refine ev_goF kc_100 2 (t := 46) (e := 41) (L' := [some (.ref 1), some (.ref o1), some (.int l2), none]) (st' := []) rfl hb4 ?_
    refine ev_go kc_100 3 (i' := 44) (L' := [some (.ref 1), some (.ref o1), some (.int l2), none]) (st' := [.int (M0 1 2), .ref 1]) (M' := M0) rfl ?_
    obtain ⟨v10, M10, hc10, h⟩ := o_b2 h
    refine ev_cl0 (ins := .invokevirtual 32) kc_100 rfl rfl (a := 62) (as := [.ref 1, .int (M0 1 2)]) (rest := []) rfl rfl (Cs.deep (c_X7_wrong hc10) (by decide)) ?_
    obtain rfl := Option.some.inj h
    rw [hk]
    exact ev_ret kc_100 rfl rfl mB_rok
def f_X10_read_11 (o1 : Nat) (l2 : Int32) (l3 : Int32) (M0 : mM) : Option ((Bool × mM) ⊕ (Int32 × Int32 × mM)) :=
  bif decide ((14 : Int32) ≤ l3) then (b1 (f_X10_read_39 o1 l2 M0) (fun r12 => some (.inl r12))) else (bif decide (l2 = 0) then (b1 (f_X10_read_39 o1 l2 M0) (fun r14 => some (.inl r14))) else (b2 (f_X10_readLine o1 M0) (fun v15 M15 => bif v15 then (b1 (f_X7_ended M15) (fun v17 => bif v17 then (f_X10_read_28 o1 l3 false M15) else (f_X10_read_28 o1 l3 true M15))) else (some (.inl (false, M15))))))
set_option maxRecDepth 8000 in
theorem e_X10_read_11 {o1 : Nat} {l2 : Int32} {l3 : Int32} {M0 : mM} {R : mZ} {out : ((Bool × mM) ⊕ (Int32 × Int32 × mM))} (go1 : mTwB o1 = true) (h : f_X10_read_11 o1 l2 l3 M0 = some out) (hk : (∀ s' : Int32 × Int32 × mM, out = .inr s' → Ev (12) 100 11 [some (.ref 1), some (.ref o1), some (.int s'.1), some (.int s'.2.1)] [] (s'.2.2) R) ∧ (∀ e1 : (Bool × mM), out = .inl e1 → R = emW eB e1)) : Ev (12) 100 11 [some (.ref 1), some (.ref o1), some (.int l2), some (.int l3)] [] M0 R := by
  unfold f_X10_read_11 at h
  rcases o_bif h with ⟨hb11, h⟩ | ⟨hb11, h⟩
  · refine ev_goT kc_100 3 (t := 39) (e := 14) (L' := [some (.ref 1), some (.ref o1), some (.int l2), some (.int l3)]) (st' := []) rfl hb11 ?_
    obtain ⟨r12, hr12, h⟩ := o_b1 h
    obtain rfl := Option.some.inj h
    exact Ev.forget (mLe.kp (mLe.kp (mLe.kp (mLe.sk mLe.nl)))) (e_X10_read_39 go1 hr12 (hk.2 _ rfl))
  · refine ev_goF kc_100 3 (t := 39) (e := 14) (L' := [some (.ref 1), some (.ref o1), some (.int l2), some (.int l3)]) (st' := []) rfl hb11 ?_
    rcases o_bif h with ⟨hb13, h⟩ | ⟨hb13, h⟩
    · refine ev_goT kc_100 2 (t := 39) (e := 16) (L' := [some (.ref 1), some (.ref o1), some (.int l2), some (.int l3)]) (st' := []) rfl hb13 ?_
      obtain ⟨r14, hr14, h⟩ := o_b1 h
      obtain rfl := Option.some.inj h
      exact Ev.forget (mLe.kp (mLe.kp (mLe.kp (mLe.sk mLe.nl)))) (e_X10_read_39 go1 hr14 (hk.2 _ rfl))
    · refine ev_goF kc_100 2 (t := 39) (e := 16) (L' := [some (.ref 1), some (.ref o1), some (.int l2), some (.int l3)]) (st' := []) rfl hb13 ?_
      refine ev_go kc_100 2 (i' := 18) (L' := [some (.ref 1), some (.ref o1), some (.int l2), some (.int l3)]) (st' := [.ref o1, .ref 1]) (M' := M0) rfl ?_
      obtain ⟨v15, M15, hc15, h⟩ := o_b2 h
      refine ev_cl0 (ins := .invokestatic 20) kc_100 rfl rfl (a := 101) (as := [.ref 1, .ref o1]) (rest := []) rfl rfl (Cs.deep (c_X10_readLine hc15) (by decide)) ?_
      rcases o_bif h with ⟨hb16, h⟩ | ⟨hb16, h⟩
      · refine ev_goT kc_100 1 (t := 22) (e := 20) (L' := [some (.ref 1), some (.ref o1), some (.int l2), some (.int l3)]) (st' := []) rfl (mB_n0t hb16) ?_
        refine ev_go kc_100 1 (i' := 23) (L' := [some (.ref 1), some (.ref o1), some (.int l2), some (.int l3)]) (st' := [.ref 1]) (M' := M15) rfl ?_
        obtain ⟨v17, hc17, h⟩ := o_b1 h
        refine ev_cl0 (ins := .invokevirtual 14) kc_100 rfl rfl (a := 61) (as := [.ref 1]) (rest := []) rfl rfl (Cs.deep (c_X7_ended (M0 := M15) hc17) (by decide)) ?_
        rcases o_bif h with ⟨hb18, h⟩ | ⟨hb18, h⟩
        · refine ev_goT kc_100 1 (t := 27) (e := 25) (L' := [some (.ref 1), some (.ref o1), some (.int l2), some (.int l3)]) (st' := []) rfl (mB_n0t hb18) ?_
          refine ev_go kc_100 1 (i' := 28) (L' := [some (.ref 1), some (.ref o1), some (.int l2), some (.int l3)]) (st' := [.int (0 : Int32)]) (M' := M15) rfl ?_
          exact Ev.forget (mLe.kp (mLe.kp (mLe.sk (mLe.kp mLe.nl)))) (e_X10_read_28 go1 h hk)
        · refine ev_goF kc_100 1 (t := 27) (e := 25) (L' := [some (.ref 1), some (.ref o1), some (.int l2), some (.int l3)]) (st' := []) rfl (mB_n0f hb18) ?_
          refine ev_go kc_100 2 (i' := 28) (L' := [some (.ref 1), some (.ref o1), some (.int l2), some (.int l3)]) (st' := [.int (1 : Int32)]) (M' := M15) rfl ?_
          exact Ev.forget (mLe.kp (mLe.kp (mLe.sk (mLe.kp mLe.nl)))) (e_X10_read_28 go1 h hk)
      · refine ev_goF kc_100 1 (t := 22) (e := 20) (L' := [some (.ref 1), some (.ref o1), some (.int l2), some (.int l3)]) (st' := []) rfl (mB_n0f hb16) ?_
        refine ev_go kc_100 1 (i' := 21) (L' := [some (.ref 1), some (.ref o1), some (.int l2), some (.int l3)]) (st' := [.int (0 : Int32)]) (M' := M15) rfl ?_
        obtain rfl := Option.some.inj h
        rw [show _ from (hk.2 _ rfl)]
        exact ev_ret kc_100 rfl rfl rfl
def f_X10_read_l11 (o1 : Nat) (l2 : Int32) (l3 : Int32) (M0 : mM) : Option (Bool × mM) :=
  wh 100000 (fun s : Int32 × Int32 × mM => f_X10_read_11 o1 s.1 s.2.1 s.2.2) (l2, l3, M0)
theorem e_X10_read_l11 {o1 : Nat} {l2 : Int32} {l3 : Int32} {M0 : mM} {R : mZ} {out : (Bool × mM)} (go1 : mTwB o1 = true) (h : f_X10_read_l11 o1 l2 l3 M0 = some out) (hk : R = emW eB out) : Ev (12) 100 11 [some (.ref 1), some (.ref o1), some (.int l2), some (.int l3)] [] M0 R := by
  unfold f_X10_read_l11 at h
  exact wh_ev (P := fun s : Int32 × Int32 × mM => Ev (12) 100 11 [some (.ref 1), some (.ref o1), some (.int s.1), some (.int s.2.1)] [] s.2.2 R) (Q := fun e : (Bool × mM) => R = emW eB e) (fun s o hb h1 h2 => e_X10_read_11 go1 hb ⟨h1, h2⟩) 100000 _ _ h hk
def f_X10_read (o1 : Nat) (M0 : mM) : Option (Bool × mM) :=
  gd (mTwB o1) (b2 (f_X7_rewind M0) (fun v19 M19 => b1 (f_X7_ended M19) (fun v20 => bif v20 then (f_X10_read_l11 o1 (0 : Int32) (0 : Int32) M19) else (f_X10_read_l11 o1 (1 : Int32) (0 : Int32) M19))))
set_option maxRecDepth 8000 in
theorem c_X10_read {o1 : Nat} {M0 : mM} {out : (Bool × mM)} (h : f_X10_read o1 M0 = some out) : Cs (12) 100 [.ref 1, .ref o1] M0 (emW eB out) := by
  generalize hk : emW eB out = R
  replace hk := hk.symm
  unfold f_X10_read at h
  obtain ⟨go1, h⟩ := o_gd h
  show Ev (12) 100 0 [some (.ref 1), some (.ref o1), none, none] [] M0 R
  refine ev_go kc_100 1 (i' := 1) (L' := [some (.ref 1), some (.ref o1), none, none]) (st' := [.ref 1]) (M' := M0) rfl ?_
  obtain ⟨v19, M19, hc19, h⟩ := o_b2 h
  refine ev_cl0 (ins := .invokevirtual 9) kc_100 rfl rfl (a := 59) (as := [.ref 1]) (rest := []) rfl rfl (Cs.deep (c_X7_rewind hc19) (by decide)) ?_
  refine ev_go kc_100 1 (i' := 3) (L' := [some (.ref 1), some (.ref o1), none, none]) (st' := [.ref 1]) (M' := M19) rfl ?_
  obtain ⟨v20, hc20, h⟩ := o_b1 h
  refine ev_cl0 (ins := .invokevirtual 14) kc_100 rfl rfl (a := 61) (as := [.ref 1]) (rest := []) rfl rfl (Cs.deep (c_X7_ended (M0 := M19) hc20) (by decide)) ?_
  rcases o_bif h with ⟨hb21, h⟩ | ⟨hb21, h⟩
  · refine ev_goT kc_100 1 (t := 7) (e := 5) (L' := [some (.ref 1), some (.ref o1), none, none]) (st' := []) rfl (mB_n0t hb21) ?_
    refine ev_go kc_100 4 (i' := 11) (L' := [some (.ref 1), some (.ref o1), some (.int (0 : Int32)), some (.int (0 : Int32))]) (st' := []) (M' := M19) rfl ?_
    exact Ev.forget (mLe.kp (mLe.kp (mLe.kp (mLe.kp mLe.nl)))) (e_X10_read_l11 go1 h hk)
  · refine ev_goF kc_100 1 (t := 7) (e := 5) (L' := [some (.ref 1), some (.ref o1), none, none]) (st' := []) rfl (mB_n0f hb21) ?_
    refine ev_go kc_100 5 (i' := 11) (L' := [some (.ref 1), some (.ref o1), some (.int (1 : Int32)), some (.int (0 : Int32))]) (st' := []) (M' := M19) rfl ?_
    exact Ev.forget (mLe.kp (mLe.kp (mLe.kp (mLe.kp mLe.nl)))) (e_X10_read_l11 go1 h hk)
/-- WakeTower.feed(IIIII)I: 105, W -/
theorem kc_105 : mKc 105 = k_X11_feed := rfl
def f_X11_feed (p1 : Int32) (p2 : Int32) (p3 : Int32) (p4 : Int32) (p5 : Int32) (M0 : mM) : Option (Int32 × mM) :=
  b1 (f_X7_hasRoom M0) (fun v1 => bif v1 then (b2 (f_X7_append p1 M0) (fun v3 M3 => b2 (f_X7_append p2 M3) (fun v4 M4 => b2 (f_X7_append p3 M4) (fun v5 M5 => b2 (f_X7_append p4 M5) (fun v6 M6 => b2 (f_X7_append p5 M6) (fun v7 M7 => some ((M7 1 1), M7))))))) else (some ((-1 : Int32), M0)))
set_option maxRecDepth 8000 in
theorem c_X11_feed {p1 : Int32} {p2 : Int32} {p3 : Int32} {p4 : Int32} {p5 : Int32} {M0 : mM} {out : (Int32 × mM)} (h : f_X11_feed p1 p2 p3 p4 p5 M0 = some out) : Cs (1) 105 [.ref 0, .int p1, .int p2, .int p3, .int p4, .int p5] M0 (emW eI out) := by
  generalize hk : emW eI out = R
  replace hk := hk.symm
  unfold f_X11_feed at h
  show Ev (1) 105 0 [some (.ref 0), some (.int p1), some (.int p2), some (.int p3), some (.int p4), some (.int p5)] [] M0 R
  refine ev_go kc_105 2 (i' := 2) (L' := [some (.ref 0), some (.int p1), some (.int p2), some (.int p3), some (.int p4), some (.int p5)]) (st' := [.ref 1]) (M' := M0) rfl ?_
  obtain ⟨v1, hc1, h⟩ := o_b1 h
  refine ev_cl0 (ins := .invokevirtual 74) kc_105 rfl rfl (a := 56) (as := [.ref 1]) (rest := []) rfl rfl (Cs.deep (c_X7_hasRoom (M0 := M0) hc1) (by decide)) ?_
  rcases o_bif h with ⟨hb2, h⟩ | ⟨hb2, h⟩
  · refine ev_goT kc_105 1 (t := 6) (e := 4) (L' := [some (.ref 0), some (.int p1), some (.int p2), some (.int p3), some (.int p4), some (.int p5)]) (st' := []) rfl (mB_n0t hb2) ?_
    refine ev_go kc_105 3 (i' := 9) (L' := [some (.ref 0), some (.int p1), some (.int p2), some (.int p3), some (.int p4), some (.int p5)]) (st' := [.int p1, .ref 1]) (M' := M0) rfl ?_
    obtain ⟨v3, M3, hc3, h⟩ := o_b2 h
    refine ev_cl0 (ins := .invokevirtual 78) kc_105 rfl rfl (a := 57) (as := [.ref 1, .int p1]) (rest := []) rfl rfl (Cs.deep (c_X7_append hc3) (by decide)) ?_
    refine ev_go kc_105 3 (i' := 13) (L' := [some (.ref 0), some (.int p1), some (.int p2), some (.int p3), some (.int p4), some (.int p5)]) (st' := [.int p2, .ref 1]) (M' := M3) rfl ?_
    obtain ⟨v4, M4, hc4, h⟩ := o_b2 h
    refine ev_cl0 (ins := .invokevirtual 78) kc_105 rfl rfl (a := 57) (as := [.ref 1, .int p2]) (rest := []) rfl rfl (Cs.deep (c_X7_append hc4) (by decide)) ?_
    refine ev_go kc_105 3 (i' := 17) (L' := [some (.ref 0), some (.int p1), some (.int p2), some (.int p3), some (.int p4), some (.int p5)]) (st' := [.int p3, .ref 1]) (M' := M4) rfl ?_
    obtain ⟨v5, M5, hc5, h⟩ := o_b2 h
    refine ev_cl0 (ins := .invokevirtual 78) kc_105 rfl rfl (a := 57) (as := [.ref 1, .int p3]) (rest := []) rfl rfl (Cs.deep (c_X7_append hc5) (by decide)) ?_
    refine ev_go kc_105 3 (i' := 21) (L' := [some (.ref 0), some (.int p1), some (.int p2), some (.int p3), some (.int p4), some (.int p5)]) (st' := [.int p4, .ref 1]) (M' := M5) rfl ?_
    obtain ⟨v6, M6, hc6, h⟩ := o_b2 h
    refine ev_cl0 (ins := .invokevirtual 78) kc_105 rfl rfl (a := 57) (as := [.ref 1, .int p4]) (rest := []) rfl rfl (Cs.deep (c_X7_append hc6) (by decide)) ?_
    refine ev_go kc_105 3 (i' := 25) (L' := [some (.ref 0), some (.int p1), some (.int p2), some (.int p3), some (.int p4), some (.int p5)]) (st' := [.int p5, .ref 1]) (M' := M6) rfl ?_
    obtain ⟨v7, M7, hc7, h⟩ := o_b2 h
    refine ev_cl0 (ins := .invokevirtual 78) kc_105 rfl rfl (a := 57) (as := [.ref 1, .int p5]) (rest := []) rfl rfl (Cs.deep (c_X7_append hc7) (by decide)) ?_
    refine ev_go kc_105 3 (i' := 29) (L' := [some (.ref 0), some (.int p1), some (.int p2), some (.int p3), some (.int p4), some (.int p5)]) (st' := [.int (M7 1 1)]) (M' := M7) rfl ?_
    obtain rfl := Option.some.inj h
    rw [hk]
    exact ev_ret kc_105 rfl rfl rfl
  · refine ev_goF kc_105 1 (t := 6) (e := 4) (L' := [some (.ref 0), some (.int p1), some (.int p2), some (.int p3), some (.int p4), some (.int p5)]) (st' := []) rfl (mB_n0f hb2) ?_
    refine ev_go kc_105 1 (i' := 5) (L' := [some (.ref 0), some (.int p1), some (.int p2), some (.int p3), some (.int p4), some (.int p5)]) (st' := [.int (-1 : Int32)]) (M' := M0) rfl ?_
    obtain rfl := Option.some.inj h
    rw [hk]
    exact ev_ret kc_105 rfl rfl rfl
/-- WakeTower.end(I)Z: 106, W -/
theorem kc_106 : mKc 106 = k_X11_end := rfl
def f_X11_end (p1 : Int32) (M0 : mM) : Option (Bool × mM) :=
  bif decide (p1 < 0) then (some (false, M0)) else (bif decide (p1 ≤ (M0 1 1)) then (wr (mst M0 1 1 p1) (fun M3 => some (true, M3))) else (some (false, M0)))
set_option maxRecDepth 8000 in
theorem c_X11_end {p1 : Int32} {M0 : mM} {out : (Bool × mM)} (h : f_X11_end p1 M0 = some out) : Cs (0) 106 [.ref 0, .int p1] M0 (emW eB out) := by
  generalize hk : emW eB out = R
  replace hk := hk.symm
  unfold f_X11_end at h
  show Ev (0) 106 0 [some (.ref 0), some (.int p1)] [] M0 R
  rcases o_bif h with ⟨hb1, h⟩ | ⟨hb1, h⟩
  · refine ev_goT kc_106 2 (t := 7) (e := 2) (L' := [some (.ref 0), some (.int p1)]) (st' := []) rfl hb1 ?_
    refine ev_go kc_106 1 (i' := 8) (L' := [some (.ref 0), some (.int p1)]) (st' := [.int (0 : Int32)]) (M' := M0) rfl ?_
    obtain rfl := Option.some.inj h
    rw [hk]
    exact ev_ret kc_106 rfl rfl rfl
  · refine ev_goF kc_106 2 (t := 7) (e := 2) (L' := [some (.ref 0), some (.int p1)]) (st' := []) rfl hb1 ?_
    rcases o_bif h with ⟨hb2, h⟩ | ⟨hb2, h⟩
    · refine ev_goT kc_106 5 (t := 9) (e := 7) (L' := [some (.ref 0), some (.int p1)]) (st' := []) rfl hb2 ?_
      refine ev_go kc_106 3 (i' := 12) (L' := [some (.ref 0), some (.int p1)]) (st' := [.int p1, .ref 1]) (M' := M0) rfl ?_
      obtain ⟨M3, hM3, h⟩ := o_wr h
      refine ev_pf kc_106 rfl rfl rfl rfl (fun hc => absurd hc (by decide)) hM3 ?_
      refine ev_go kc_106 1 (i' := 14) (L' := [some (.ref 0), some (.int p1)]) (st' := [.int (1 : Int32)]) (M' := M3) rfl ?_
      obtain rfl := Option.some.inj h
      rw [hk]
      exact ev_ret kc_106 rfl rfl rfl
    · refine ev_goF kc_106 5 (t := 9) (e := 7) (L' := [some (.ref 0), some (.int p1)]) (st' := []) rfl hb2 ?_
      refine ev_go kc_106 1 (i' := 8) (L' := [some (.ref 0), some (.int p1)]) (st' := [.int (0 : Int32)]) (M' := M0) rfl ?_
      obtain rfl := Option.some.inj h
      rw [hk]
      exact ev_ret kc_106 rfl rfl rfl
/-- WakeTower.tower()I: 107, T -/
theorem kc_107 : mKc 107 = k_X11_tower := rfl
def f_X11_tower  (M0 : mM) : Option ((Int32 ⊕ Nat) × mM) :=
  b2 (f_X9_copyFrom 47 35 M0) (fun v1 M1 => b2 (f_X10_read 47 M1) (fun v2 M2 => wr (mst M2 1 1 (0 : Int32)) (fun M3 => bif v2 then (bif decide ((M3 35 7) < (12 : Int32)) then (wr (mst M3 47 7 ((M3 47 7) + (1 : Int32))) (fun M6 => b2 (f_X9_copyFrom 35 47 M6) (fun v7 M7 => b2 (f_X3_forget M7) (fun v8 M8 => some (.inl (M8 35 7), M8))))) else (some (.inr 1, M3))) else (some (.inr 0, M3)))))
set_option maxRecDepth 8000 in
theorem c_X11_tower  {M0 : mM} {out : ((Int32 ⊕ Nat) × mM)} (h : f_X11_tower M0 = some out) : Cs (13) 107 [.ref 0] M0 (emT eI out) := by
  generalize hk : emT eI out = R
  replace hk := hk.symm
  unfold f_X11_tower at h
  show Ev (13) 107 0 [some (.ref 0), none] [] M0 R
  refine ev_go kc_107 4 (i' := 4) (L' := [some (.ref 0), none]) (st' := [.ref 35, .ref 47]) (M' := M0) rfl ?_
  obtain ⟨v1, M1, hc1, h⟩ := o_b2 h
  refine ev_cl0 (ins := .invokevirtual 86) kc_107 rfl rfl (a := 73) (as := [.ref 47, .ref 35]) (rest := []) rfl rfl (Cs.deep (c_X9_copyFrom hc1) (by decide)) ?_
  refine ev_go kc_107 4 (i' := 9) (L' := [some (.ref 0), none]) (st' := [.ref 47, .ref 1]) (M' := M1) rfl ?_
  obtain ⟨v2, M2, hc2, h⟩ := o_b2 h
  refine ev_cl0 (ins := .invokestatic 90) kc_107 rfl rfl (a := 100) (as := [.ref 1, .ref 47]) (rest := []) rfl rfl (Cs.deep (c_X10_read hc2) (by decide)) ?_
  refine ev_go kc_107 4 (i' := 14) (L' := [some (.ref 0), some (.int (mB v2))]) (st' := [.int (0 : Int32), .ref 1]) (M' := M2) rfl ?_
  obtain ⟨M3, hM3, h⟩ := o_wr h
  refine ev_pf kc_107 rfl rfl rfl rfl (fun hc => absurd hc (by decide)) hM3 ?_
  rcases o_bif h with ⟨hb4, h⟩ | ⟨hb4, h⟩
  · refine ev_goT kc_107 2 (t := 22) (e := 17) (L' := [some (.ref 0), some (.int (mB v2))]) (st' := []) rfl (mB_n0t hb4) ?_
    rcases o_bif h with ⟨hb5, h⟩ | ⟨hb5, h⟩
    · refine ev_goT kc_107 5 (t := 32) (e := 27) (L' := [some (.ref 0), some (.int (mB v2))]) (st' := []) rfl hb5 ?_
      refine ev_go kc_107 6 (i' := 38) (L' := [some (.ref 0), some (.int (mB v2))]) (st' := [.int ((M3 47 7) + (1 : Int32)), .ref 47]) (M' := M3) rfl ?_
      obtain ⟨M6, hM6, h⟩ := o_wr h
      refine ev_pf kc_107 rfl rfl rfl rfl (fun hc => absurd hc (by decide)) hM6 ?_
      refine ev_go kc_107 4 (i' := 43) (L' := [some (.ref 0), some (.int (mB v2))]) (st' := [.ref 47, .ref 35]) (M' := M6) rfl ?_
      obtain ⟨v7, M7, hc7, h⟩ := o_b2 h
      refine ev_cl0 (ins := .invokevirtual 86) kc_107 rfl rfl (a := 73) (as := [.ref 35, .ref 47]) (rest := []) rfl rfl (Cs.deep (c_X9_copyFrom hc7) (by decide)) ?_
      refine ev_go kc_107 2 (i' := 46) (L' := [some (.ref 0), some (.int (mB v2))]) (st' := [.ref 3]) (M' := M7) rfl ?_
      obtain ⟨v8, M8, hc8, h⟩ := o_b2 h
      refine ev_cl0 (ins := .invokevirtual 111) kc_107 rfl rfl (a := 33) (as := [.ref 3]) (rest := []) rfl rfl (Cs.deep (c_X3_forget hc8) (by decide)) ?_
      refine ev_go kc_107 3 (i' := 50) (L' := [some (.ref 0), some (.int (mB v2))]) (st' := [.int (M8 35 7)]) (M' := M8) rfl ?_
      obtain rfl := Option.some.inj h
      rw [hk]
      exact ev_ret kc_107 rfl rfl rfl
    · refine ev_goF kc_107 5 (t := 32) (e := 27) (L' := [some (.ref 0), some (.int (mB v2))]) (st' := []) rfl hb5 ?_
      obtain rfl := Option.some.inj h
      rw [hk]
      exact ev_tr kc_107 rfl rfl rfl rfl rfl
  · refine ev_goF kc_107 2 (t := 22) (e := 17) (L' := [some (.ref 0), some (.int (mB v2))]) (st' := []) rfl (mB_n0f hb4) ?_
    obtain rfl := Option.some.inj h
    rw [hk]
    exact ev_tr kc_107 rfl rfl rfl rfl rfl
/-- WakeTower.fault()I: 109, R -/
theorem kc_109 : mKc 109 = k_X11_fault := rfl
def f_X11_fault  (M0 : mM) : Option Int32 :=
  some (M0 1 3)
set_option maxRecDepth 8000 in
theorem c_X11_fault  {M0 : mM} {out : Int32} (h : f_X11_fault M0 = some out) : Cs (0) 109 [.ref 0] M0 (emR eI M0 out) := by
  generalize hk : emR eI M0 out = R
  replace hk := hk.symm
  unfold f_X11_fault at h
  show Ev (0) 109 0 [some (.ref 0)] [] M0 R
  refine ev_go kc_109 3 (i' := 3) (L' := [some (.ref 0)]) (st' := [.int (M0 1 3)]) (M' := M0) rfl ?_
  obtain rfl := Option.some.inj h
  rw [hk]
  exact ev_ret kc_109 rfl rfl rfl
/-- WakeTower.mustBePerson(I)V: 170, T -/
theorem kc_170 : mKc 170 = k_X11_mustBePerson := rfl
def f_X11_mustBePerson (p1 : Int32) (M0 : mM) : Option ((Unit ⊕ Nat) × mM) :=
  b1 (f_X9_isPerson 35 p1 M0) (fun v1 => bif v1 then (some (.inl (), M0)) else (some (.inr 2, M0)))
set_option maxRecDepth 8000 in
theorem c_X11_mustBePerson {p1 : Int32} {M0 : mM} {out : ((Unit ⊕ Nat) × mM)} (h : f_X11_mustBePerson p1 M0 = some out) : Cs (8) 170 [.ref 0, .int p1] M0 (emT eU out) := by
  generalize hk : emT eU out = R
  replace hk := hk.symm
  unfold f_X11_mustBePerson at h
  show Ev (8) 170 0 [some (.ref 0), some (.int p1)] [] M0 R
  refine ev_go kc_170 3 (i' := 3) (L' := [some (.ref 0), some (.int p1)]) (st' := [.int p1, .ref 35]) (M' := M0) rfl ?_
  obtain ⟨v1, hc1, h⟩ := o_b1 h
  refine ev_cl0 (ins := .invokevirtual 368) kc_170 rfl rfl (a := 74) (as := [.ref 35, .int p1]) (rest := []) rfl rfl (Cs.deep (c_X9_isPerson (M0 := M0) hc1) (by decide)) ?_
  rcases o_bif h with ⟨hb2, h⟩ | ⟨hb2, h⟩
  · refine ev_goT kc_170 1 (t := 10) (e := 5) (L' := [some (.ref 0), some (.int p1)]) (st' := []) rfl (mB_n0t hb2) ?_
    obtain rfl := Option.some.inj h
    rw [hk]
    exact ev_vret kc_170 rfl rfl rfl
  · refine ev_goF kc_170 1 (t := 10) (e := 5) (L' := [some (.ref 0), some (.int p1)]) (st' := []) rfl (mB_n0f hb2) ?_
    obtain rfl := Option.some.inj h
    rw [hk]
    exact ev_tr kc_170 rfl rfl rfl rfl rfl
/-- WakeTower.shareOf(I)I: 111, R -/
theorem kc_111 : mKc 111 = k_X11_shareOf := rfl
def f_X11_shareOf (p1 : Int32) (M0 : mM) : Option Int32 :=
  b1 (f_X9_borneByAll 35 M0) (fun v1 => bif decide (v1 ≤ 0) then (some (0 : Int32)) else (gd (mIn p1 8) (gd (decide (¬ v1 = 0)) (some (((100 : Int32) * (M0 42 (ix p1))) / v1)))))
set_option maxRecDepth 8000 in
theorem c_X11_shareOf {p1 : Int32} {M0 : mM} {out : Int32} (h : f_X11_shareOf p1 M0 = some out) : Cs (1) 111 [.ref 0, .int p1] M0 (emR eI M0 out) := by
  generalize hk : emR eI M0 out = R
  replace hk := hk.symm
  unfold f_X11_shareOf at h
  show Ev (1) 111 0 [some (.ref 0), some (.int p1), none] [] M0 R
  refine ev_go kc_111 2 (i' := 2) (L' := [some (.ref 0), some (.int p1), none]) (st' := [.ref 35]) (M' := M0) rfl ?_
  obtain ⟨v1, hc1, h⟩ := o_b1 h
  refine ev_cl0 (ins := .invokevirtual 183) kc_111 rfl rfl (a := 80) (as := [.ref 35]) (rest := []) rfl rfl (Cs.deep (c_X9_borneByAll (M0 := M0) hc1) (by decide)) ?_
  rcases o_bif h with ⟨hb2, h⟩ | ⟨hb2, h⟩
  · refine ev_goT kc_111 3 (t := 16) (e := 6) (L' := [some (.ref 0), some (.int p1), some (.int v1)]) (st' := []) rfl hb2 ?_
    refine ev_go kc_111 1 (i' := 17) (L' := [some (.ref 0), some (.int p1), some (.int v1)]) (st' := [.int (0 : Int32)]) (M' := M0) rfl ?_
    obtain rfl := Option.some.inj h
    rw [hk]
    exact ev_ret kc_111 rfl rfl rfl
  · refine ev_goF kc_111 3 (t := 16) (e := 6) (L' := [some (.ref 0), some (.int p1), some (.int v1)]) (st' := []) rfl hb2 ?_
    refine ev_go kc_111 5 (i' := 11) (L' := [some (.ref 0), some (.int p1), some (.int v1)]) (st' := [.int p1, .ref 42, .int (100 : Int32)]) (M' := M0) rfl ?_
    obtain ⟨hg3, h⟩ := o_gd h
    refine ev_ia kc_111 rfl rfl hg3 ?_
    refine ev_go kc_111 2 (i' := 14) (L' := [some (.ref 0), some (.int p1), some (.int v1)]) (st' := [.int v1, .int ((100 : Int32) * (M0 42 (ix p1)))]) (M' := M0) rfl ?_
    obtain ⟨hg4, h⟩ := o_gd h
    refine ev_dv kc_111 rfl hg4 ?_
    refine ev_go kc_111 1 (i' := 17) (L' := [some (.ref 0), some (.int p1), some (.int v1)]) (st' := [.int (((100 : Int32) * (M0 42 (ix p1))) / v1)]) (M' := M0) rfl ?_
    obtain rfl := Option.some.inj h
    rw [hk]
    exact ev_ret kc_111 rfl rfl rfl
/-- WakeTower.person(II)I: 110, T -/
theorem kc_110 : mKc 110 = k_X11_person := rfl
def f_X11_person (p1 : Int32) (p2 : Int32) (M0 : mM) : Option ((Int32 ⊕ Nat) × mM) :=
  tb (f_X11_mustBePerson p1 M0) (fun v1 M1 => bif decide (swN p2 (0) 14 = 0) then (gd (mIn p1 8) (some (.inl (M1 36 (ix p1)), M1))) else (bif decide (swN p2 (0) 14 = 1) then (gd (mIn p1 8) (some (.inl (M1 37 (ix p1)), M1))) else (bif decide (swN p2 (0) 14 = 2) then (gd (mIn p1 8) (some (.inl (M1 38 (ix p1)), M1))) else (bif decide (swN p2 (0) 14 = 3) then (bif (f_X11_has (M1 35 2) p1) then (some (.inl (1 : Int32), M1)) else (some (.inl (0 : Int32), M1))) else (bif decide (swN p2 (0) 14 = 4) then (gd (mIn p1 8) (some (.inl (M1 39 (ix p1)), M1))) else (bif decide (swN p2 (0) 14 = 5) then (bif (f_X11_has (M1 35 1) p1) then (some (.inl (1 : Int32), M1)) else (some (.inl (0 : Int32), M1))) else (bif decide (swN p2 (0) 14 = 6) then (bif (f_X11_has (M1 35 1) p1) then (gd (mIn p1 8) (some (.inl (M1 40 (ix p1)), M1))) else (some (.inl (-1 : Int32), M1))) else (bif decide (swN p2 (0) 14 = 7) then (gd (mIn p1 8) (some (.inl (M1 41 (ix p1)), M1))) else (bif decide (swN p2 (0) 14 = 8) then (gd (mIn p1 8) (some (.inl (M1 42 (ix p1)), M1))) else (bif decide (swN p2 (0) 14 = 9) then (b2 (f_X0_amountOf 17 (0 : Int32) 35 p1 M1) (fun v24 M24 => some (.inl v24, M24))) else (bif decide (swN p2 (0) 14 = 10) then (b2 (f_X0_amountOf 17 (1 : Int32) 35 p1 M1) (fun v26 M26 => some (.inl v26, M26))) else (bif decide (swN p2 (0) 14 = 11) then (b2 (f_X0_amountOf 17 (2 : Int32) 35 p1 M1) (fun v28 M28 => some (.inl v28, M28))) else (bif decide (swN p2 (0) 14 = 12) then (b1 (f_X9_holders 35 M1) (fun v30 => bif (f_X11_has v30 p1) then (b1 (f_X9_spare 35 p1 M1) (fun v33 => some (.inl v33, M1))) else (some (.inl (0 : Int32), M1)))) else (bif decide (swN p2 (0) 14 = 13) then (b1 (f_X11_shareOf p1 M1) (fun v35 => some (.inl v35, M1))) else (some (.inr 3, M1))))))))))))))))
set_option maxRecDepth 8000 in
theorem c_X11_person {p1 : Int32} {p2 : Int32} {M0 : mM} {out : ((Int32 ⊕ Nat) × mM)} (h : f_X11_person p1 p2 M0 = some out) : Cs (10) 110 [.ref 0, .int p1, .int p2] M0 (emT eI out) := by
  generalize hk : emT eI out = R
  replace hk := hk.symm
  unfold f_X11_person at h
  show Ev (10) 110 0 [some (.ref 0), some (.int p1), some (.int p2), none] [] M0 R
  refine ev_go kc_110 2 (i' := 2) (L' := [some (.ref 0), some (.int p1), some (.int p2), none]) (st' := [.int p1, .ref 0]) (M' := M0) rfl ?_
  rcases o_tb h with ⟨v1, M1, hc1, h⟩ | ⟨E1, M1, hc1, h⟩
  rotate_left
  · subst h
    rw [hk]
    exact ev_clT (ins := .invokevirtual 128) kc_110 rfl rfl (a := 170) (as := [.ref 0, .int p1]) (rest := []) rfl rfl rfl rfl (Cs.deep (c_X11_mustBePerson hc1) (by decide))
  refine ev_cl0 (ins := .invokevirtual 128) kc_110 rfl rfl (a := 170) (as := [.ref 0, .int p1]) (rest := []) rfl rfl (Cs.deep (c_X11_mustBePerson hc1) (by decide)) ?_
  refine ev_go kc_110 4 (i' := 7) (L' := [some (.ref 0), some (.int p1), some (.int p2), none]) (st' := [.int p1, .int (M1 35 1)]) (M' := M1) rfl ?_
  refine ev_cl0 (ins := .invokestatic 134) kc_110 rfl rfl (a := 178) (as := [.int (M1 35 1), .int p1]) (rest := []) rfl rfl (Cs.deep (c_X11_has (M0 := M1)) (by decide)) ?_
  refine ev_go kc_110 2 (i' := 10) (L' := [some (.ref 0), some (.int p1), some (.int p2), some (.int (mB (f_X11_has (M1 35 1) p1)))]) (st' := [.int p2]) (M' := M1) rfl ?_
  rcases o_bif h with ⟨hb3, h⟩ | ⟨hb3, h⟩
  · refine ev_sw kc_110 rfl (n := 14) (t := 11) rfl rfl hb3 rfl rfl ?_
    refine ev_go kc_110 4 (i' := 15) (L' := [some (.ref 0), some (.int p1), some (.int p2), some (.int (mB (f_X11_has (M1 35 1) p1)))]) (st' := [.int p1, .ref 36]) (M' := M1) rfl ?_
    obtain ⟨hg4, h⟩ := o_gd h
    refine ev_ia kc_110 rfl rfl hg4 ?_
    obtain rfl := Option.some.inj h
    rw [hk]
    exact ev_ret kc_110 rfl rfl rfl
  rcases o_bif h with ⟨hb5, h⟩ | ⟨hb5, h⟩
  · refine ev_sw kc_110 rfl (n := 14) (t := 17) rfl rfl hb5 rfl rfl ?_
    refine ev_go kc_110 4 (i' := 21) (L' := [some (.ref 0), some (.int p1), some (.int p2), some (.int (mB (f_X11_has (M1 35 1) p1)))]) (st' := [.int p1, .ref 37]) (M' := M1) rfl ?_
    obtain ⟨hg6, h⟩ := o_gd h
    refine ev_ia kc_110 rfl rfl hg6 ?_
    obtain rfl := Option.some.inj h
    rw [hk]
    exact ev_ret kc_110 rfl rfl rfl
  rcases o_bif h with ⟨hb7, h⟩ | ⟨hb7, h⟩
  · refine ev_sw kc_110 rfl (n := 14) (t := 23) rfl rfl hb7 rfl rfl ?_
    refine ev_go kc_110 4 (i' := 27) (L' := [some (.ref 0), some (.int p1), some (.int p2), some (.int (mB (f_X11_has (M1 35 1) p1)))]) (st' := [.int p1, .ref 38]) (M' := M1) rfl ?_
    obtain ⟨hg8, h⟩ := o_gd h
    refine ev_ia kc_110 rfl rfl hg8 ?_
    obtain rfl := Option.some.inj h
    rw [hk]
    exact ev_ret kc_110 rfl rfl rfl
  rcases o_bif h with ⟨hb9, h⟩ | ⟨hb9, h⟩
  · refine ev_sw kc_110 rfl (n := 14) (t := 29) rfl rfl hb9 rfl rfl ?_
    refine ev_go kc_110 4 (i' := 33) (L' := [some (.ref 0), some (.int p1), some (.int p2), some (.int (mB (f_X11_has (M1 35 1) p1)))]) (st' := [.int p1, .int (M1 35 2)]) (M' := M1) rfl ?_
    refine ev_cl0 (ins := .invokestatic 134) kc_110 rfl rfl (a := 178) (as := [.int (M1 35 2), .int p1]) (rest := []) rfl rfl (Cs.deep (c_X11_has (M0 := M1)) (by decide)) ?_
    rcases o_bif h with ⟨hb11, h⟩ | ⟨hb11, h⟩
    · refine ev_goF kc_110 1 (t := 37) (e := 35) (L' := [some (.ref 0), some (.int p1), some (.int p2), some (.int (mB (f_X11_has (M1 35 1) p1)))]) (st' := []) rfl (mB_e0f hb11) ?_
      refine ev_go kc_110 2 (i' := 38) (L' := [some (.ref 0), some (.int p1), some (.int p2), some (.int (mB (f_X11_has (M1 35 1) p1)))]) (st' := [.int (1 : Int32)]) (M' := M1) rfl ?_
      obtain rfl := Option.some.inj h
      rw [hk]
      exact ev_ret kc_110 rfl rfl rfl
    · refine ev_goT kc_110 1 (t := 37) (e := 35) (L' := [some (.ref 0), some (.int p1), some (.int p2), some (.int (mB (f_X11_has (M1 35 1) p1)))]) (st' := []) rfl (mB_e0t hb11) ?_
      refine ev_go kc_110 1 (i' := 38) (L' := [some (.ref 0), some (.int p1), some (.int p2), some (.int (mB (f_X11_has (M1 35 1) p1)))]) (st' := [.int (0 : Int32)]) (M' := M1) rfl ?_
      obtain rfl := Option.some.inj h
      rw [hk]
      exact ev_ret kc_110 rfl rfl rfl
  rcases o_bif h with ⟨hb12, h⟩ | ⟨hb12, h⟩
  · refine ev_sw kc_110 rfl (n := 14) (t := 39) rfl rfl hb12 rfl rfl ?_
    refine ev_go kc_110 4 (i' := 43) (L' := [some (.ref 0), some (.int p1), some (.int p2), some (.int (mB (f_X11_has (M1 35 1) p1)))]) (st' := [.int p1, .ref 39]) (M' := M1) rfl ?_
    obtain ⟨hg13, h⟩ := o_gd h
    refine ev_ia kc_110 rfl rfl hg13 ?_
    obtain rfl := Option.some.inj h
    rw [hk]
    exact ev_ret kc_110 rfl rfl rfl
  rcases o_bif h with ⟨hb14, h⟩ | ⟨hb14, h⟩
  · refine ev_sw kc_110 rfl (n := 14) (t := 45) rfl rfl hb14 rfl rfl ?_
    rcases o_bif h with ⟨hb15, h⟩ | ⟨hb15, h⟩
    · refine ev_goF kc_110 2 (t := 49) (e := 47) (L' := [some (.ref 0), some (.int p1), some (.int p2), some (.int (mB (f_X11_has (M1 35 1) p1)))]) (st' := []) rfl (mB_e0f hb15) ?_
      refine ev_go kc_110 2 (i' := 50) (L' := [some (.ref 0), some (.int p1), some (.int p2), some (.int (mB (f_X11_has (M1 35 1) p1)))]) (st' := [.int (1 : Int32)]) (M' := M1) rfl ?_
      obtain rfl := Option.some.inj h
      rw [hk]
      exact ev_ret kc_110 rfl rfl rfl
    · refine ev_goT kc_110 2 (t := 49) (e := 47) (L' := [some (.ref 0), some (.int p1), some (.int p2), some (.int (mB (f_X11_has (M1 35 1) p1)))]) (st' := []) rfl (mB_e0t hb15) ?_
      refine ev_go kc_110 1 (i' := 50) (L' := [some (.ref 0), some (.int p1), some (.int p2), some (.int (mB (f_X11_has (M1 35 1) p1)))]) (st' := [.int (0 : Int32)]) (M' := M1) rfl ?_
      obtain rfl := Option.some.inj h
      rw [hk]
      exact ev_ret kc_110 rfl rfl rfl
  rcases o_bif h with ⟨hb16, h⟩ | ⟨hb16, h⟩
  · refine ev_sw kc_110 rfl (n := 14) (t := 51) rfl rfl hb16 rfl rfl ?_
    rcases o_bif h with ⟨hb17, h⟩ | ⟨hb17, h⟩
    · refine ev_goF kc_110 2 (t := 59) (e := 53) (L' := [some (.ref 0), some (.int p1), some (.int p2), some (.int (mB (f_X11_has (M1 35 1) p1)))]) (st' := []) rfl (mB_e0f hb17) ?_
      refine ev_go kc_110 4 (i' := 57) (L' := [some (.ref 0), some (.int p1), some (.int p2), some (.int (mB (f_X11_has (M1 35 1) p1)))]) (st' := [.int p1, .ref 40]) (M' := M1) rfl ?_
      obtain ⟨hg18, h⟩ := o_gd h
      refine ev_ia kc_110 rfl rfl hg18 ?_
      refine ev_go kc_110 1 (i' := 60) (L' := [some (.ref 0), some (.int p1), some (.int p2), some (.int (mB (f_X11_has (M1 35 1) p1)))]) (st' := [.int (M1 40 (ix p1))]) (M' := M1) rfl ?_
      obtain rfl := Option.some.inj h
      rw [hk]
      exact ev_ret kc_110 rfl rfl rfl
    · refine ev_goT kc_110 2 (t := 59) (e := 53) (L' := [some (.ref 0), some (.int p1), some (.int p2), some (.int (mB (f_X11_has (M1 35 1) p1)))]) (st' := []) rfl (mB_e0t hb17) ?_
      refine ev_go kc_110 1 (i' := 60) (L' := [some (.ref 0), some (.int p1), some (.int p2), some (.int (mB (f_X11_has (M1 35 1) p1)))]) (st' := [.int (-1 : Int32)]) (M' := M1) rfl ?_
      obtain rfl := Option.some.inj h
      rw [hk]
      exact ev_ret kc_110 rfl rfl rfl
  rcases o_bif h with ⟨hb19, h⟩ | ⟨hb19, h⟩
  · refine ev_sw kc_110 rfl (n := 14) (t := 61) rfl rfl hb19 rfl rfl ?_
    refine ev_go kc_110 4 (i' := 65) (L' := [some (.ref 0), some (.int p1), some (.int p2), some (.int (mB (f_X11_has (M1 35 1) p1)))]) (st' := [.int p1, .ref 41]) (M' := M1) rfl ?_
    obtain ⟨hg20, h⟩ := o_gd h
    refine ev_ia kc_110 rfl rfl hg20 ?_
    obtain rfl := Option.some.inj h
    rw [hk]
    exact ev_ret kc_110 rfl rfl rfl
  rcases o_bif h with ⟨hb21, h⟩ | ⟨hb21, h⟩
  · refine ev_sw kc_110 rfl (n := 14) (t := 67) rfl rfl hb21 rfl rfl ?_
    refine ev_go kc_110 4 (i' := 71) (L' := [some (.ref 0), some (.int p1), some (.int p2), some (.int (mB (f_X11_has (M1 35 1) p1)))]) (st' := [.int p1, .ref 42]) (M' := M1) rfl ?_
    obtain ⟨hg22, h⟩ := o_gd h
    refine ev_ia kc_110 rfl rfl hg22 ?_
    obtain rfl := Option.some.inj h
    rw [hk]
    exact ev_ret kc_110 rfl rfl rfl
  rcases o_bif h with ⟨hb23, h⟩ | ⟨hb23, h⟩
  · refine ev_sw kc_110 rfl (n := 14) (t := 73) rfl rfl hb23 rfl rfl ?_
    refine ev_go kc_110 6 (i' := 79) (L' := [some (.ref 0), some (.int p1), some (.int p2), some (.int (mB (f_X11_has (M1 35 1) p1)))]) (st' := [.int p1, .ref 35, .int (0 : Int32), .ref 17]) (M' := M1) rfl ?_
    obtain ⟨v24, M24, hc24, h⟩ := o_b2 h
    refine ev_cl0 (ins := .invokevirtual 163) kc_110 rfl rfl (a := 16) (as := [.ref 17, .int (0 : Int32), .ref 35, .int p1]) (rest := []) rfl rfl (Cs.deep (c_X0_amountOf hc24) (by decide)) ?_
    obtain rfl := Option.some.inj h
    rw [hk]
    exact ev_ret kc_110 rfl rfl rfl
  rcases o_bif h with ⟨hb25, h⟩ | ⟨hb25, h⟩
  · refine ev_sw kc_110 rfl (n := 14) (t := 81) rfl rfl hb25 rfl rfl ?_
    refine ev_go kc_110 6 (i' := 87) (L' := [some (.ref 0), some (.int p1), some (.int p2), some (.int (mB (f_X11_has (M1 35 1) p1)))]) (st' := [.int p1, .ref 35, .int (1 : Int32), .ref 17]) (M' := M1) rfl ?_
    obtain ⟨v26, M26, hc26, h⟩ := o_b2 h
    refine ev_cl0 (ins := .invokevirtual 163) kc_110 rfl rfl (a := 16) (as := [.ref 17, .int (1 : Int32), .ref 35, .int p1]) (rest := []) rfl rfl (Cs.deep (c_X0_amountOf hc26) (by decide)) ?_
    obtain rfl := Option.some.inj h
    rw [hk]
    exact ev_ret kc_110 rfl rfl rfl
  rcases o_bif h with ⟨hb27, h⟩ | ⟨hb27, h⟩
  · refine ev_sw kc_110 rfl (n := 14) (t := 89) rfl rfl hb27 rfl rfl ?_
    refine ev_go kc_110 6 (i' := 95) (L' := [some (.ref 0), some (.int p1), some (.int p2), some (.int (mB (f_X11_has (M1 35 1) p1)))]) (st' := [.int p1, .ref 35, .int (2 : Int32), .ref 17]) (M' := M1) rfl ?_
    obtain ⟨v28, M28, hc28, h⟩ := o_b2 h
    refine ev_cl0 (ins := .invokevirtual 163) kc_110 rfl rfl (a := 16) (as := [.ref 17, .int (2 : Int32), .ref 35, .int p1]) (rest := []) rfl rfl (Cs.deep (c_X0_amountOf hc28) (by decide)) ?_
    obtain rfl := Option.some.inj h
    rw [hk]
    exact ev_ret kc_110 rfl rfl rfl
  rcases o_bif h with ⟨hb29, h⟩ | ⟨hb29, h⟩
  · refine ev_sw kc_110 rfl (n := 14) (t := 97) rfl rfl hb29 rfl rfl ?_
    refine ev_go kc_110 2 (i' := 99) (L' := [some (.ref 0), some (.int p1), some (.int p2), some (.int (mB (f_X11_has (M1 35 1) p1)))]) (st' := [.ref 35]) (M' := M1) rfl ?_
    obtain ⟨v30, hc30, h⟩ := o_b1 h
    refine ev_cl0 (ins := .invokevirtual 167) kc_110 rfl rfl (a := 76) (as := [.ref 35]) (rest := []) rfl rfl (Cs.deep (c_X9_holders (M0 := M1) hc30) (by decide)) ?_
    refine ev_go kc_110 1 (i' := 101) (L' := [some (.ref 0), some (.int p1), some (.int p2), some (.int (mB (f_X11_has (M1 35 1) p1)))]) (st' := [.int p1, .int v30]) (M' := M1) rfl ?_
    refine ev_cl0 (ins := .invokestatic 134) kc_110 rfl rfl (a := 178) (as := [.int v30, .int p1]) (rest := []) rfl rfl (Cs.deep (c_X11_has (M0 := M1)) (by decide)) ?_
    rcases o_bif h with ⟨hb32, h⟩ | ⟨hb32, h⟩
    · refine ev_goF kc_110 1 (t := 108) (e := 103) (L' := [some (.ref 0), some (.int p1), some (.int p2), some (.int (mB (f_X11_has (M1 35 1) p1)))]) (st' := []) rfl (mB_e0f hb32) ?_
      refine ev_go kc_110 3 (i' := 106) (L' := [some (.ref 0), some (.int p1), some (.int p2), some (.int (mB (f_X11_has (M1 35 1) p1)))]) (st' := [.int p1, .ref 35]) (M' := M1) rfl ?_
      obtain ⟨v33, hc33, h⟩ := o_b1 h
      refine ev_cl0 (ins := .invokevirtual 171) kc_110 rfl rfl (a := 79) (as := [.ref 35, .int p1]) (rest := []) rfl rfl (Cs.deep (c_X9_spare (M0 := M1) hc33) (by decide)) ?_
      refine ev_go kc_110 1 (i' := 109) (L' := [some (.ref 0), some (.int p1), some (.int p2), some (.int (mB (f_X11_has (M1 35 1) p1)))]) (st' := [.int v33]) (M' := M1) rfl ?_
      obtain rfl := Option.some.inj h
      rw [hk]
      exact ev_ret kc_110 rfl rfl rfl
    · refine ev_goT kc_110 1 (t := 108) (e := 103) (L' := [some (.ref 0), some (.int p1), some (.int p2), some (.int (mB (f_X11_has (M1 35 1) p1)))]) (st' := []) rfl (mB_e0t hb32) ?_
      refine ev_go kc_110 1 (i' := 109) (L' := [some (.ref 0), some (.int p1), some (.int p2), some (.int (mB (f_X11_has (M1 35 1) p1)))]) (st' := [.int (0 : Int32)]) (M' := M1) rfl ?_
      obtain rfl := Option.some.inj h
      rw [hk]
      exact ev_ret kc_110 rfl rfl rfl
  rcases o_bif h with ⟨hb34, h⟩ | ⟨hb34, h⟩
  · refine ev_sw kc_110 rfl (n := 14) (t := 110) rfl rfl hb34 rfl rfl ?_
    refine ev_go kc_110 2 (i' := 112) (L' := [some (.ref 0), some (.int p1), some (.int p2), some (.int (mB (f_X11_has (M1 35 1) p1)))]) (st' := [.int p1, .ref 0]) (M' := M1) rfl ?_
    obtain ⟨v35, hc35, h⟩ := o_b1 h
    refine ev_cl0 (ins := .invokevirtual 175) kc_110 rfl rfl (a := 111) (as := [.ref 0, .int p1]) (rest := []) rfl rfl (Cs.deep (c_X11_shareOf (M0 := M1) hc35) (by decide)) ?_
    obtain rfl := Option.some.inj h
    rw [hk]
    exact ev_ret kc_110 rfl rfl rfl
  have hsw : swN p2 (0) 14 = 14 := by
    have := swN_le p2 (0) 14
    have hb3 := of_decide_eq_false hb3
    have hb5 := of_decide_eq_false hb5
    have hb7 := of_decide_eq_false hb7
    have hb9 := of_decide_eq_false hb9
    have hb12 := of_decide_eq_false hb12
    have hb14 := of_decide_eq_false hb14
    have hb16 := of_decide_eq_false hb16
    have hb19 := of_decide_eq_false hb19
    have hb21 := of_decide_eq_false hb21
    have hb23 := of_decide_eq_false hb23
    have hb25 := of_decide_eq_false hb25
    have hb27 := of_decide_eq_false hb27
    have hb29 := of_decide_eq_false hb29
    have hb34 := of_decide_eq_false hb34
    omega
  refine ev_swD kc_110 rfl (n := 14) rfl rfl hsw ?_
  obtain rfl := Option.some.inj h
  rw [hk]
  exact ev_tr kc_110 rfl rfl rfl rfl rfl
/-- WakeTower.mustBeOne(Z)V: 172, T -/
theorem kc_172 : mKc 172 = k_X11_mustBeOne := rfl
def f_X11_mustBeOne (p0 : Bool) (M0 : mM) : Option ((Unit ⊕ Nat) × mM) :=
  bif p0 then (some (.inl (), M0)) else (some (.inr 0, M0))
set_option maxRecDepth 8000 in
theorem c_X11_mustBeOne {p0 : Bool} {M0 : mM} {out : ((Unit ⊕ Nat) × mM)} (h : f_X11_mustBeOne p0 M0 = some out) : Cs (8) 172 [.int (mB p0)] M0 (emT eU out) := by
  generalize hk : emT eU out = R
  replace hk := hk.symm
  unfold f_X11_mustBeOne at h
  show Ev (8) 172 0 [some (.int (mB p0))] [] M0 R
  rcases o_bif h with ⟨hb1, h⟩ | ⟨hb1, h⟩
  · refine ev_goT kc_172 2 (t := 7) (e := 2) (L' := [some (.int (mB p0))]) (st' := []) rfl (mB_n0t hb1) ?_
    obtain rfl := Option.some.inj h
    rw [hk]
    exact ev_vret kc_172 rfl rfl rfl
  · refine ev_goF kc_172 2 (t := 7) (e := 2) (L' := [some (.int (mB p0))]) (st' := []) rfl (mB_n0f hb1) ?_
    obtain rfl := Option.some.inj h
    rw [hk]
    exact ev_tr kc_172 rfl rfl rfl rfl rfl
/-- WakeTower.hours(I)I: 112, T -/
theorem kc_112 : mKc 112 = k_X11_hours := rfl
def f_X11_hours_9 (l1 : Int32) (s0 : Bool) (M0 : mM) : Option ((Int32 ⊕ Nat) × mM) :=
  tb (f_X11_mustBeOne s0 M0) (fun v1 M1 => b2 (f_X3_remember 35 M1) (fun v2 M2 => b2 (f_X9_passHours 35 17 l1 true M2) (fun v3 M3 => some (.inl v3, M3))))
set_option maxRecDepth 8000 in
theorem e_X11_hours_9 {l1 : Int32} {s0 : Bool} {M0 : mM} {R : mZ} {out : ((Int32 ⊕ Nat) × mM)}  (h : f_X11_hours_9 l1 s0 M0 = some out) (hk : R = emT eI out) : Ev (13) 112 9 [some (.ref 0), some (.int l1)] [.int (mB s0)] M0 R := by
  unfold f_X11_hours_9 at h
  rcases o_tb h with ⟨v1, M1, hc1, h⟩ | ⟨E1, M1, hc1, h⟩
  rotate_left
  · subst h
    rw [hk]
    exact ev_clT (ins := .invokestatic 186) kc_112 rfl rfl (a := 172) (as := [.int (mB s0)]) (rest := []) rfl rfl rfl rfl (Cs.deep (c_X11_mustBeOne hc1) (by decide))
  refine ev_cl0 (ins := .invokestatic 186) kc_112 rfl rfl (a := 172) (as := [.int (mB s0)]) (rest := []) rfl rfl (Cs.deep (c_X11_mustBeOne hc1) (by decide)) ?_
  refine ev_go kc_112 4 (i' := 14) (L' := [some (.ref 0), some (.int l1)]) (st' := [.ref 35, .ref 3]) (M' := M1) rfl ?_
  obtain ⟨v2, M2, hc2, h⟩ := o_b2 h
  refine ev_cl0 (ins := .invokevirtual 190) kc_112 rfl rfl (a := 34) (as := [.ref 3, .ref 35]) (rest := []) rfl rfl (Cs.deep (c_X3_remember hc2) (by decide)) ?_
  refine ev_go kc_112 6 (i' := 21) (L' := [some (.ref 0), some (.int l1)]) (st' := [.int (1 : Int32), .int l1, .ref 17, .ref 35]) (M' := M2) rfl ?_
  obtain ⟨v3, M3, hc3, h⟩ := o_b2 h
  refine ev_cl0 (ins := .invokevirtual 193) kc_112 rfl rfl (a := 95) (as := [.ref 35, .ref 17, .int l1, .int (mB true)]) (rest := []) rfl rfl (Cs.deep (c_X9_passHours hc3) (by decide)) ?_
  obtain rfl := Option.some.inj h
  rw [hk]
  exact ev_ret kc_112 rfl rfl rfl
def f_X11_hours_8 (l1 : Int32) (M0 : mM) : Option ((Int32 ⊕ Nat) × mM) :=
  f_X11_hours_9 l1 false M0
set_option maxRecDepth 8000 in
theorem e_X11_hours_8 {l1 : Int32} {M0 : mM} {R : mZ} {out : ((Int32 ⊕ Nat) × mM)}  (h : f_X11_hours_8 l1 M0 = some out) (hk : R = emT eI out) : Ev (13) 112 8 [some (.ref 0), some (.int l1)] [] M0 R := by
  unfold f_X11_hours_8 at h
  refine ev_go kc_112 1 (i' := 9) (L' := [some (.ref 0), some (.int l1)]) (st' := [.int (0 : Int32)]) (M' := M0) rfl ?_
  exact Ev.forget (mLe.kp (mLe.kp mLe.nl)) (e_X11_hours_9  h hk)
def f_X11_hours (p1 : Int32) (M0 : mM) : Option ((Int32 ⊕ Nat) × mM) :=
  bif decide (p1 < (1 : Int32)) then (f_X11_hours_8 p1 M0) else (bif decide ((60 : Int32) < p1) then (f_X11_hours_8 p1 M0) else (f_X11_hours_9 p1 true M0))
set_option maxRecDepth 8000 in
theorem c_X11_hours {p1 : Int32} {M0 : mM} {out : ((Int32 ⊕ Nat) × mM)} (h : f_X11_hours p1 M0 = some out) : Cs (13) 112 [.ref 0, .int p1] M0 (emT eI out) := by
  generalize hk : emT eI out = R
  replace hk := hk.symm
  unfold f_X11_hours at h
  show Ev (13) 112 0 [some (.ref 0), some (.int p1)] [] M0 R
  rcases o_bif h with ⟨hb4, h⟩ | ⟨hb4, h⟩
  · refine ev_goT kc_112 3 (t := 8) (e := 3) (L' := [some (.ref 0), some (.int p1)]) (st' := []) rfl hb4 ?_
    exact Ev.forget (mLe.kp (mLe.kp mLe.nl)) (e_X11_hours_8  h hk)
  · refine ev_goF kc_112 3 (t := 8) (e := 3) (L' := [some (.ref 0), some (.int p1)]) (st' := []) rfl hb4 ?_
    rcases o_bif h with ⟨hb5, h⟩ | ⟨hb5, h⟩
    · refine ev_goT kc_112 3 (t := 8) (e := 6) (L' := [some (.ref 0), some (.int p1)]) (st' := []) rfl hb5 ?_
      exact Ev.forget (mLe.kp (mLe.kp mLe.nl)) (e_X11_hours_8  h hk)
    · refine ev_goF kc_112 3 (t := 8) (e := 6) (L' := [some (.ref 0), some (.int p1)]) (st' := []) rfl hb5 ?_
      refine ev_go kc_112 2 (i' := 9) (L' := [some (.ref 0), some (.int p1)]) (st' := [.int (1 : Int32)]) (M' := M0) rfl ?_
      exact Ev.forget (mLe.kp (mLe.kp mLe.nl)) (e_X11_hours_9  h hk)
/-- WakeTower.mustBeRing(I)V: 171, T -/
theorem kc_171 : mKc 171 = k_X11_mustBeRing := rfl
def f_X11_mustBeRing_5 (M0 : mM) : Option ((Unit ⊕ Nat) × mM) :=
  some (.inr 2, M0)
set_option maxRecDepth 8000 in
theorem e_X11_mustBeRing_5 {M0 : mM} {R : mZ} {out : ((Unit ⊕ Nat) × mM)}  (h : f_X11_mustBeRing_5 M0 = some out) (hk : R = emT eU out) : Ev (8) 171 5 [none] [] M0 R := by
  unfold f_X11_mustBeRing_5 at h
  obtain rfl := Option.some.inj h
  rw [hk]
  exact ev_tr kc_171 rfl rfl rfl rfl rfl
def f_X11_mustBeRing (p0 : Int32) (M0 : mM) : Option ((Unit ⊕ Nat) × mM) :=
  bif decide (p0 < 0) then (f_X11_mustBeRing_5 M0) else (bif decide (p0 < (5 : Int32)) then (some (.inl (), M0)) else (f_X11_mustBeRing_5 M0))
set_option maxRecDepth 8000 in
theorem c_X11_mustBeRing {p0 : Int32} {M0 : mM} {out : ((Unit ⊕ Nat) × mM)} (h : f_X11_mustBeRing p0 M0 = some out) : Cs (8) 171 [.int p0] M0 (emT eU out) := by
  generalize hk : emT eU out = R
  replace hk := hk.symm
  unfold f_X11_mustBeRing at h
  show Ev (8) 171 0 [some (.int p0)] [] M0 R
  rcases o_bif h with ⟨hb1, h⟩ | ⟨hb1, h⟩
  · refine ev_goT kc_171 2 (t := 5) (e := 2) (L' := [some (.int p0)]) (st' := []) rfl hb1 ?_
    exact Ev.forget (mLe.sk mLe.nl) (e_X11_mustBeRing_5  h hk)
  · refine ev_goF kc_171 2 (t := 5) (e := 2) (L' := [some (.int p0)]) (st' := []) rfl hb1 ?_
    rcases o_bif h with ⟨hb2, h⟩ | ⟨hb2, h⟩
    · refine ev_goT kc_171 3 (t := 10) (e := 5) (L' := [some (.int p0)]) (st' := []) rfl hb2 ?_
      obtain rfl := Option.some.inj h
      rw [hk]
      exact ev_vret kc_171 rfl rfl rfl
    · refine ev_goF kc_171 3 (t := 10) (e := 5) (L' := [some (.int p0)]) (st' := []) rfl hb2 ?_
      exact Ev.forget (mLe.sk mLe.nl) (e_X11_mustBeRing_5  h hk)
/-- WakeTower.mustBeSo(Z)V: 173, T -/
theorem kc_173 : mKc 173 = k_X11_mustBeSo := rfl
def f_X11_mustBeSo (p0 : Bool) (M0 : mM) : Option ((Unit ⊕ Nat) × mM) :=
  bif p0 then (some (.inl (), M0)) else (some (.inr 4, M0))
set_option maxRecDepth 8000 in
theorem c_X11_mustBeSo {p0 : Bool} {M0 : mM} {out : ((Unit ⊕ Nat) × mM)} (h : f_X11_mustBeSo p0 M0 = some out) : Cs (8) 173 [.int (mB p0)] M0 (emT eU out) := by
  generalize hk : emT eU out = R
  replace hk := hk.symm
  unfold f_X11_mustBeSo at h
  show Ev (8) 173 0 [some (.int (mB p0))] [] M0 R
  rcases o_bif h with ⟨hb1, h⟩ | ⟨hb1, h⟩
  · refine ev_goT kc_173 2 (t := 7) (e := 2) (L' := [some (.int (mB p0))]) (st' := []) rfl (mB_n0t hb1) ?_
    obtain rfl := Option.some.inj h
    rw [hk]
    exact ev_vret kc_173 rfl rfl rfl
  · refine ev_goF kc_173 2 (t := 7) (e := 2) (L' := [some (.int (mB p0))]) (st' := []) rfl (mB_n0f hb1) ?_
    obtain rfl := Option.some.inj h
    rw [hk]
    exact ev_tr kc_173 rfl rfl rfl rfl rfl
