/-! the parsers that call each other -/
/-- WakeTower$LawText.readAny(LWakeTower$Tape;LWakeTower$Law;I)Z: 23, W -/
theorem kc_23 : mKc 23 = k_X1_readAny := rfl
def f_X1_readAny_9 (rc : Nat → Nat → Int32 → mM → Option (Bool × mM)) (o1 : Nat) (l2 : Int32) (l3 : Int32) (M0 : mM) : Option ((Bool × mM) ⊕ (Int32 × mM)) :=
  bif decide ((400 : Int32) ≤ l3) then (some (.inl (true, M0))) else (b2 (f_X7_takes 423 M0) (fun v2 M2 => bif v2 then (b2 (rc 1 o1 l2 M2) (fun v4 M4 => bif v4 then (b2 (f_X0_addStep o1 (1012 : Int32) M4) (fun v6 M6 => some (.inr ((l3 + (1 : Int32)), M6)))) else (some (.inl (false, M4))))) else (some (.inl (true, M2)))))
set_option maxRecDepth 8000 in
theorem e_X1_readAny_9 {rc : Nat → Nat → Int32 → mM → Option (Bool × mM)} {o1 : Nat} {l2 : Int32} {l3 : Int32} {M0 : mM} {R : mZ} {out : ((Bool × mM) ⊕ (Int32 × mM))} {dr : Nat} (hd : 20 ≤ dr) (hrc : ∀ (t o : Nat) (x : Int32) (M : mM) (r : Bool × mM), rc t o x M = some r → Cs dr ([23, 24, 25].getD t 0) [.ref 1, .ref o, .int x] M (emW eB r)) (go1 : mLwB o1 = true) (h : f_X1_readAny_9 rc o1 l2 l3 M0 = some out) (hk : (∀ s' : Int32 × mM, out = .inr s' → Ev (dr + 1) 23 9 [some (.ref 1), some (.ref o1), some (.int l2), some (.int s'.1)] [] (s'.2) R) ∧ (∀ e1 : (Bool × mM), out = .inl e1 → R = emW eB e1)) : Ev (dr + 1) 23 9 [some (.ref 1), some (.ref o1), some (.int l2), some (.int l3)] [] M0 R := by
  unfold f_X1_readAny_9 at h
  rcases o_bif h with ⟨hb1, h⟩ | ⟨hb1, h⟩
  · refine ev_goT kc_23 3 (t := 28) (e := 12) (L' := [some (.ref 1), some (.ref o1), some (.int l2), some (.int l3)]) (st' := []) rfl hb1 ?_
    refine ev_go kc_23 1 (i' := 29) (L' := [some (.ref 1), some (.ref o1), some (.int l2), some (.int l3)]) (st' := [.int (1 : Int32)]) (M' := M0) rfl ?_
    obtain rfl := Option.some.inj h
    rw [show _ from (hk.2 _ rfl)]
    exact ev_ret kc_23 rfl rfl rfl
  · refine ev_goF kc_23 3 (t := 28) (e := 12) (L' := [some (.ref 1), some (.ref o1), some (.int l2), some (.int l3)]) (st' := []) rfl hb1 ?_
    refine ev_go kc_23 2 (i' := 14) (L' := [some (.ref 1), some (.ref o1), some (.int l2), some (.int l3)]) (st' := [.ref 423, .ref 1]) (M' := M0) rfl ?_
    obtain ⟨v2, M2, hc2, h⟩ := o_b2 h
    refine ev_cl0 (ins := .invokevirtual 43) kc_23 rfl rfl (a := 64) (as := [.ref 1, .ref 423]) (rest := []) rfl rfl (Cs.deep (c_X7_takes hc2) (by omega)) ?_
    rcases o_bif h with ⟨hb3, h⟩ | ⟨hb3, h⟩
    · refine ev_goF kc_23 1 (t := 28) (e := 16) (L' := [some (.ref 1), some (.ref o1), some (.int l2), some (.int l3)]) (st' := []) rfl (mB_e0f hb3) ?_
      refine ev_go kc_23 3 (i' := 19) (L' := [some (.ref 1), some (.ref o1), some (.int l2), some (.int l3)]) (st' := [.int l2, .ref o1, .ref 1]) (M' := M2) rfl ?_
      obtain ⟨v4, M4, hc4, h⟩ := o_b2 h
      refine ev_cl0 (ins := .invokestatic 65) kc_23 rfl rfl (a := 24) (as := [.ref 1, .ref o1, .int l2]) (rest := []) rfl rfl (hrc 1 _ _ _ _ hc4) ?_
      rcases o_bif h with ⟨hb5, h⟩ | ⟨hb5, h⟩
      · refine ev_goT kc_23 1 (t := 23) (e := 21) (L' := [some (.ref 1), some (.ref o1), some (.int l2), some (.int l3)]) (st' := []) rfl (mB_n0t hb5) ?_
        refine ev_go kc_23 2 (i' := 25) (L' := [some (.ref 1), some (.ref o1), some (.int l2), some (.int l3)]) (st' := [.int (1012 : Int32), .ref o1]) (M' := M4) rfl ?_
        obtain ⟨v6, M6, hc6, h⟩ := o_b2 h
        refine ev_cl0 (ins := .invokevirtual 70) kc_23 rfl rfl (a := 14) (as := [.ref o1, .int (1012 : Int32)]) (rest := []) rfl (m_rec (mLw0 go1)) (Cs.deep (c_X0_addStep hc6) (by omega)) ?_
        refine ev_go kc_23 2 (i' := 9) (L' := [some (.ref 1), some (.ref o1), some (.int l2), some (.int (l3 + (1 : Int32)))]) (st' := []) (M' := M6) rfl ?_
        obtain rfl := Option.some.inj h
        exact Ev.forget (mLe.kp (mLe.kp (mLe.kp (mLe.kp mLe.nl)))) (hk.1 ((l3 + (1 : Int32)), M6) rfl)
      · refine ev_goF kc_23 1 (t := 23) (e := 21) (L' := [some (.ref 1), some (.ref o1), some (.int l2), some (.int l3)]) (st' := []) rfl (mB_n0f hb5) ?_
        refine ev_go kc_23 1 (i' := 22) (L' := [some (.ref 1), some (.ref o1), some (.int l2), some (.int l3)]) (st' := [.int (0 : Int32)]) (M' := M4) rfl ?_
        obtain rfl := Option.some.inj h
        rw [show _ from (hk.2 _ rfl)]
        exact ev_ret kc_23 rfl rfl rfl
    · refine ev_goT kc_23 1 (t := 28) (e := 16) (L' := [some (.ref 1), some (.ref o1), some (.int l2), some (.int l3)]) (st' := []) rfl (mB_e0t hb3) ?_
      refine ev_go kc_23 1 (i' := 29) (L' := [some (.ref 1), some (.ref o1), some (.int l2), some (.int l3)]) (st' := [.int (1 : Int32)]) (M' := M2) rfl ?_
      obtain rfl := Option.some.inj h
      rw [show _ from (hk.2 _ rfl)]
      exact ev_ret kc_23 rfl rfl rfl
def f_X1_readAny_l9 (rc : Nat → Nat → Int32 → mM → Option (Bool × mM)) (o1 : Nat) (l2 : Int32) (l3 : Int32) (M0 : mM) : Option (Bool × mM) :=
  wh 100000 (fun s : Int32 × mM => f_X1_readAny_9 rc o1 l2 s.1 s.2) (l3, M0)
theorem e_X1_readAny_l9 {rc : Nat → Nat → Int32 → mM → Option (Bool × mM)} {o1 : Nat} {l2 : Int32} {l3 : Int32} {M0 : mM} {R : mZ} {out : (Bool × mM)} {dr : Nat} (hd : 20 ≤ dr) (hrc : ∀ (t o : Nat) (x : Int32) (M : mM) (r : Bool × mM), rc t o x M = some r → Cs dr ([23, 24, 25].getD t 0) [.ref 1, .ref o, .int x] M (emW eB r)) (go1 : mLwB o1 = true) (h : f_X1_readAny_l9 rc o1 l2 l3 M0 = some out) (hk : R = emW eB out) : Ev (dr + 1) 23 9 [some (.ref 1), some (.ref o1), some (.int l2), some (.int l3)] [] M0 R := by
  unfold f_X1_readAny_l9 at h
  exact wh_ev (P := fun s : Int32 × mM => Ev (dr + 1) 23 9 [some (.ref 1), some (.ref o1), some (.int l2), some (.int s.1)] [] s.2 R) (Q := fun e : (Bool × mM) => R = emW eB e) (fun s o hb h1 h2 => e_X1_readAny_9 hd hrc go1 hb ⟨h1, h2⟩) 100000 _ _ h hk
def f_X1_readAny (rc : Nat → Nat → Int32 → mM → Option (Bool × mM)) (o1 : Nat) (p2 : Int32) (M0 : mM) : Option (Bool × mM) :=
  gd (mLwB o1) (b2 (rc 1 o1 p2 M0) (fun v7 M7 => bif v7 then (f_X1_readAny_l9 rc o1 p2 (0 : Int32) M7) else (some (false, M7))))
set_option maxRecDepth 8000 in
theorem c_X1_readAny {rc : Nat → Nat → Int32 → mM → Option (Bool × mM)} {o1 : Nat} {p2 : Int32} {M0 : mM} {out : (Bool × mM)} {dr : Nat} (hd : 20 ≤ dr) (hrc : ∀ (t o : Nat) (x : Int32) (M : mM) (r : Bool × mM), rc t o x M = some r → Cs dr ([23, 24, 25].getD t 0) [.ref 1, .ref o, .int x] M (emW eB r)) (h : f_X1_readAny rc o1 p2 M0 = some out) : Cs (dr + 1) 23 [.ref 1, .ref o1, .int p2] M0 (emW eB out) := by
  generalize hk : emW eB out = R
  replace hk := hk.symm
  unfold f_X1_readAny at h
  obtain ⟨go1, h⟩ := o_gd h
  show Ev (dr + 1) 23 0 [some (.ref 1), some (.ref o1), some (.int p2), none] [] M0 R
  refine ev_go kc_23 3 (i' := 3) (L' := [some (.ref 1), some (.ref o1), some (.int p2), none]) (st' := [.int p2, .ref o1, .ref 1]) (M' := M0) rfl ?_
  obtain ⟨v7, M7, hc7, h⟩ := o_b2 h
  refine ev_cl0 (ins := .invokestatic 65) kc_23 rfl rfl (a := 24) (as := [.ref 1, .ref o1, .int p2]) (rest := []) rfl rfl (hrc 1 _ _ _ _ hc7) ?_
  rcases o_bif h with ⟨hb8, h⟩ | ⟨hb8, h⟩
  · refine ev_goT kc_23 1 (t := 7) (e := 5) (L' := [some (.ref 1), some (.ref o1), some (.int p2), none]) (st' := []) rfl (mB_n0t hb8) ?_
    refine ev_go kc_23 2 (i' := 9) (L' := [some (.ref 1), some (.ref o1), some (.int p2), some (.int (0 : Int32))]) (st' := []) (M' := M7) rfl ?_
    exact Ev.forget (mLe.kp (mLe.kp (mLe.kp (mLe.kp mLe.nl)))) (e_X1_readAny_l9 hd hrc go1 h hk)
  · refine ev_goF kc_23 1 (t := 7) (e := 5) (L' := [some (.ref 1), some (.ref o1), some (.int p2), none]) (st' := []) rfl (mB_n0f hb8) ?_
    refine ev_go kc_23 1 (i' := 6) (L' := [some (.ref 1), some (.ref o1), some (.int p2), none]) (st' := [.int (0 : Int32)]) (M' := M7) rfl ?_
    obtain rfl := Option.some.inj h
    rw [hk]
    exact ev_ret kc_23 rfl rfl rfl
/-- WakeTower$LawText.readAll(LWakeTower$Tape;LWakeTower$Law;I)Z: 24, W -/
theorem kc_24 : mKc 24 = k_X1_readAll := rfl
def f_X1_readAll_9 (rc : Nat → Nat → Int32 → mM → Option (Bool × mM)) (o1 : Nat) (l2 : Int32) (l3 : Int32) (M0 : mM) : Option ((Bool × mM) ⊕ (Int32 × mM)) :=
  bif decide ((400 : Int32) ≤ l3) then (some (.inl (true, M0))) else (b2 (f_X7_takes 422 M0) (fun v2 M2 => bif v2 then (b2 (rc 2 o1 l2 M2) (fun v4 M4 => bif v4 then (b2 (f_X0_addStep o1 (1011 : Int32) M4) (fun v6 M6 => some (.inr ((l3 + (1 : Int32)), M6)))) else (some (.inl (false, M4))))) else (some (.inl (true, M2)))))
set_option maxRecDepth 8000 in
theorem e_X1_readAll_9 {rc : Nat → Nat → Int32 → mM → Option (Bool × mM)} {o1 : Nat} {l2 : Int32} {l3 : Int32} {M0 : mM} {R : mZ} {out : ((Bool × mM) ⊕ (Int32 × mM))} {dr : Nat} (hd : 20 ≤ dr) (hrc : ∀ (t o : Nat) (x : Int32) (M : mM) (r : Bool × mM), rc t o x M = some r → Cs dr ([23, 24, 25].getD t 0) [.ref 1, .ref o, .int x] M (emW eB r)) (go1 : mLwB o1 = true) (h : f_X1_readAll_9 rc o1 l2 l3 M0 = some out) (hk : (∀ s' : Int32 × mM, out = .inr s' → Ev (dr + 1) 24 9 [some (.ref 1), some (.ref o1), some (.int l2), some (.int s'.1)] [] (s'.2) R) ∧ (∀ e1 : (Bool × mM), out = .inl e1 → R = emW eB e1)) : Ev (dr + 1) 24 9 [some (.ref 1), some (.ref o1), some (.int l2), some (.int l3)] [] M0 R := by
  unfold f_X1_readAll_9 at h
  rcases o_bif h with ⟨hb1, h⟩ | ⟨hb1, h⟩
  · refine ev_goT kc_24 3 (t := 28) (e := 12) (L' := [some (.ref 1), some (.ref o1), some (.int l2), some (.int l3)]) (st' := []) rfl hb1 ?_
    refine ev_go kc_24 1 (i' := 29) (L' := [some (.ref 1), some (.ref o1), some (.int l2), some (.int l3)]) (st' := [.int (1 : Int32)]) (M' := M0) rfl ?_
    obtain rfl := Option.some.inj h
    rw [show _ from (hk.2 _ rfl)]
    exact ev_ret kc_24 rfl rfl rfl
  · refine ev_goF kc_24 3 (t := 28) (e := 12) (L' := [some (.ref 1), some (.ref o1), some (.int l2), some (.int l3)]) (st' := []) rfl hb1 ?_
    refine ev_go kc_24 2 (i' := 14) (L' := [some (.ref 1), some (.ref o1), some (.int l2), some (.int l3)]) (st' := [.ref 422, .ref 1]) (M' := M0) rfl ?_
    obtain ⟨v2, M2, hc2, h⟩ := o_b2 h
    refine ev_cl0 (ins := .invokevirtual 43) kc_24 rfl rfl (a := 64) (as := [.ref 1, .ref 422]) (rest := []) rfl rfl (Cs.deep (c_X7_takes hc2) (by omega)) ?_
    rcases o_bif h with ⟨hb3, h⟩ | ⟨hb3, h⟩
    · refine ev_goF kc_24 1 (t := 28) (e := 16) (L' := [some (.ref 1), some (.ref o1), some (.int l2), some (.int l3)]) (st' := []) rfl (mB_e0f hb3) ?_
      refine ev_go kc_24 3 (i' := 19) (L' := [some (.ref 1), some (.ref o1), some (.int l2), some (.int l3)]) (st' := [.int l2, .ref o1, .ref 1]) (M' := M2) rfl ?_
      obtain ⟨v4, M4, hc4, h⟩ := o_b2 h
      refine ev_cl0 (ins := .invokestatic 74) kc_24 rfl rfl (a := 25) (as := [.ref 1, .ref o1, .int l2]) (rest := []) rfl rfl (hrc 2 _ _ _ _ hc4) ?_
      rcases o_bif h with ⟨hb5, h⟩ | ⟨hb5, h⟩
      · refine ev_goT kc_24 1 (t := 23) (e := 21) (L' := [some (.ref 1), some (.ref o1), some (.int l2), some (.int l3)]) (st' := []) rfl (mB_n0t hb5) ?_
        refine ev_go kc_24 2 (i' := 25) (L' := [some (.ref 1), some (.ref o1), some (.int l2), some (.int l3)]) (st' := [.int (1011 : Int32), .ref o1]) (M' := M4) rfl ?_
        obtain ⟨v6, M6, hc6, h⟩ := o_b2 h
        refine ev_cl0 (ins := .invokevirtual 70) kc_24 rfl rfl (a := 14) (as := [.ref o1, .int (1011 : Int32)]) (rest := []) rfl (m_rec (mLw0 go1)) (Cs.deep (c_X0_addStep hc6) (by omega)) ?_
        refine ev_go kc_24 2 (i' := 9) (L' := [some (.ref 1), some (.ref o1), some (.int l2), some (.int (l3 + (1 : Int32)))]) (st' := []) (M' := M6) rfl ?_
        obtain rfl := Option.some.inj h
        exact Ev.forget (mLe.kp (mLe.kp (mLe.kp (mLe.kp mLe.nl)))) (hk.1 ((l3 + (1 : Int32)), M6) rfl)
      · refine ev_goF kc_24 1 (t := 23) (e := 21) (L' := [some (.ref 1), some (.ref o1), some (.int l2), some (.int l3)]) (st' := []) rfl (mB_n0f hb5) ?_
        refine ev_go kc_24 1 (i' := 22) (L' := [some (.ref 1), some (.ref o1), some (.int l2), some (.int l3)]) (st' := [.int (0 : Int32)]) (M' := M4) rfl ?_
        obtain rfl := Option.some.inj h
        rw [show _ from (hk.2 _ rfl)]
        exact ev_ret kc_24 rfl rfl rfl
    · refine ev_goT kc_24 1 (t := 28) (e := 16) (L' := [some (.ref 1), some (.ref o1), some (.int l2), some (.int l3)]) (st' := []) rfl (mB_e0t hb3) ?_
      refine ev_go kc_24 1 (i' := 29) (L' := [some (.ref 1), some (.ref o1), some (.int l2), some (.int l3)]) (st' := [.int (1 : Int32)]) (M' := M2) rfl ?_
      obtain rfl := Option.some.inj h
      rw [show _ from (hk.2 _ rfl)]
      exact ev_ret kc_24 rfl rfl rfl
def f_X1_readAll_l9 (rc : Nat → Nat → Int32 → mM → Option (Bool × mM)) (o1 : Nat) (l2 : Int32) (l3 : Int32) (M0 : mM) : Option (Bool × mM) :=
  wh 100000 (fun s : Int32 × mM => f_X1_readAll_9 rc o1 l2 s.1 s.2) (l3, M0)
theorem e_X1_readAll_l9 {rc : Nat → Nat → Int32 → mM → Option (Bool × mM)} {o1 : Nat} {l2 : Int32} {l3 : Int32} {M0 : mM} {R : mZ} {out : (Bool × mM)} {dr : Nat} (hd : 20 ≤ dr) (hrc : ∀ (t o : Nat) (x : Int32) (M : mM) (r : Bool × mM), rc t o x M = some r → Cs dr ([23, 24, 25].getD t 0) [.ref 1, .ref o, .int x] M (emW eB r)) (go1 : mLwB o1 = true) (h : f_X1_readAll_l9 rc o1 l2 l3 M0 = some out) (hk : R = emW eB out) : Ev (dr + 1) 24 9 [some (.ref 1), some (.ref o1), some (.int l2), some (.int l3)] [] M0 R := by
  unfold f_X1_readAll_l9 at h
  exact wh_ev (P := fun s : Int32 × mM => Ev (dr + 1) 24 9 [some (.ref 1), some (.ref o1), some (.int l2), some (.int s.1)] [] s.2 R) (Q := fun e : (Bool × mM) => R = emW eB e) (fun s o hb h1 h2 => e_X1_readAll_9 hd hrc go1 hb ⟨h1, h2⟩) 100000 _ _ h hk
def f_X1_readAll (rc : Nat → Nat → Int32 → mM → Option (Bool × mM)) (o1 : Nat) (p2 : Int32) (M0 : mM) : Option (Bool × mM) :=
  gd (mLwB o1) (b2 (rc 2 o1 p2 M0) (fun v7 M7 => bif v7 then (f_X1_readAll_l9 rc o1 p2 (0 : Int32) M7) else (some (false, M7))))
set_option maxRecDepth 8000 in
theorem c_X1_readAll {rc : Nat → Nat → Int32 → mM → Option (Bool × mM)} {o1 : Nat} {p2 : Int32} {M0 : mM} {out : (Bool × mM)} {dr : Nat} (hd : 20 ≤ dr) (hrc : ∀ (t o : Nat) (x : Int32) (M : mM) (r : Bool × mM), rc t o x M = some r → Cs dr ([23, 24, 25].getD t 0) [.ref 1, .ref o, .int x] M (emW eB r)) (h : f_X1_readAll rc o1 p2 M0 = some out) : Cs (dr + 1) 24 [.ref 1, .ref o1, .int p2] M0 (emW eB out) := by
  generalize hk : emW eB out = R
  replace hk := hk.symm
  unfold f_X1_readAll at h
  obtain ⟨go1, h⟩ := o_gd h
  show Ev (dr + 1) 24 0 [some (.ref 1), some (.ref o1), some (.int p2), none] [] M0 R
  refine ev_go kc_24 3 (i' := 3) (L' := [some (.ref 1), some (.ref o1), some (.int p2), none]) (st' := [.int p2, .ref o1, .ref 1]) (M' := M0) rfl ?_
  obtain ⟨v7, M7, hc7, h⟩ := o_b2 h
  refine ev_cl0 (ins := .invokestatic 74) kc_24 rfl rfl (a := 25) (as := [.ref 1, .ref o1, .int p2]) (rest := []) rfl rfl (hrc 2 _ _ _ _ hc7) ?_
  rcases o_bif h with ⟨hb8, h⟩ | ⟨hb8, h⟩
  · refine ev_goT kc_24 1 (t := 7) (e := 5) (L' := [some (.ref 1), some (.ref o1), some (.int p2), none]) (st' := []) rfl (mB_n0t hb8) ?_
    refine ev_go kc_24 2 (i' := 9) (L' := [some (.ref 1), some (.ref o1), some (.int p2), some (.int (0 : Int32))]) (st' := []) (M' := M7) rfl ?_
    exact Ev.forget (mLe.kp (mLe.kp (mLe.kp (mLe.kp mLe.nl)))) (e_X1_readAll_l9 hd hrc go1 h hk)
  · refine ev_goF kc_24 1 (t := 7) (e := 5) (L' := [some (.ref 1), some (.ref o1), some (.int p2), none]) (st' := []) rfl (mB_n0f hb8) ?_
    refine ev_go kc_24 1 (i' := 6) (L' := [some (.ref 1), some (.ref o1), some (.int p2), none]) (st' := [.int (0 : Int32)]) (M' := M7) rfl ?_
    obtain rfl := Option.some.inj h
    rw [hk]
    exact ev_ret kc_24 rfl rfl rfl
/-- WakeTower$LawText.readAtom(LWakeTower$Tape;LWakeTower$Law;I)Z: 25, W -/
theorem kc_25 : mKc 25 = k_X1_readAtom := rfl
def f_X1_readAtom_108 (rc : Nat → Nat → Int32 → mM → Option (Bool × mM)) (o1 : Nat) (l6 : Bool) (s1 : Int32) (M0 : mM) : Option (Bool × mM) :=
  b2 (f_X0_addStep o1 s1 M0) (fun v1 M1 => some (l6, M1))
set_option maxRecDepth 8000 in
theorem e_X1_readAtom_108 {rc : Nat → Nat → Int32 → mM → Option (Bool × mM)} {o1 : Nat} {l6 : Bool} {s1 : Int32} {M0 : mM} {R : mZ} {out : (Bool × mM)} {dr : Nat} (hd : 20 ≤ dr) (hrc : ∀ (t o : Nat) (x : Int32) (M : mM) (r : Bool × mM), rc t o x M = some r → Cs dr ([23, 24, 25].getD t 0) [.ref 1, .ref o, .int x] M (emW eB r)) (go1 : mLwB o1 = true) (h : f_X1_readAtom_108 rc o1 l6 s1 M0 = some out) (hk : R = emW eB out) : Ev (dr + 1) 25 108 [none, none, none, none, none, none, some (.int (mB l6))] [.int s1, .ref o1] M0 R := by
  unfold f_X1_readAtom_108 at h
  obtain ⟨v1, M1, hc1, h⟩ := o_b2 h
  refine ev_cl0 (ins := .invokevirtual 70) kc_25 rfl rfl (a := 14) (as := [.ref o1, .int s1]) (rest := []) rfl (m_rec (mLw0 go1)) (Cs.deep (c_X0_addStep hc1) (by omega)) ?_
  refine ev_go kc_25 1 (i' := 110) (L' := [none, none, none, none, none, none, some (.int (mB l6))]) (st' := [.int (mB l6)]) (M' := M1) rfl ?_
  obtain rfl := Option.some.inj h
  rw [hk]
  exact ev_ret kc_25 rfl rfl mB_rok
def f_X1_readAtom_98 (rc : Nat → Nat → Int32 → mM → Option (Bool × mM)) (o1 : Nat) (l5 : Bool) (M0 : mM) : Option (Bool × mM) :=
  b2 (f_X1_readSum o1 M0) (fun v2 M2 => bif l5 then (f_X1_readAtom_108 rc o1 v2 (1014 : Int32) M2) else (f_X1_readAtom_108 rc o1 v2 (1015 : Int32) M2))
set_option maxRecDepth 8000 in
theorem e_X1_readAtom_98 {rc : Nat → Nat → Int32 → mM → Option (Bool × mM)} {o1 : Nat} {l5 : Bool} {M0 : mM} {R : mZ} {out : (Bool × mM)} {dr : Nat} (hd : 20 ≤ dr) (hrc : ∀ (t o : Nat) (x : Int32) (M : mM) (r : Bool × mM), rc t o x M = some r → Cs dr ([23, 24, 25].getD t 0) [.ref 1, .ref o, .int x] M (emW eB r)) (go1 : mLwB o1 = true) (h : f_X1_readAtom_98 rc o1 l5 M0 = some out) (hk : R = emW eB out) : Ev (dr + 1) 25 98 [some (.ref 1), some (.ref o1), none, none, none, some (.int (mB l5)), none] [] M0 R := by
  unfold f_X1_readAtom_98 at h
  refine ev_go kc_25 2 (i' := 100) (L' := [some (.ref 1), some (.ref o1), none, none, none, some (.int (mB l5)), none]) (st' := [.ref o1, .ref 1]) (M' := M0) rfl ?_
  obtain ⟨v2, M2, hc2, h⟩ := o_b2 h
  refine ev_cl0 (ins := .invokestatic 90) kc_25 rfl rfl (a := 26) (as := [.ref 1, .ref o1]) (rest := []) rfl rfl (Cs.deep (c_X1_readSum hc2) (by omega)) ?_
  rcases o_bif h with ⟨hb3, h⟩ | ⟨hb3, h⟩
  · refine ev_goF kc_25 4 (t := 107) (e := 105) (L' := [some (.ref 1), some (.ref o1), none, none, none, some (.int (mB l5)), some (.int (mB v2))]) (st' := [.ref o1]) rfl (mB_e0f hb3) ?_
    refine ev_go kc_25 2 (i' := 108) (L' := [some (.ref 1), some (.ref o1), none, none, none, some (.int (mB l5)), some (.int (mB v2))]) (st' := [.int (1014 : Int32), .ref o1]) (M' := M2) rfl ?_
    exact Ev.forget (mLe.sk (mLe.sk (mLe.sk (mLe.sk (mLe.sk (mLe.sk (mLe.kp mLe.nl))))))) (e_X1_readAtom_108 hd hrc go1 h hk)
  · refine ev_goT kc_25 4 (t := 107) (e := 105) (L' := [some (.ref 1), some (.ref o1), none, none, none, some (.int (mB l5)), some (.int (mB v2))]) (st' := [.ref o1]) rfl (mB_e0t hb3) ?_
    refine ev_go kc_25 1 (i' := 108) (L' := [some (.ref 1), some (.ref o1), none, none, none, some (.int (mB l5)), some (.int (mB v2))]) (st' := [.int (1015 : Int32), .ref o1]) (M' := M2) rfl ?_
    exact Ev.forget (mLe.sk (mLe.sk (mLe.sk (mLe.sk (mLe.sk (mLe.sk (mLe.kp mLe.nl))))))) (e_X1_readAtom_108 hd hrc go1 h hk)
def f_X1_readAtom_71 (rc : Nat → Nat → Int32 → mM → Option (Bool × mM)) (o1 : Nat) (s0 : Int32) (M0 : mM) : Option (Bool × mM) :=
  bif decide (s0 = (-1 : Int32)) then (b2 (f_X1_readSum o1 M0) (fun v5 M5 => bif v5 then (b2 (f_X7_takesSign (60 : Int32) M5) (fun v7 M7 => bif v7 then (f_X1_readAtom_98 rc o1 v7 M7) else (b2 (f_X7_mustSign (62 : Int32) M7) (fun v9 M9 => bif v9 then (f_X1_readAtom_98 rc o1 v7 M9) else (some (false, M9)))))) else (some (false, M5)))) else (b2 (f_X0_addStep o1 s0 M0) (fun v11 M11 => some (true, M11)))
set_option maxRecDepth 8000 in
theorem e_X1_readAtom_71 {rc : Nat → Nat → Int32 → mM → Option (Bool × mM)} {o1 : Nat} {s0 : Int32} {M0 : mM} {R : mZ} {out : (Bool × mM)} {dr : Nat} (hd : 20 ≤ dr) (hrc : ∀ (t o : Nat) (x : Int32) (M : mM) (r : Bool × mM), rc t o x M = some r → Cs dr ([23, 24, 25].getD t 0) [.ref 1, .ref o, .int x] M (emW eB r)) (go1 : mLwB o1 = true) (h : f_X1_readAtom_71 rc o1 s0 M0 = some out) (hk : R = emW eB out) : Ev (dr + 1) 25 71 [some (.ref 1), some (.ref o1), none, none, none, none, none] [.int s0] M0 R := by
  unfold f_X1_readAtom_71 at h
  rcases o_bif h with ⟨hb4, h⟩ | ⟨hb4, h⟩
  · refine ev_goT kc_25 4 (t := 80) (e := 75) (L' := [some (.ref 1), some (.ref o1), none, none, some (.int s0), none, none]) (st' := []) rfl hb4 ?_
    refine ev_go kc_25 2 (i' := 82) (L' := [some (.ref 1), some (.ref o1), none, none, some (.int s0), none, none]) (st' := [.ref o1, .ref 1]) (M' := M0) rfl ?_
    obtain ⟨v5, M5, hc5, h⟩ := o_b2 h
    refine ev_cl0 (ins := .invokestatic 90) kc_25 rfl rfl (a := 26) (as := [.ref 1, .ref o1]) (rest := []) rfl rfl (Cs.deep (c_X1_readSum hc5) (by omega)) ?_
    rcases o_bif h with ⟨hb6, h⟩ | ⟨hb6, h⟩
    · refine ev_goT kc_25 1 (t := 86) (e := 84) (L' := [some (.ref 1), some (.ref o1), none, none, some (.int s0), none, none]) (st' := []) rfl (mB_n0t hb6) ?_
      refine ev_go kc_25 2 (i' := 88) (L' := [some (.ref 1), some (.ref o1), none, none, some (.int s0), none, none]) (st' := [.int (60 : Int32), .ref 1]) (M' := M5) rfl ?_
      obtain ⟨v7, M7, hc7, h⟩ := o_b2 h
      refine ev_cl0 (ins := .invokevirtual 81) kc_25 rfl rfl (a := 66) (as := [.ref 1, .int (60 : Int32)]) (rest := []) rfl rfl (Cs.deep (c_X7_takesSign hc7) (by omega)) ?_
      rcases o_bif h with ⟨hb8, h⟩ | ⟨hb8, h⟩
      · refine ev_goT kc_25 3 (t := 98) (e := 92) (L' := [some (.ref 1), some (.ref o1), none, none, some (.int s0), some (.int (mB v7)), none]) (st' := []) rfl (mB_n0t hb8) ?_
        exact Ev.forget (mLe.kp (mLe.kp (mLe.sk (mLe.sk (mLe.sk (mLe.kp (mLe.sk mLe.nl))))))) (e_X1_readAtom_98 hd hrc go1 h hk)
      · refine ev_goF kc_25 3 (t := 98) (e := 92) (L' := [some (.ref 1), some (.ref o1), none, none, some (.int s0), some (.int (mB v7)), none]) (st' := []) rfl (mB_n0f hb8) ?_
        refine ev_go kc_25 2 (i' := 94) (L' := [some (.ref 1), some (.ref o1), none, none, some (.int s0), some (.int (mB v7)), none]) (st' := [.int (62 : Int32), .ref 1]) (M' := M7) rfl ?_
        obtain ⟨v9, M9, hc9, h⟩ := o_b2 h
        refine ev_cl0 (ins := .invokevirtual 29) kc_25 rfl rfl (a := 67) (as := [.ref 1, .int (62 : Int32)]) (rest := []) rfl rfl (Cs.deep (c_X7_mustSign hc9) (by omega)) ?_
        rcases o_bif h with ⟨hb10, h⟩ | ⟨hb10, h⟩
        · refine ev_goT kc_25 1 (t := 98) (e := 96) (L' := [some (.ref 1), some (.ref o1), none, none, some (.int s0), some (.int (mB v7)), none]) (st' := []) rfl (mB_n0t hb10) ?_
          exact Ev.forget (mLe.kp (mLe.kp (mLe.sk (mLe.sk (mLe.sk (mLe.kp (mLe.sk mLe.nl))))))) (e_X1_readAtom_98 hd hrc go1 h hk)
        · refine ev_goF kc_25 1 (t := 98) (e := 96) (L' := [some (.ref 1), some (.ref o1), none, none, some (.int s0), some (.int (mB v7)), none]) (st' := []) rfl (mB_n0f hb10) ?_
          refine ev_go kc_25 1 (i' := 97) (L' := [some (.ref 1), some (.ref o1), none, none, some (.int s0), some (.int (mB v7)), none]) (st' := [.int (0 : Int32)]) (M' := M9) rfl ?_
          obtain rfl := Option.some.inj h
          rw [hk]
          exact ev_ret kc_25 rfl rfl rfl
    · refine ev_goF kc_25 1 (t := 86) (e := 84) (L' := [some (.ref 1), some (.ref o1), none, none, some (.int s0), none, none]) (st' := []) rfl (mB_n0f hb6) ?_
      refine ev_go kc_25 1 (i' := 85) (L' := [some (.ref 1), some (.ref o1), none, none, some (.int s0), none, none]) (st' := [.int (0 : Int32)]) (M' := M5) rfl ?_
      obtain rfl := Option.some.inj h
      rw [hk]
      exact ev_ret kc_25 rfl rfl rfl
  · refine ev_goF kc_25 4 (t := 80) (e := 75) (L' := [some (.ref 1), some (.ref o1), none, none, some (.int s0), none, none]) (st' := []) rfl hb4 ?_
    refine ev_go kc_25 2 (i' := 77) (L' := [some (.ref 1), some (.ref o1), none, none, some (.int s0), none, none]) (st' := [.int s0, .ref o1]) (M' := M0) rfl ?_
    obtain ⟨v11, M11, hc11, h⟩ := o_b2 h
    refine ev_cl0 (ins := .invokevirtual 70) kc_25 rfl rfl (a := 14) (as := [.ref o1, .int s0]) (rest := []) rfl (m_rec (mLw0 go1)) (Cs.deep (c_X0_addStep hc11) (by omega)) ?_
    refine ev_go kc_25 1 (i' := 79) (L' := [some (.ref 1), some (.ref o1), none, none, some (.int s0), none, none]) (st' := [.int (1 : Int32)]) (M' := M11) rfl ?_
    obtain rfl := Option.some.inj h
    rw [hk]
    exact ev_ret kc_25 rfl rfl rfl
def f_X1_readAtom (rc : Nat → Nat → Int32 → mM → Option (Bool × mM)) (o1 : Nat) (p2 : Int32) (M0 : mM) : Option (Bool × mM) :=
  gd (mLwB o1) (b2 (f_X7_takes 416 M0) (fun v12 M12 => bif v12 then (bif decide (p2 < (6 : Int32)) then (b2 (rc 2 o1 (p2 + (1 : Int32)) M12) (fun v15 M15 => b2 (f_X0_addStep o1 (1010 : Int32) M15) (fun v16 M16 => some (v15, M16)))) else (b2 (f_X7_wrong (M0 1 2) M12) (fun v17 M17 => some (v17, M17)))) else (b2 (f_X7_takesSign (40 : Int32) M12) (fun v18 M18 => bif v18 then (bif decide (p2 < (6 : Int32)) then (b2 (rc 0 o1 (p2 + (1 : Int32)) M18) (fun v21 M21 => bif v21 then (b2 (f_X7_mustSign (41 : Int32) M21) (fun v23 M23 => bif v23 then (some (true, M23)) else (some (false, M23)))) else (some (false, M21)))) else (b2 (f_X7_wrong (M0 1 2) M18) (fun v25 M25 => some (v25, M25)))) else (b2 (f_X7_takes 406 M18) (fun v26 M26 => bif v26 then (f_X1_readAtom_71 rc o1 (1007 : Int32) M26) else (b2 (f_X7_takes 417 M26) (fun v28 M28 => bif v28 then (f_X1_readAtom_71 rc o1 (1008 : Int32) M28) else (b2 (f_X7_takes 418 M28) (fun v30 M30 => bif v30 then (f_X1_readAtom_71 rc o1 (1009 : Int32) M30) else (f_X1_readAtom_71 rc o1 (-1 : Int32) M30)))))))))))
set_option maxRecDepth 8000 in
theorem c_X1_readAtom {rc : Nat → Nat → Int32 → mM → Option (Bool × mM)} {o1 : Nat} {p2 : Int32} {M0 : mM} {out : (Bool × mM)} {dr : Nat} (hd : 20 ≤ dr) (hrc : ∀ (t o : Nat) (x : Int32) (M : mM) (r : Bool × mM), rc t o x M = some r → Cs dr ([23, 24, 25].getD t 0) [.ref 1, .ref o, .int x] M (emW eB r)) (h : f_X1_readAtom rc o1 p2 M0 = some out) : Cs (dr + 1) 25 [.ref 1, .ref o1, .int p2] M0 (emW eB out) := by
  generalize hk : emW eB out = R
  replace hk := hk.symm
  unfold f_X1_readAtom at h
  obtain ⟨go1, h⟩ := o_gd h
  show Ev (dr + 1) 25 0 [some (.ref 1), some (.ref o1), some (.int p2), none, none, none, none] [] M0 R
  refine ev_go kc_25 5 (i' := 5) (L' := [some (.ref 1), some (.ref o1), some (.int p2), some (.int (M0 1 2)), none, none, none]) (st' := [.ref 416, .ref 1]) (M' := M0) rfl ?_
  obtain ⟨v12, M12, hc12, h⟩ := o_b2 h
  refine ev_cl0 (ins := .invokevirtual 43) kc_25 rfl rfl (a := 64) (as := [.ref 1, .ref 416]) (rest := []) rfl rfl (Cs.deep (c_X7_takes hc12) (by omega)) ?_
  rcases o_bif h with ⟨hb13, h⟩ | ⟨hb13, h⟩
  · refine ev_goF kc_25 1 (t := 26) (e := 7) (L' := [some (.ref 1), some (.ref o1), some (.int p2), some (.int (M0 1 2)), none, none, none]) (st' := []) rfl (mB_e0f hb13) ?_
    rcases o_bif h with ⟨hb14, h⟩ | ⟨hb14, h⟩
    · refine ev_goT kc_25 3 (t := 14) (e := 10) (L' := [some (.ref 1), some (.ref o1), some (.int p2), some (.int (M0 1 2)), none, none, none]) (st' := []) rfl hb14 ?_
      refine ev_go kc_25 5 (i' := 19) (L' := [some (.ref 1), some (.ref o1), some (.int p2), some (.int (M0 1 2)), none, none, none]) (st' := [.int (p2 + (1 : Int32)), .ref o1, .ref 1]) (M' := M12) rfl ?_
      obtain ⟨v15, M15, hc15, h⟩ := o_b2 h
      refine ev_cl0 (ins := .invokestatic 74) kc_25 rfl rfl (a := 25) (as := [.ref 1, .ref o1, .int (p2 + (1 : Int32))]) (rest := []) rfl rfl (hrc 2 _ _ _ _ hc15) ?_
      refine ev_go kc_25 3 (i' := 23) (L' := [some (.ref 1), some (.ref o1), some (.int p2), some (.int (M0 1 2)), some (.int (mB v15)), none, none]) (st' := [.int (1010 : Int32), .ref o1]) (M' := M15) rfl ?_
      obtain ⟨v16, M16, hc16, h⟩ := o_b2 h
      refine ev_cl0 (ins := .invokevirtual 70) kc_25 rfl rfl (a := 14) (as := [.ref o1, .int (1010 : Int32)]) (rest := []) rfl (m_rec (mLw0 go1)) (Cs.deep (c_X0_addStep hc16) (by omega)) ?_
      refine ev_go kc_25 1 (i' := 25) (L' := [some (.ref 1), some (.ref o1), some (.int p2), some (.int (M0 1 2)), some (.int (mB v15)), none, none]) (st' := [.int (mB v15)]) (M' := M16) rfl ?_
      obtain rfl := Option.some.inj h
      rw [hk]
      exact ev_ret kc_25 rfl rfl mB_rok
    · refine ev_goF kc_25 3 (t := 14) (e := 10) (L' := [some (.ref 1), some (.ref o1), some (.int p2), some (.int (M0 1 2)), none, none, none]) (st' := []) rfl hb14 ?_
      refine ev_go kc_25 2 (i' := 12) (L' := [some (.ref 1), some (.ref o1), some (.int p2), some (.int (M0 1 2)), none, none, none]) (st' := [.int (M0 1 2), .ref 1]) (M' := M12) rfl ?_
      obtain ⟨v17, M17, hc17, h⟩ := o_b2 h
      refine ev_cl0 (ins := .invokevirtual 37) kc_25 rfl rfl (a := 62) (as := [.ref 1, .int (M0 1 2)]) (rest := []) rfl rfl (Cs.deep (c_X7_wrong hc17) (by omega)) ?_
      obtain rfl := Option.some.inj h
      rw [hk]
      exact ev_ret kc_25 rfl rfl mB_rok
  · refine ev_goT kc_25 1 (t := 26) (e := 7) (L' := [some (.ref 1), some (.ref o1), some (.int p2), some (.int (M0 1 2)), none, none, none]) (st' := []) rfl (mB_e0t hb13) ?_
    refine ev_go kc_25 2 (i' := 28) (L' := [some (.ref 1), some (.ref o1), some (.int p2), some (.int (M0 1 2)), none, none, none]) (st' := [.int (40 : Int32), .ref 1]) (M' := M12) rfl ?_
    obtain ⟨v18, M18, hc18, h⟩ := o_b2 h
    refine ev_cl0 (ins := .invokevirtual 81) kc_25 rfl rfl (a := 66) (as := [.ref 1, .int (40 : Int32)]) (rest := []) rfl rfl (Cs.deep (c_X7_takesSign hc18) (by omega)) ?_
    rcases o_bif h with ⟨hb19, h⟩ | ⟨hb19, h⟩
    · refine ev_goF kc_25 1 (t := 52) (e := 30) (L' := [some (.ref 1), some (.ref o1), some (.int p2), some (.int (M0 1 2)), none, none, none]) (st' := []) rfl (mB_e0f hb19) ?_
      rcases o_bif h with ⟨hb20, h⟩ | ⟨hb20, h⟩
      · refine ev_goT kc_25 3 (t := 37) (e := 33) (L' := [some (.ref 1), some (.ref o1), some (.int p2), some (.int (M0 1 2)), none, none, none]) (st' := []) rfl hb20 ?_
        refine ev_go kc_25 5 (i' := 42) (L' := [some (.ref 1), some (.ref o1), some (.int p2), some (.int (M0 1 2)), none, none, none]) (st' := [.int (p2 + (1 : Int32)), .ref o1, .ref 1]) (M' := M18) rfl ?_
        obtain ⟨v21, M21, hc21, h⟩ := o_b2 h
        refine ev_cl0 (ins := .invokestatic 57) kc_25 rfl rfl (a := 23) (as := [.ref 1, .ref o1, .int (p2 + (1 : Int32))]) (rest := []) rfl rfl (hrc 0 _ _ _ _ hc21) ?_
        rcases o_bif h with ⟨hb22, h⟩ | ⟨hb22, h⟩
        · refine ev_goF kc_25 1 (t := 50) (e := 44) (L' := [some (.ref 1), some (.ref o1), some (.int p2), some (.int (M0 1 2)), none, none, none]) (st' := []) rfl (mB_e0f hb22) ?_
          refine ev_go kc_25 2 (i' := 46) (L' := [some (.ref 1), some (.ref o1), some (.int p2), some (.int (M0 1 2)), none, none, none]) (st' := [.int (41 : Int32), .ref 1]) (M' := M21) rfl ?_
          obtain ⟨v23, M23, hc23, h⟩ := o_b2 h
          refine ev_cl0 (ins := .invokevirtual 29) kc_25 rfl rfl (a := 67) (as := [.ref 1, .int (41 : Int32)]) (rest := []) rfl rfl (Cs.deep (c_X7_mustSign hc23) (by omega)) ?_
          rcases o_bif h with ⟨hb24, h⟩ | ⟨hb24, h⟩
          · refine ev_goF kc_25 1 (t := 50) (e := 48) (L' := [some (.ref 1), some (.ref o1), some (.int p2), some (.int (M0 1 2)), none, none, none]) (st' := []) rfl (mB_e0f hb24) ?_
            refine ev_go kc_25 2 (i' := 51) (L' := [some (.ref 1), some (.ref o1), some (.int p2), some (.int (M0 1 2)), none, none, none]) (st' := [.int (1 : Int32)]) (M' := M23) rfl ?_
            obtain rfl := Option.some.inj h
            rw [hk]
            exact ev_ret kc_25 rfl rfl rfl
          · refine ev_goT kc_25 1 (t := 50) (e := 48) (L' := [some (.ref 1), some (.ref o1), some (.int p2), some (.int (M0 1 2)), none, none, none]) (st' := []) rfl (mB_e0t hb24) ?_
            refine ev_go kc_25 1 (i' := 51) (L' := [some (.ref 1), some (.ref o1), some (.int p2), some (.int (M0 1 2)), none, none, none]) (st' := [.int (0 : Int32)]) (M' := M23) rfl ?_
            obtain rfl := Option.some.inj h
            rw [hk]
            exact ev_ret kc_25 rfl rfl rfl
        · refine ev_goT kc_25 1 (t := 50) (e := 44) (L' := [some (.ref 1), some (.ref o1), some (.int p2), some (.int (M0 1 2)), none, none, none]) (st' := []) rfl (mB_e0t hb22) ?_
          refine ev_go kc_25 1 (i' := 51) (L' := [some (.ref 1), some (.ref o1), some (.int p2), some (.int (M0 1 2)), none, none, none]) (st' := [.int (0 : Int32)]) (M' := M21) rfl ?_
          obtain rfl := Option.some.inj h
          rw [hk]
          exact ev_ret kc_25 rfl rfl rfl
      · refine ev_goF kc_25 3 (t := 37) (e := 33) (L' := [some (.ref 1), some (.ref o1), some (.int p2), some (.int (M0 1 2)), none, none, none]) (st' := []) rfl hb20 ?_
        refine ev_go kc_25 2 (i' := 35) (L' := [some (.ref 1), some (.ref o1), some (.int p2), some (.int (M0 1 2)), none, none, none]) (st' := [.int (M0 1 2), .ref 1]) (M' := M18) rfl ?_
        obtain ⟨v25, M25, hc25, h⟩ := o_b2 h
        refine ev_cl0 (ins := .invokevirtual 37) kc_25 rfl rfl (a := 62) (as := [.ref 1, .int (M0 1 2)]) (rest := []) rfl rfl (Cs.deep (c_X7_wrong hc25) (by omega)) ?_
        obtain rfl := Option.some.inj h
        rw [hk]
        exact ev_ret kc_25 rfl rfl mB_rok
    · refine ev_goT kc_25 1 (t := 52) (e := 30) (L' := [some (.ref 1), some (.ref o1), some (.int p2), some (.int (M0 1 2)), none, none, none]) (st' := []) rfl (mB_e0t hb19) ?_
      refine ev_go kc_25 2 (i' := 54) (L' := [some (.ref 1), some (.ref o1), some (.int p2), some (.int (M0 1 2)), none, none, none]) (st' := [.ref 406, .ref 1]) (M' := M18) rfl ?_
      obtain ⟨v26, M26, hc26, h⟩ := o_b2 h
      refine ev_cl0 (ins := .invokevirtual 43) kc_25 rfl rfl (a := 64) (as := [.ref 1, .ref 406]) (rest := []) rfl rfl (Cs.deep (c_X7_takes hc26) (by omega)) ?_
      rcases o_bif h with ⟨hb27, h⟩ | ⟨hb27, h⟩
      · refine ev_goF kc_25 1 (t := 58) (e := 56) (L' := [some (.ref 1), some (.ref o1), some (.int p2), some (.int (M0 1 2)), none, none, none]) (st' := []) rfl (mB_e0f hb27) ?_
        refine ev_go kc_25 2 (i' := 71) (L' := [some (.ref 1), some (.ref o1), some (.int p2), some (.int (M0 1 2)), none, none, none]) (st' := [.int (1007 : Int32)]) (M' := M26) rfl ?_
        exact Ev.forget (mLe.kp (mLe.kp (mLe.sk (mLe.sk (mLe.sk (mLe.sk (mLe.sk mLe.nl))))))) (e_X1_readAtom_71 hd hrc go1 h hk)
      · refine ev_goT kc_25 1 (t := 58) (e := 56) (L' := [some (.ref 1), some (.ref o1), some (.int p2), some (.int (M0 1 2)), none, none, none]) (st' := []) rfl (mB_e0t hb27) ?_
        refine ev_go kc_25 2 (i' := 60) (L' := [some (.ref 1), some (.ref o1), some (.int p2), some (.int (M0 1 2)), none, none, none]) (st' := [.ref 417, .ref 1]) (M' := M26) rfl ?_
        obtain ⟨v28, M28, hc28, h⟩ := o_b2 h
        refine ev_cl0 (ins := .invokevirtual 43) kc_25 rfl rfl (a := 64) (as := [.ref 1, .ref 417]) (rest := []) rfl rfl (Cs.deep (c_X7_takes hc28) (by omega)) ?_
        rcases o_bif h with ⟨hb29, h⟩ | ⟨hb29, h⟩
        · refine ev_goF kc_25 1 (t := 64) (e := 62) (L' := [some (.ref 1), some (.ref o1), some (.int p2), some (.int (M0 1 2)), none, none, none]) (st' := []) rfl (mB_e0f hb29) ?_
          refine ev_go kc_25 2 (i' := 71) (L' := [some (.ref 1), some (.ref o1), some (.int p2), some (.int (M0 1 2)), none, none, none]) (st' := [.int (1008 : Int32)]) (M' := M28) rfl ?_
          exact Ev.forget (mLe.kp (mLe.kp (mLe.sk (mLe.sk (mLe.sk (mLe.sk (mLe.sk mLe.nl))))))) (e_X1_readAtom_71 hd hrc go1 h hk)
        · refine ev_goT kc_25 1 (t := 64) (e := 62) (L' := [some (.ref 1), some (.ref o1), some (.int p2), some (.int (M0 1 2)), none, none, none]) (st' := []) rfl (mB_e0t hb29) ?_
          refine ev_go kc_25 2 (i' := 66) (L' := [some (.ref 1), some (.ref o1), some (.int p2), some (.int (M0 1 2)), none, none, none]) (st' := [.ref 418, .ref 1]) (M' := M28) rfl ?_
          obtain ⟨v30, M30, hc30, h⟩ := o_b2 h
          refine ev_cl0 (ins := .invokevirtual 43) kc_25 rfl rfl (a := 64) (as := [.ref 1, .ref 418]) (rest := []) rfl rfl (Cs.deep (c_X7_takes hc30) (by omega)) ?_
          rcases o_bif h with ⟨hb31, h⟩ | ⟨hb31, h⟩
          · refine ev_goF kc_25 1 (t := 70) (e := 68) (L' := [some (.ref 1), some (.ref o1), some (.int p2), some (.int (M0 1 2)), none, none, none]) (st' := []) rfl (mB_e0f hb31) ?_
            refine ev_go kc_25 2 (i' := 71) (L' := [some (.ref 1), some (.ref o1), some (.int p2), some (.int (M0 1 2)), none, none, none]) (st' := [.int (1009 : Int32)]) (M' := M30) rfl ?_
            exact Ev.forget (mLe.kp (mLe.kp (mLe.sk (mLe.sk (mLe.sk (mLe.sk (mLe.sk mLe.nl))))))) (e_X1_readAtom_71 hd hrc go1 h hk)
          · refine ev_goT kc_25 1 (t := 70) (e := 68) (L' := [some (.ref 1), some (.ref o1), some (.int p2), some (.int (M0 1 2)), none, none, none]) (st' := []) rfl (mB_e0t hb31) ?_
            refine ev_go kc_25 1 (i' := 71) (L' := [some (.ref 1), some (.ref o1), some (.int p2), some (.int (M0 1 2)), none, none, none]) (st' := [.int (-1 : Int32)]) (M' := M30) rfl ?_
            exact Ev.forget (mLe.kp (mLe.kp (mLe.sk (mLe.sk (mLe.sk (mLe.sk (mLe.sk mLe.nl))))))) (e_X1_readAtom_71 hd hrc go1 h hk)
def fp_C (n : Nat) : Nat → Nat → Int32 → mM → Option (Bool × mM) := match n with
  | 0 => fun _ _ _ _ => none
  | n + 1 => fun t o x M => match t with
    | 0 => f_X1_readAny (fp_C n) o x M
    | 1 => f_X1_readAll (fp_C n) o x M
    | 2 => f_X1_readAtom (fp_C n) o x M
    | _ => none
theorem cp_C : ∀ (n t o : Nat) (x : Int32) (M : mM) (r : Bool × mM), fp_C n t o x M = some r → Cs (20 + n) ([23, 24, 25].getD t 0) [.ref 1, .ref o, .int x] M (emW eB r) := by
  intro n
  induction n with
  | zero => intro t o x M r h; cases h
  | succ n ih =>
    intro t o x M r h
    match t, h with
    | 0, h => exact c_X1_readAny (Nat.le_add_right 20 n) ih h
    | 1, h => exact c_X1_readAll (Nat.le_add_right 20 n) ih h
    | 2, h => exact c_X1_readAtom (Nat.le_add_right 20 n) ih h
    | t + 3, h => cases h
theorem cp_X1_readAny {o : Nat} {x : Int32} {M0 : mM} {out : Bool × mM} (h : fp_C 40 0 o x M0 = some out) : Cs 60 23 [.ref 1, .ref o, .int x] M0 (emW eB out) := cp_C 40 0 o x M0 out h
theorem cp_X1_readAll {o : Nat} {x : Int32} {M0 : mM} {out : Bool × mM} (h : fp_C 40 1 o x M0 = some out) : Cs 60 24 [.ref 1, .ref o, .int x] M0 (emW eB out) := cp_C 40 1 o x M0 out h
theorem cp_X1_readAtom {o : Nat} {x : Int32} {M0 : mM} {out : Bool × mM} (h : fp_C 40 2 o x M0 = some out) : Cs 60 25 [.ref 1, .ref o, .int x] M0 (emW eB out) := cp_C 40 2 o x M0 out h
/-- WakeTowerModel.readCond()Z: 240, W -/
theorem kc_240 : mKc 240 = k_X12_readCond := rfl
def f_X12_readCond_5 (rc : Nat → mM → Option (Bool × mM)) (M0 : mM) : Option ((Bool × mM) ⊕ (mM)) :=
  b2 (f_X12_passes 423 M0) (fun v1 M1 => bif v1 then (b2 (rc 1 M1) (fun v3 M3 => bif v3 then (b2 (f_X12_emits (16 : Int32) (0 : Int32) M3) (fun v5 M5 => some (.inr M5))) else (some (.inl (false, M3))))) else (some (.inl (true, M1))))
set_option maxRecDepth 8000 in
theorem e_X12_readCond_5 {rc : Nat → mM → Option (Bool × mM)} {M0 : mM} {R : mZ} {out : ((Bool × mM) ⊕ (mM))} {dr : Nat} (hd : 20 ≤ dr) (hrc : ∀ (t : Nat) (M : mM) (r : Bool × mM), rc t M = some r → Cs dr ([240, 239, 238].getD t 0) [.ref 215] M (emW eB r))  (h : f_X12_readCond_5 rc M0 = some out) (hk : (∀ s' : mM, out = .inr s' → Ev (dr + 1) 240 5 [some (.ref 215)] [] (s') R) ∧ (∀ e1 : (Bool × mM), out = .inl e1 → R = emW eB e1)) : Ev (dr + 1) 240 5 [some (.ref 215)] [] M0 R := by
  unfold f_X12_readCond_5 at h
  refine ev_go kc_240 2 (i' := 7) (L' := [some (.ref 215)]) (st' := [.ref 423, .ref 215]) (M' := M0) rfl ?_
  obtain ⟨v1, M1, hc1, h⟩ := o_b2 h
  refine ev_cl0 (ins := .invokevirtual 260) kc_240 rfl rfl (a := 221) (as := [.ref 215, .ref 423]) (rest := []) rfl rfl (Cs.deep (c_X12_passes hc1) (by omega)) ?_
  rcases o_bif h with ⟨hb2, h⟩ | ⟨hb2, h⟩
  · refine ev_goF kc_240 1 (t := 19) (e := 9) (L' := [some (.ref 215)]) (st' := []) rfl (mB_e0f hb2) ?_
    refine ev_go kc_240 1 (i' := 10) (L' := [some (.ref 215)]) (st' := [.ref 215]) (M' := M1) rfl ?_
    obtain ⟨v3, M3, hc3, h⟩ := o_b2 h
    refine ev_cl0 (ins := .invokevirtual 274) kc_240 rfl rfl (a := 239) (as := [.ref 215]) (rest := []) rfl rfl (hrc 1 _ _ hc3) ?_
    rcases o_bif h with ⟨hb4, h⟩ | ⟨hb4, h⟩
    · refine ev_goT kc_240 1 (t := 14) (e := 12) (L' := [some (.ref 215)]) (st' := []) rfl (mB_n0t hb4) ?_
      refine ev_go kc_240 3 (i' := 17) (L' := [some (.ref 215)]) (st' := [.int (0 : Int32), .int (16 : Int32), .ref 215]) (M' := M3) rfl ?_
      obtain ⟨v5, M5, hc5, h⟩ := o_b2 h
      refine ev_cl0 (ins := .invokevirtual 238) kc_240 rfl rfl (a := 233) (as := [.ref 215, .int (16 : Int32), .int (0 : Int32)]) (rest := []) rfl rfl (Cs.deep (c_X12_emits hc5) (by omega)) ?_
      refine ev_go kc_240 1 (i' := 5) (L' := [some (.ref 215)]) (st' := []) (M' := M5) rfl ?_
      obtain rfl := Option.some.inj h
      exact Ev.forget (mLe.kp mLe.nl) (hk.1 M5 rfl)
    · refine ev_goF kc_240 1 (t := 14) (e := 12) (L' := [some (.ref 215)]) (st' := []) rfl (mB_n0f hb4) ?_
      refine ev_go kc_240 1 (i' := 13) (L' := [some (.ref 215)]) (st' := [.int (0 : Int32)]) (M' := M3) rfl ?_
      obtain rfl := Option.some.inj h
      rw [show _ from (hk.2 _ rfl)]
      exact ev_ret kc_240 rfl rfl rfl
  · refine ev_goT kc_240 1 (t := 19) (e := 9) (L' := [some (.ref 215)]) (st' := []) rfl (mB_e0t hb2) ?_
    refine ev_go kc_240 1 (i' := 20) (L' := [some (.ref 215)]) (st' := [.int (1 : Int32)]) (M' := M1) rfl ?_
    obtain rfl := Option.some.inj h
    rw [show _ from (hk.2 _ rfl)]
    exact ev_ret kc_240 rfl rfl rfl
def f_X12_readCond_l5 (rc : Nat → mM → Option (Bool × mM)) (M0 : mM) : Option (Bool × mM) :=
  wh 100000 (fun s : mM => f_X12_readCond_5 rc s) M0
theorem e_X12_readCond_l5 {rc : Nat → mM → Option (Bool × mM)} {M0 : mM} {R : mZ} {out : (Bool × mM)} {dr : Nat} (hd : 20 ≤ dr) (hrc : ∀ (t : Nat) (M : mM) (r : Bool × mM), rc t M = some r → Cs dr ([240, 239, 238].getD t 0) [.ref 215] M (emW eB r))  (h : f_X12_readCond_l5 rc M0 = some out) (hk : R = emW eB out) : Ev (dr + 1) 240 5 [some (.ref 215)] [] M0 R := by
  unfold f_X12_readCond_l5 at h
  exact wh_ev (P := fun s : mM => Ev (dr + 1) 240 5 [some (.ref 215)] [] s R) (Q := fun e : (Bool × mM) => R = emW eB e) (fun s o hb h1 h2 => e_X12_readCond_5 hd hrc hb ⟨h1, h2⟩) 100000 _ _ h hk
def f_X12_readCond (rc : Nat → mM → Option (Bool × mM))  (M0 : mM) : Option (Bool × mM) :=
  b2 (rc 1 M0) (fun v6 M6 => bif v6 then (f_X12_readCond_l5 rc M6) else (some (false, M6)))
set_option maxRecDepth 8000 in
theorem c_X12_readCond {rc : Nat → mM → Option (Bool × mM)}  {M0 : mM} {out : (Bool × mM)} {dr : Nat} (hd : 20 ≤ dr) (hrc : ∀ (t : Nat) (M : mM) (r : Bool × mM), rc t M = some r → Cs dr ([240, 239, 238].getD t 0) [.ref 215] M (emW eB r)) (h : f_X12_readCond rc M0 = some out) : Cs (dr + 1) 240 [.ref 215] M0 (emW eB out) := by
  generalize hk : emW eB out = R
  replace hk := hk.symm
  unfold f_X12_readCond at h
  show Ev (dr + 1) 240 0 [some (.ref 215)] [] M0 R
  refine ev_go kc_240 1 (i' := 1) (L' := [some (.ref 215)]) (st' := [.ref 215]) (M' := M0) rfl ?_
  obtain ⟨v6, M6, hc6, h⟩ := o_b2 h
  refine ev_cl0 (ins := .invokevirtual 274) kc_240 rfl rfl (a := 239) (as := [.ref 215]) (rest := []) rfl rfl (hrc 1 _ _ hc6) ?_
  rcases o_bif h with ⟨hb7, h⟩ | ⟨hb7, h⟩
  · refine ev_goT kc_240 1 (t := 5) (e := 3) (L' := [some (.ref 215)]) (st' := []) rfl (mB_n0t hb7) ?_
    exact Ev.forget (mLe.kp mLe.nl) (e_X12_readCond_l5 hd hrc h hk)
  · refine ev_goF kc_240 1 (t := 5) (e := 3) (L' := [some (.ref 215)]) (st' := []) rfl (mB_n0f hb7) ?_
    refine ev_go kc_240 1 (i' := 4) (L' := [some (.ref 215)]) (st' := [.int (0 : Int32)]) (M' := M6) rfl ?_
    obtain rfl := Option.some.inj h
    rw [hk]
    exact ev_ret kc_240 rfl rfl rfl
/-- WakeTowerModel.readAllOf()Z: 239, W -/
theorem kc_239 : mKc 239 = k_X12_readAllOf := rfl
def f_X12_readAllOf_5 (rc : Nat → mM → Option (Bool × mM)) (M0 : mM) : Option ((Bool × mM) ⊕ (mM)) :=
  b2 (f_X12_passes 422 M0) (fun v1 M1 => bif v1 then (b2 (rc 2 M1) (fun v3 M3 => bif v3 then (b2 (f_X12_emits (15 : Int32) (0 : Int32) M3) (fun v5 M5 => some (.inr M5))) else (some (.inl (false, M3))))) else (some (.inl (true, M1))))
set_option maxRecDepth 8000 in
theorem e_X12_readAllOf_5 {rc : Nat → mM → Option (Bool × mM)} {M0 : mM} {R : mZ} {out : ((Bool × mM) ⊕ (mM))} {dr : Nat} (hd : 20 ≤ dr) (hrc : ∀ (t : Nat) (M : mM) (r : Bool × mM), rc t M = some r → Cs dr ([240, 239, 238].getD t 0) [.ref 215] M (emW eB r))  (h : f_X12_readAllOf_5 rc M0 = some out) (hk : (∀ s' : mM, out = .inr s' → Ev (dr + 1) 239 5 [some (.ref 215)] [] (s') R) ∧ (∀ e1 : (Bool × mM), out = .inl e1 → R = emW eB e1)) : Ev (dr + 1) 239 5 [some (.ref 215)] [] M0 R := by
  unfold f_X12_readAllOf_5 at h
  refine ev_go kc_239 2 (i' := 7) (L' := [some (.ref 215)]) (st' := [.ref 422, .ref 215]) (M' := M0) rfl ?_
  obtain ⟨v1, M1, hc1, h⟩ := o_b2 h
  refine ev_cl0 (ins := .invokevirtual 260) kc_239 rfl rfl (a := 221) (as := [.ref 215, .ref 422]) (rest := []) rfl rfl (Cs.deep (c_X12_passes hc1) (by omega)) ?_
  rcases o_bif h with ⟨hb2, h⟩ | ⟨hb2, h⟩
  · refine ev_goF kc_239 1 (t := 19) (e := 9) (L' := [some (.ref 215)]) (st' := []) rfl (mB_e0f hb2) ?_
    refine ev_go kc_239 1 (i' := 10) (L' := [some (.ref 215)]) (st' := [.ref 215]) (M' := M1) rfl ?_
    obtain ⟨v3, M3, hc3, h⟩ := o_b2 h
    refine ev_cl0 (ins := .invokevirtual 263) kc_239 rfl rfl (a := 238) (as := [.ref 215]) (rest := []) rfl rfl (hrc 2 _ _ hc3) ?_
    rcases o_bif h with ⟨hb4, h⟩ | ⟨hb4, h⟩
    · refine ev_goT kc_239 1 (t := 14) (e := 12) (L' := [some (.ref 215)]) (st' := []) rfl (mB_n0t hb4) ?_
      refine ev_go kc_239 3 (i' := 17) (L' := [some (.ref 215)]) (st' := [.int (0 : Int32), .int (15 : Int32), .ref 215]) (M' := M3) rfl ?_
      obtain ⟨v5, M5, hc5, h⟩ := o_b2 h
      refine ev_cl0 (ins := .invokevirtual 238) kc_239 rfl rfl (a := 233) (as := [.ref 215, .int (15 : Int32), .int (0 : Int32)]) (rest := []) rfl rfl (Cs.deep (c_X12_emits hc5) (by omega)) ?_
      refine ev_go kc_239 1 (i' := 5) (L' := [some (.ref 215)]) (st' := []) (M' := M5) rfl ?_
      obtain rfl := Option.some.inj h
      exact Ev.forget (mLe.kp mLe.nl) (hk.1 M5 rfl)
    · refine ev_goF kc_239 1 (t := 14) (e := 12) (L' := [some (.ref 215)]) (st' := []) rfl (mB_n0f hb4) ?_
      refine ev_go kc_239 1 (i' := 13) (L' := [some (.ref 215)]) (st' := [.int (0 : Int32)]) (M' := M3) rfl ?_
      obtain rfl := Option.some.inj h
      rw [show _ from (hk.2 _ rfl)]
      exact ev_ret kc_239 rfl rfl rfl
  · refine ev_goT kc_239 1 (t := 19) (e := 9) (L' := [some (.ref 215)]) (st' := []) rfl (mB_e0t hb2) ?_
    refine ev_go kc_239 1 (i' := 20) (L' := [some (.ref 215)]) (st' := [.int (1 : Int32)]) (M' := M1) rfl ?_
    obtain rfl := Option.some.inj h
    rw [show _ from (hk.2 _ rfl)]
    exact ev_ret kc_239 rfl rfl rfl
def f_X12_readAllOf_l5 (rc : Nat → mM → Option (Bool × mM)) (M0 : mM) : Option (Bool × mM) :=
  wh 100000 (fun s : mM => f_X12_readAllOf_5 rc s) M0
theorem e_X12_readAllOf_l5 {rc : Nat → mM → Option (Bool × mM)} {M0 : mM} {R : mZ} {out : (Bool × mM)} {dr : Nat} (hd : 20 ≤ dr) (hrc : ∀ (t : Nat) (M : mM) (r : Bool × mM), rc t M = some r → Cs dr ([240, 239, 238].getD t 0) [.ref 215] M (emW eB r))  (h : f_X12_readAllOf_l5 rc M0 = some out) (hk : R = emW eB out) : Ev (dr + 1) 239 5 [some (.ref 215)] [] M0 R := by
  unfold f_X12_readAllOf_l5 at h
  exact wh_ev (P := fun s : mM => Ev (dr + 1) 239 5 [some (.ref 215)] [] s R) (Q := fun e : (Bool × mM) => R = emW eB e) (fun s o hb h1 h2 => e_X12_readAllOf_5 hd hrc hb ⟨h1, h2⟩) 100000 _ _ h hk
def f_X12_readAllOf (rc : Nat → mM → Option (Bool × mM))  (M0 : mM) : Option (Bool × mM) :=
  b2 (rc 2 M0) (fun v6 M6 => bif v6 then (f_X12_readAllOf_l5 rc M6) else (some (false, M6)))
set_option maxRecDepth 8000 in
theorem c_X12_readAllOf {rc : Nat → mM → Option (Bool × mM)}  {M0 : mM} {out : (Bool × mM)} {dr : Nat} (hd : 20 ≤ dr) (hrc : ∀ (t : Nat) (M : mM) (r : Bool × mM), rc t M = some r → Cs dr ([240, 239, 238].getD t 0) [.ref 215] M (emW eB r)) (h : f_X12_readAllOf rc M0 = some out) : Cs (dr + 1) 239 [.ref 215] M0 (emW eB out) := by
  generalize hk : emW eB out = R
  replace hk := hk.symm
  unfold f_X12_readAllOf at h
  show Ev (dr + 1) 239 0 [some (.ref 215)] [] M0 R
  refine ev_go kc_239 1 (i' := 1) (L' := [some (.ref 215)]) (st' := [.ref 215]) (M' := M0) rfl ?_
  obtain ⟨v6, M6, hc6, h⟩ := o_b2 h
  refine ev_cl0 (ins := .invokevirtual 263) kc_239 rfl rfl (a := 238) (as := [.ref 215]) (rest := []) rfl rfl (hrc 2 _ _ hc6) ?_
  rcases o_bif h with ⟨hb7, h⟩ | ⟨hb7, h⟩
  · refine ev_goT kc_239 1 (t := 5) (e := 3) (L' := [some (.ref 215)]) (st' := []) rfl (mB_n0t hb7) ?_
    exact Ev.forget (mLe.kp mLe.nl) (e_X12_readAllOf_l5 hd hrc h hk)
  · refine ev_goF kc_239 1 (t := 5) (e := 3) (L' := [some (.ref 215)]) (st' := []) rfl (mB_n0f hb7) ?_
    refine ev_go kc_239 1 (i' := 4) (L' := [some (.ref 215)]) (st' := [.int (0 : Int32)]) (M' := M6) rfl ?_
    obtain rfl := Option.some.inj h
    rw [hk]
    exact ev_ret kc_239 rfl rfl rfl
/-- WakeTowerModel.readAtom()Z: 238, W -/
theorem kc_238 : mKc 238 = k_X12_readAtom := rfl
def f_X12_readAtom_95 (rc : Nat → mM → Option (Bool × mM)) (s1 : Int32) (M0 : mM) : Option (Bool × mM) :=
  b2 (f_X12_emits s1 (0 : Int32) M0) (fun v1 M1 => some (true, M1))
set_option maxRecDepth 8000 in
theorem e_X12_readAtom_95 {rc : Nat → mM → Option (Bool × mM)} {s1 : Int32} {M0 : mM} {R : mZ} {out : (Bool × mM)} {dr : Nat} (hd : 20 ≤ dr) (hrc : ∀ (t : Nat) (M : mM) (r : Bool × mM), rc t M = some r → Cs dr ([240, 239, 238].getD t 0) [.ref 215] M (emW eB r))  (h : f_X12_readAtom_95 rc s1 M0 = some out) (hk : R = emW eB out) : Ev (dr + 1) 238 95 [none, none] [.int s1, .ref 215] M0 R := by
  unfold f_X12_readAtom_95 at h
  refine ev_go kc_238 1 (i' := 96) (L' := [none, none]) (st' := [.int (0 : Int32), .int s1, .ref 215]) (M' := M0) rfl ?_
  obtain ⟨v1, M1, hc1, h⟩ := o_b2 h
  refine ev_cl0 (ins := .invokevirtual 238) kc_238 rfl rfl (a := 233) (as := [.ref 215, .int s1, .int (0 : Int32)]) (rest := []) rfl rfl (Cs.deep (c_X12_emits hc1) (by omega)) ?_
  refine ev_go kc_238 1 (i' := 98) (L' := [none, none]) (st' := [.int (1 : Int32)]) (M' := M1) rfl ?_
  obtain rfl := Option.some.inj h
  rw [hk]
  exact ev_ret kc_238 rfl rfl rfl
def f_X12_readAtom_84 (rc : Nat → mM → Option (Bool × mM)) (l1 : Bool) (M0 : mM) : Option (Bool × mM) :=
  b2 (f_X12_readSum M0) (fun v2 M2 => bif v2 then (bif l1 then (f_X12_readAtom_95 rc (12 : Int32) M2) else (f_X12_readAtom_95 rc (13 : Int32) M2)) else (some (false, M2)))
set_option maxRecDepth 8000 in
theorem e_X12_readAtom_84 {rc : Nat → mM → Option (Bool × mM)} {l1 : Bool} {M0 : mM} {R : mZ} {out : (Bool × mM)} {dr : Nat} (hd : 20 ≤ dr) (hrc : ∀ (t : Nat) (M : mM) (r : Bool × mM), rc t M = some r → Cs dr ([240, 239, 238].getD t 0) [.ref 215] M (emW eB r))  (h : f_X12_readAtom_84 rc l1 M0 = some out) (hk : R = emW eB out) : Ev (dr + 1) 238 84 [some (.ref 215), some (.int (mB l1))] [] M0 R := by
  unfold f_X12_readAtom_84 at h
  refine ev_go kc_238 1 (i' := 85) (L' := [some (.ref 215), some (.int (mB l1))]) (st' := [.ref 215]) (M' := M0) rfl ?_
  obtain ⟨v2, M2, hc2, h⟩ := o_b2 h
  refine ev_cl0 (ins := .invokevirtual 269) kc_238 rfl rfl (a := 236) (as := [.ref 215]) (rest := []) rfl rfl (Cs.deep (c_X12_readSum hc2) (by omega)) ?_
  rcases o_bif h with ⟨hb3, h⟩ | ⟨hb3, h⟩
  · refine ev_goT kc_238 1 (t := 89) (e := 87) (L' := [some (.ref 215), some (.int (mB l1))]) (st' := []) rfl (mB_n0t hb3) ?_
    rcases o_bif h with ⟨hb4, h⟩ | ⟨hb4, h⟩
    · refine ev_goF kc_238 3 (t := 94) (e := 92) (L' := [some (.ref 215), some (.int (mB l1))]) (st' := [.ref 215]) rfl (mB_e0f hb4) ?_
      refine ev_go kc_238 2 (i' := 95) (L' := [some (.ref 215), some (.int (mB l1))]) (st' := [.int (12 : Int32), .ref 215]) (M' := M2) rfl ?_
      exact Ev.forget (mLe.sk (mLe.sk mLe.nl)) (e_X12_readAtom_95 hd hrc h hk)
    · refine ev_goT kc_238 3 (t := 94) (e := 92) (L' := [some (.ref 215), some (.int (mB l1))]) (st' := [.ref 215]) rfl (mB_e0t hb4) ?_
      refine ev_go kc_238 1 (i' := 95) (L' := [some (.ref 215), some (.int (mB l1))]) (st' := [.int (13 : Int32), .ref 215]) (M' := M2) rfl ?_
      exact Ev.forget (mLe.sk (mLe.sk mLe.nl)) (e_X12_readAtom_95 hd hrc h hk)
  · refine ev_goF kc_238 1 (t := 89) (e := 87) (L' := [some (.ref 215), some (.int (mB l1))]) (st' := []) rfl (mB_n0f hb3) ?_
    refine ev_go kc_238 1 (i' := 88) (L' := [some (.ref 215), some (.int (mB l1))]) (st' := [.int (0 : Int32)]) (M' := M2) rfl ?_
    obtain rfl := Option.some.inj h
    rw [hk]
    exact ev_ret kc_238 rfl rfl rfl
def f_X12_readAtom (rc : Nat → mM → Option (Bool × mM))  (M0 : mM) : Option (Bool × mM) :=
  b2 (f_X12_sign (40 : Int32) M0) (fun v5 M5 => bif v5 then (bif decide (¬ (M5 215 17) = (6 : Int32)) then (wr (mst M5 215 17 ((M5 215 17) + (1 : Int32))) (fun M8 => b2 (rc 0 M8) (fun v9 M9 => bif v9 then (wr (mst M9 215 17 ((M9 215 17) - (1 : Int32))) (fun M11 => b2 (f_X12_sign (41 : Int32) M11) (fun v12 M12 => some (v12, M12)))) else (some (false, M9))))) else (some (false, M5))) else (b2 (f_X12_passes 416 M5) (fun v13 M13 => bif v13 then (bif decide (¬ (M13 215 17) = (6 : Int32)) then (wr (mst M13 215 17 ((M13 215 17) + (1 : Int32))) (fun M16 => b2 (rc 2 M16) (fun v17 M17 => bif v17 then (wr (mst M17 215 17 ((M17 215 17) - (1 : Int32))) (fun M19 => b2 (f_X12_emits (14 : Int32) (0 : Int32) M19) (fun v20 M20 => some (true, M20)))) else (some (false, M17))))) else (some (false, M13))) else (b2 (f_X12_readTag M13) (fun v21 M21 => bif v21 then (some (true, M21)) else (b2 (f_X12_readSum M21) (fun v23 M23 => bif v23 then (b2 (f_X12_sign (60 : Int32) M23) (fun v25 M25 => bif v25 then (f_X12_readAtom_84 rc v25 M25) else (b2 (f_X12_sign (62 : Int32) M25) (fun v27 M27 => bif v27 then (f_X12_readAtom_84 rc v25 M27) else (some (false, M27)))))) else (some (false, M23)))))))))
set_option maxRecDepth 8000 in
theorem c_X12_readAtom {rc : Nat → mM → Option (Bool × mM)}  {M0 : mM} {out : (Bool × mM)} {dr : Nat} (hd : 20 ≤ dr) (hrc : ∀ (t : Nat) (M : mM) (r : Bool × mM), rc t M = some r → Cs dr ([240, 239, 238].getD t 0) [.ref 215] M (emW eB r)) (h : f_X12_readAtom rc M0 = some out) : Cs (dr + 1) 238 [.ref 215] M0 (emW eB out) := by
  generalize hk : emW eB out = R
  replace hk := hk.symm
  unfold f_X12_readAtom at h
  show Ev (dr + 1) 238 0 [some (.ref 215), none] [] M0 R
  refine ev_go kc_238 2 (i' := 2) (L' := [some (.ref 215), none]) (st' := [.int (40 : Int32), .ref 215]) (M' := M0) rfl ?_
  obtain ⟨v5, M5, hc5, h⟩ := o_b2 h
  refine ev_cl0 (ins := .invokevirtual 245) kc_238 rfl rfl (a := 222) (as := [.ref 215, .int (40 : Int32)]) (rest := []) rfl rfl (Cs.deep (c_X12_sign hc5) (by omega)) ?_
  rcases o_bif h with ⟨hb6, h⟩ | ⟨hb6, h⟩
  · refine ev_goF kc_238 1 (t := 31) (e := 4) (L' := [some (.ref 215), none]) (st' := []) rfl (mB_e0f hb6) ?_
    rcases o_bif h with ⟨hb7, h⟩ | ⟨hb7, h⟩
    · refine ev_goT kc_238 4 (t := 10) (e := 8) (L' := [some (.ref 215), none]) (st' := []) rfl hb7 ?_
      refine ev_go kc_238 5 (i' := 15) (L' := [some (.ref 215), none]) (st' := [.int ((M5 215 17) + (1 : Int32)), .ref 215]) (M' := M5) rfl ?_
      obtain ⟨M8, hM8, h⟩ := o_wr h
      refine ev_pf kc_238 rfl rfl rfl rfl (fun hc => absurd hc (by decide)) hM8 ?_
      refine ev_go kc_238 1 (i' := 17) (L' := [some (.ref 215), none]) (st' := [.ref 215]) (M' := M8) rfl ?_
      obtain ⟨v9, M9, hc9, h⟩ := o_b2 h
      refine ev_cl0 (ins := .invokevirtual 255) kc_238 rfl rfl (a := 240) (as := [.ref 215]) (rest := []) rfl rfl (hrc 0 _ _ hc9) ?_
      rcases o_bif h with ⟨hb10, h⟩ | ⟨hb10, h⟩
      · refine ev_goT kc_238 1 (t := 21) (e := 19) (L' := [some (.ref 215), none]) (st' := []) rfl (mB_n0t hb10) ?_
        refine ev_go kc_238 5 (i' := 26) (L' := [some (.ref 215), none]) (st' := [.int ((M9 215 17) - (1 : Int32)), .ref 215]) (M' := M9) rfl ?_
        obtain ⟨M11, hM11, h⟩ := o_wr h
        refine ev_pf kc_238 rfl rfl rfl rfl (fun hc => absurd hc (by decide)) hM11 ?_
        refine ev_go kc_238 2 (i' := 29) (L' := [some (.ref 215), none]) (st' := [.int (41 : Int32), .ref 215]) (M' := M11) rfl ?_
        obtain ⟨v12, M12, hc12, h⟩ := o_b2 h
        refine ev_cl0 (ins := .invokevirtual 245) kc_238 rfl rfl (a := 222) (as := [.ref 215, .int (41 : Int32)]) (rest := []) rfl rfl (Cs.deep (c_X12_sign hc12) (by omega)) ?_
        obtain rfl := Option.some.inj h
        rw [hk]
        exact ev_ret kc_238 rfl rfl mB_rok
      · refine ev_goF kc_238 1 (t := 21) (e := 19) (L' := [some (.ref 215), none]) (st' := []) rfl (mB_n0f hb10) ?_
        refine ev_go kc_238 1 (i' := 20) (L' := [some (.ref 215), none]) (st' := [.int (0 : Int32)]) (M' := M9) rfl ?_
        obtain rfl := Option.some.inj h
        rw [hk]
        exact ev_ret kc_238 rfl rfl rfl
    · refine ev_goF kc_238 4 (t := 10) (e := 8) (L' := [some (.ref 215), none]) (st' := []) rfl hb7 ?_
      refine ev_go kc_238 1 (i' := 9) (L' := [some (.ref 215), none]) (st' := [.int (0 : Int32)]) (M' := M5) rfl ?_
      obtain rfl := Option.some.inj h
      rw [hk]
      exact ev_ret kc_238 rfl rfl rfl
  · refine ev_goT kc_238 1 (t := 31) (e := 4) (L' := [some (.ref 215), none]) (st' := []) rfl (mB_e0t hb6) ?_
    refine ev_go kc_238 2 (i' := 33) (L' := [some (.ref 215), none]) (st' := [.ref 416, .ref 215]) (M' := M5) rfl ?_
    obtain ⟨v13, M13, hc13, h⟩ := o_b2 h
    refine ev_cl0 (ins := .invokevirtual 260) kc_238 rfl rfl (a := 221) (as := [.ref 215, .ref 416]) (rest := []) rfl rfl (Cs.deep (c_X12_passes hc13) (by omega)) ?_
    rcases o_bif h with ⟨hb14, h⟩ | ⟨hb14, h⟩
    · refine ev_goF kc_238 1 (t := 64) (e := 35) (L' := [some (.ref 215), none]) (st' := []) rfl (mB_e0f hb14) ?_
      rcases o_bif h with ⟨hb15, h⟩ | ⟨hb15, h⟩
      · refine ev_goT kc_238 4 (t := 41) (e := 39) (L' := [some (.ref 215), none]) (st' := []) rfl hb15 ?_
        refine ev_go kc_238 5 (i' := 46) (L' := [some (.ref 215), none]) (st' := [.int ((M13 215 17) + (1 : Int32)), .ref 215]) (M' := M13) rfl ?_
        obtain ⟨M16, hM16, h⟩ := o_wr h
        refine ev_pf kc_238 rfl rfl rfl rfl (fun hc => absurd hc (by decide)) hM16 ?_
        refine ev_go kc_238 1 (i' := 48) (L' := [some (.ref 215), none]) (st' := [.ref 215]) (M' := M16) rfl ?_
        obtain ⟨v17, M17, hc17, h⟩ := o_b2 h
        refine ev_cl0 (ins := .invokevirtual 263) kc_238 rfl rfl (a := 238) (as := [.ref 215]) (rest := []) rfl rfl (hrc 2 _ _ hc17) ?_
        rcases o_bif h with ⟨hb18, h⟩ | ⟨hb18, h⟩
        · refine ev_goT kc_238 1 (t := 52) (e := 50) (L' := [some (.ref 215), none]) (st' := []) rfl (mB_n0t hb18) ?_
          refine ev_go kc_238 5 (i' := 57) (L' := [some (.ref 215), none]) (st' := [.int ((M17 215 17) - (1 : Int32)), .ref 215]) (M' := M17) rfl ?_
          obtain ⟨M19, hM19, h⟩ := o_wr h
          refine ev_pf kc_238 rfl rfl rfl rfl (fun hc => absurd hc (by decide)) hM19 ?_
          refine ev_go kc_238 3 (i' := 61) (L' := [some (.ref 215), none]) (st' := [.int (0 : Int32), .int (14 : Int32), .ref 215]) (M' := M19) rfl ?_
          obtain ⟨v20, M20, hc20, h⟩ := o_b2 h
          refine ev_cl0 (ins := .invokevirtual 238) kc_238 rfl rfl (a := 233) (as := [.ref 215, .int (14 : Int32), .int (0 : Int32)]) (rest := []) rfl rfl (Cs.deep (c_X12_emits hc20) (by omega)) ?_
          refine ev_go kc_238 1 (i' := 63) (L' := [some (.ref 215), none]) (st' := [.int (1 : Int32)]) (M' := M20) rfl ?_
          obtain rfl := Option.some.inj h
          rw [hk]
          exact ev_ret kc_238 rfl rfl rfl
        · refine ev_goF kc_238 1 (t := 52) (e := 50) (L' := [some (.ref 215), none]) (st' := []) rfl (mB_n0f hb18) ?_
          refine ev_go kc_238 1 (i' := 51) (L' := [some (.ref 215), none]) (st' := [.int (0 : Int32)]) (M' := M17) rfl ?_
          obtain rfl := Option.some.inj h
          rw [hk]
          exact ev_ret kc_238 rfl rfl rfl
      · refine ev_goF kc_238 4 (t := 41) (e := 39) (L' := [some (.ref 215), none]) (st' := []) rfl hb15 ?_
        refine ev_go kc_238 1 (i' := 40) (L' := [some (.ref 215), none]) (st' := [.int (0 : Int32)]) (M' := M13) rfl ?_
        obtain rfl := Option.some.inj h
        rw [hk]
        exact ev_ret kc_238 rfl rfl rfl
    · refine ev_goT kc_238 1 (t := 64) (e := 35) (L' := [some (.ref 215), none]) (st' := []) rfl (mB_e0t hb14) ?_
      refine ev_go kc_238 1 (i' := 65) (L' := [some (.ref 215), none]) (st' := [.ref 215]) (M' := M13) rfl ?_
      obtain ⟨v21, M21, hc21, h⟩ := o_b2 h
      refine ev_cl0 (ins := .invokevirtual 266) kc_238 rfl rfl (a := 237) (as := [.ref 215]) (rest := []) rfl rfl (Cs.deep (c_X12_readTag hc21) (by omega)) ?_
      rcases o_bif h with ⟨hb22, h⟩ | ⟨hb22, h⟩
      · refine ev_goF kc_238 1 (t := 69) (e := 67) (L' := [some (.ref 215), none]) (st' := []) rfl (mB_e0f hb22) ?_
        refine ev_go kc_238 1 (i' := 68) (L' := [some (.ref 215), none]) (st' := [.int (1 : Int32)]) (M' := M21) rfl ?_
        obtain rfl := Option.some.inj h
        rw [hk]
        exact ev_ret kc_238 rfl rfl rfl
      · refine ev_goT kc_238 1 (t := 69) (e := 67) (L' := [some (.ref 215), none]) (st' := []) rfl (mB_e0t hb22) ?_
        refine ev_go kc_238 1 (i' := 70) (L' := [some (.ref 215), none]) (st' := [.ref 215]) (M' := M21) rfl ?_
        obtain ⟨v23, M23, hc23, h⟩ := o_b2 h
        refine ev_cl0 (ins := .invokevirtual 269) kc_238 rfl rfl (a := 236) (as := [.ref 215]) (rest := []) rfl rfl (Cs.deep (c_X12_readSum hc23) (by omega)) ?_
        rcases o_bif h with ⟨hb24, h⟩ | ⟨hb24, h⟩
        · refine ev_goT kc_238 1 (t := 74) (e := 72) (L' := [some (.ref 215), none]) (st' := []) rfl (mB_n0t hb24) ?_
          refine ev_go kc_238 2 (i' := 76) (L' := [some (.ref 215), none]) (st' := [.int (60 : Int32), .ref 215]) (M' := M23) rfl ?_
          obtain ⟨v25, M25, hc25, h⟩ := o_b2 h
          refine ev_cl0 (ins := .invokevirtual 245) kc_238 rfl rfl (a := 222) (as := [.ref 215, .int (60 : Int32)]) (rest := []) rfl rfl (Cs.deep (c_X12_sign hc25) (by omega)) ?_
          rcases o_bif h with ⟨hb26, h⟩ | ⟨hb26, h⟩
          · refine ev_goT kc_238 3 (t := 84) (e := 80) (L' := [some (.ref 215), some (.int (mB v25))]) (st' := []) rfl (mB_n0t hb26) ?_
            exact Ev.forget (mLe.kp (mLe.kp mLe.nl)) (e_X12_readAtom_84 hd hrc h hk)
          · refine ev_goF kc_238 3 (t := 84) (e := 80) (L' := [some (.ref 215), some (.int (mB v25))]) (st' := []) rfl (mB_n0f hb26) ?_
            refine ev_go kc_238 2 (i' := 82) (L' := [some (.ref 215), some (.int (mB v25))]) (st' := [.int (62 : Int32), .ref 215]) (M' := M25) rfl ?_
            obtain ⟨v27, M27, hc27, h⟩ := o_b2 h
            refine ev_cl0 (ins := .invokevirtual 245) kc_238 rfl rfl (a := 222) (as := [.ref 215, .int (62 : Int32)]) (rest := []) rfl rfl (Cs.deep (c_X12_sign hc27) (by omega)) ?_
            rcases o_bif h with ⟨hb28, h⟩ | ⟨hb28, h⟩
            · refine ev_goF kc_238 1 (t := 87) (e := 84) (L' := [some (.ref 215), some (.int (mB v25))]) (st' := []) rfl (mB_e0f hb28) ?_
              exact Ev.forget (mLe.kp (mLe.kp mLe.nl)) (e_X12_readAtom_84 hd hrc h hk)
            · refine ev_goT kc_238 1 (t := 87) (e := 84) (L' := [some (.ref 215), some (.int (mB v25))]) (st' := []) rfl (mB_e0t hb28) ?_
              refine ev_go kc_238 1 (i' := 88) (L' := [some (.ref 215), some (.int (mB v25))]) (st' := [.int (0 : Int32)]) (M' := M27) rfl ?_
              obtain rfl := Option.some.inj h
              rw [hk]
              exact ev_ret kc_238 rfl rfl rfl
        · refine ev_goF kc_238 1 (t := 74) (e := 72) (L' := [some (.ref 215), none]) (st' := []) rfl (mB_n0f hb24) ?_
          refine ev_go kc_238 1 (i' := 73) (L' := [some (.ref 215), none]) (st' := [.int (0 : Int32)]) (M' := M23) rfl ?_
          obtain rfl := Option.some.inj h
          rw [hk]
          exact ev_ret kc_238 rfl rfl rfl
def fp_M (n : Nat) : Nat → mM → Option (Bool × mM) := match n with
  | 0 => fun _ _ => none
  | n + 1 => fun t M => match t with
    | 0 => f_X12_readCond (fp_M n) M
    | 1 => f_X12_readAllOf (fp_M n) M
    | 2 => f_X12_readAtom (fp_M n) M
    | _ => none
theorem cp_M : ∀ (n t : Nat) (M : mM) (r : Bool × mM), fp_M n t M = some r → Cs (20 + n) ([240, 239, 238].getD t 0) [.ref 215] M (emW eB r) := by
  intro n
  induction n with
  | zero => intro t M r h; cases h
  | succ n ih =>
    intro t M r h
    match t, h with
    | 0, h => exact c_X12_readCond (Nat.le_add_right 20 n) ih h
    | 1, h => exact c_X12_readAllOf (Nat.le_add_right 20 n) ih h
    | 2, h => exact c_X12_readAtom (Nat.le_add_right 20 n) ih h
    | t + 3, h => cases h
theorem cp_X12_readCond {M0 : mM} {out : Bool × mM} (h : fp_M 40 0 M0 = some out) : Cs 60 240 [.ref 215] M0 (emW eB out) := cp_M 40 0 M0 out h
theorem cp_X12_readAllOf {M0 : mM} {out : Bool × mM} (h : fp_M 40 1 M0 = some out) : Cs 60 239 [.ref 215] M0 (emW eB out) := cp_M 40 1 M0 out h
theorem cp_X12_readAtom {M0 : mM} {out : Bool × mM} (h : fp_M 40 2 M0 = some out) : Cs 60 238 [.ref 215] M0 (emW eB out) := cp_M 40 2 M0 out h
/-- WakeTower$LawText.readLine(LWakeTower$Tape;LWakeTower$Law;)Z: 22, W -/
theorem kc_22 : mKc 22 = k_X1_readLine := rfl
def f_X1_readLine_49 (o1 : Nat) (l2 : Int32) (l3 : Int32) (M0 : mM) : Option (Bool × mM) :=
  b2 (f_X0_endLine o1 l2 l3 M0) (fun v1 M1 => some (true, M1))
set_option maxRecDepth 8000 in
theorem e_X1_readLine_49 {o1 : Nat} {l2 : Int32} {l3 : Int32} {M0 : mM} {R : mZ} {out : (Bool × mM)} (go1 : mLwB o1 = true) (h : f_X1_readLine_49 o1 l2 l3 M0 = some out) (hk : R = emW eB out) : Ev (61) 22 49 [none, some (.ref o1), some (.int l2), some (.int l3)] [] M0 R := by
  unfold f_X1_readLine_49 at h
  refine ev_go kc_22 3 (i' := 52) (L' := [none, some (.ref o1), some (.int l2), some (.int l3)]) (st' := [.int l3, .int l2, .ref o1]) (M' := M0) rfl ?_
  obtain ⟨v1, M1, hc1, h⟩ := o_b2 h
  refine ev_cl0 (ins := .invokevirtual 61) kc_22 rfl rfl (a := 15) (as := [.ref o1, .int l2, .int l3]) (rest := []) rfl (m_rec (mLw0 go1)) (Cs.deep (c_X0_endLine hc1) (by decide)) ?_
  refine ev_go kc_22 1 (i' := 54) (L' := [none, some (.ref o1), some (.int l2), some (.int l3)]) (st' := [.int (1 : Int32)]) (M' := M1) rfl ?_
  obtain rfl := Option.some.inj h
  rw [hk]
  exact ev_ret kc_22 rfl rfl rfl
def f_X1_readLine_19 (o1 : Nat) (s0 : Int32) (M0 : mM) : Option (Bool × mM) :=
  bif decide (¬ s0 = (-1 : Int32)) then (b2 (f_X7_number (0 : Int32) (100 : Int32) M0) (fun v3 M3 => bif decide (¬ v3 = (-1 : Int32)) then (b2 (f_X7_takes 415 M3) (fun v5 M5 => bif v5 then (b2 (fp_C 40 0 o1 (0 : Int32) M5) (fun v7 M7 => bif v7 then (f_X1_readLine_49 o1 s0 v3 M7) else (some (false, M7)))) else (f_X1_readLine_49 o1 s0 v3 M5))) else (some (false, M3)))) else (b2 (f_X7_wrong (M0 1 2) M0) (fun v9 M9 => some (v9, M9)))
set_option maxRecDepth 8000 in
theorem e_X1_readLine_19 {o1 : Nat} {s0 : Int32} {M0 : mM} {R : mZ} {out : (Bool × mM)} (go1 : mLwB o1 = true) (h : f_X1_readLine_19 o1 s0 M0 = some out) (hk : R = emW eB out) : Ev (61) 22 19 [some (.ref 1), some (.ref o1), none, none] [.int s0] M0 R := by
  unfold f_X1_readLine_19 at h
  rcases o_bif h with ⟨hb2, h⟩ | ⟨hb2, h⟩
  · refine ev_goT kc_22 4 (t := 28) (e := 23) (L' := [some (.ref 1), some (.ref o1), some (.int s0), none]) (st' := []) rfl hb2 ?_
    refine ev_go kc_22 3 (i' := 31) (L' := [some (.ref 1), some (.ref o1), some (.int s0), none]) (st' := [.int (100 : Int32), .int (0 : Int32), .ref 1]) (M' := M0) rfl ?_
    obtain ⟨v3, M3, hc3, h⟩ := o_b2 h
    refine ev_cl0 (ins := .invokevirtual 51) kc_22 rfl rfl (a := 68) (as := [.ref 1, .int (0 : Int32), .int (100 : Int32)]) (rest := []) rfl rfl (Cs.deep (c_X7_number hc3) (by decide)) ?_
    rcases o_bif h with ⟨hb4, h⟩ | ⟨hb4, h⟩
    · refine ev_goT kc_22 4 (t := 38) (e := 36) (L' := [some (.ref 1), some (.ref o1), some (.int s0), some (.int v3)]) (st' := []) rfl hb4 ?_
      refine ev_go kc_22 2 (i' := 40) (L' := [some (.ref 1), some (.ref o1), some (.int s0), some (.int v3)]) (st' := [.ref 415, .ref 1]) (M' := M3) rfl ?_
      obtain ⟨v5, M5, hc5, h⟩ := o_b2 h
      refine ev_cl0 (ins := .invokevirtual 43) kc_22 rfl rfl (a := 64) (as := [.ref 1, .ref 415]) (rest := []) rfl rfl (Cs.deep (c_X7_takes hc5) (by decide)) ?_
      rcases o_bif h with ⟨hb6, h⟩ | ⟨hb6, h⟩
      · refine ev_goF kc_22 1 (t := 49) (e := 42) (L' := [some (.ref 1), some (.ref o1), some (.int s0), some (.int v3)]) (st' := []) rfl (mB_e0f hb6) ?_
        refine ev_go kc_22 3 (i' := 45) (L' := [some (.ref 1), some (.ref o1), some (.int s0), some (.int v3)]) (st' := [.int (0 : Int32), .ref o1, .ref 1]) (M' := M5) rfl ?_
        obtain ⟨v7, M7, hc7, h⟩ := o_b2 h
        refine ev_cl0 (ins := .invokestatic 57) kc_22 rfl rfl (a := 23) (as := [.ref 1, .ref o1, .int (0 : Int32)]) (rest := []) rfl rfl (Cs.deep (cp_X1_readAny hc7) (by decide)) ?_
        rcases o_bif h with ⟨hb8, h⟩ | ⟨hb8, h⟩
        · refine ev_goT kc_22 1 (t := 49) (e := 47) (L' := [some (.ref 1), some (.ref o1), some (.int s0), some (.int v3)]) (st' := []) rfl (mB_n0t hb8) ?_
          exact Ev.forget (mLe.sk (mLe.kp (mLe.kp (mLe.kp mLe.nl)))) (e_X1_readLine_49 go1 h hk)
        · refine ev_goF kc_22 1 (t := 49) (e := 47) (L' := [some (.ref 1), some (.ref o1), some (.int s0), some (.int v3)]) (st' := []) rfl (mB_n0f hb8) ?_
          refine ev_go kc_22 1 (i' := 48) (L' := [some (.ref 1), some (.ref o1), some (.int s0), some (.int v3)]) (st' := [.int (0 : Int32)]) (M' := M7) rfl ?_
          obtain rfl := Option.some.inj h
          rw [hk]
          exact ev_ret kc_22 rfl rfl rfl
      · refine ev_goT kc_22 1 (t := 49) (e := 42) (L' := [some (.ref 1), some (.ref o1), some (.int s0), some (.int v3)]) (st' := []) rfl (mB_e0t hb6) ?_
        exact Ev.forget (mLe.sk (mLe.kp (mLe.kp (mLe.kp mLe.nl)))) (e_X1_readLine_49 go1 h hk)
    · refine ev_goF kc_22 4 (t := 38) (e := 36) (L' := [some (.ref 1), some (.ref o1), some (.int s0), some (.int v3)]) (st' := []) rfl hb4 ?_
      refine ev_go kc_22 1 (i' := 37) (L' := [some (.ref 1), some (.ref o1), some (.int s0), some (.int v3)]) (st' := [.int (0 : Int32)]) (M' := M3) rfl ?_
      obtain rfl := Option.some.inj h
      rw [hk]
      exact ev_ret kc_22 rfl rfl rfl
  · refine ev_goF kc_22 4 (t := 28) (e := 23) (L' := [some (.ref 1), some (.ref o1), some (.int s0), none]) (st' := []) rfl hb2 ?_
    refine ev_go kc_22 3 (i' := 26) (L' := [some (.ref 1), some (.ref o1), some (.int s0), none]) (st' := [.int (M0 1 2), .ref 1]) (M' := M0) rfl ?_
    obtain ⟨v9, M9, hc9, h⟩ := o_b2 h
    refine ev_cl0 (ins := .invokevirtual 37) kc_22 rfl rfl (a := 62) (as := [.ref 1, .int (M0 1 2)]) (rest := []) rfl rfl (Cs.deep (c_X7_wrong hc9) (by decide)) ?_
    obtain rfl := Option.some.inj h
    rw [hk]
    exact ev_ret kc_22 rfl rfl mB_rok
def f_X1_readLine (o1 : Nat) (M0 : mM) : Option (Bool × mM) :=
  gd (mLwB o1) (b2 (f_X7_takes 412 M0) (fun v10 M10 => bif v10 then (f_X1_readLine_19 o1 (0 : Int32) M10) else (b2 (f_X7_takes 413 M10) (fun v12 M12 => bif v12 then (f_X1_readLine_19 o1 (1 : Int32) M12) else (b2 (f_X7_takes 414 M12) (fun v14 M14 => bif v14 then (f_X1_readLine_19 o1 (2 : Int32) M14) else (f_X1_readLine_19 o1 (-1 : Int32) M14)))))))
set_option maxRecDepth 8000 in
theorem c_X1_readLine {o1 : Nat} {M0 : mM} {out : (Bool × mM)} (h : f_X1_readLine o1 M0 = some out) : Cs (61) 22 [.ref 1, .ref o1] M0 (emW eB out) := by
  generalize hk : emW eB out = R
  replace hk := hk.symm
  unfold f_X1_readLine at h
  obtain ⟨go1, h⟩ := o_gd h
  show Ev (61) 22 0 [some (.ref 1), some (.ref o1), none, none] [] M0 R
  refine ev_go kc_22 2 (i' := 2) (L' := [some (.ref 1), some (.ref o1), none, none]) (st' := [.ref 412, .ref 1]) (M' := M0) rfl ?_
  obtain ⟨v10, M10, hc10, h⟩ := o_b2 h
  refine ev_cl0 (ins := .invokevirtual 43) kc_22 rfl rfl (a := 64) (as := [.ref 1, .ref 412]) (rest := []) rfl rfl (Cs.deep (c_X7_takes hc10) (by decide)) ?_
  rcases o_bif h with ⟨hb11, h⟩ | ⟨hb11, h⟩
  · refine ev_goF kc_22 1 (t := 6) (e := 4) (L' := [some (.ref 1), some (.ref o1), none, none]) (st' := []) rfl (mB_e0f hb11) ?_
    refine ev_go kc_22 2 (i' := 19) (L' := [some (.ref 1), some (.ref o1), none, none]) (st' := [.int (0 : Int32)]) (M' := M10) rfl ?_
    exact Ev.forget (mLe.kp (mLe.kp (mLe.sk (mLe.sk mLe.nl)))) (e_X1_readLine_19 go1 h hk)
  · refine ev_goT kc_22 1 (t := 6) (e := 4) (L' := [some (.ref 1), some (.ref o1), none, none]) (st' := []) rfl (mB_e0t hb11) ?_
    refine ev_go kc_22 2 (i' := 8) (L' := [some (.ref 1), some (.ref o1), none, none]) (st' := [.ref 413, .ref 1]) (M' := M10) rfl ?_
    obtain ⟨v12, M12, hc12, h⟩ := o_b2 h
    refine ev_cl0 (ins := .invokevirtual 43) kc_22 rfl rfl (a := 64) (as := [.ref 1, .ref 413]) (rest := []) rfl rfl (Cs.deep (c_X7_takes hc12) (by decide)) ?_
    rcases o_bif h with ⟨hb13, h⟩ | ⟨hb13, h⟩
    · refine ev_goF kc_22 1 (t := 12) (e := 10) (L' := [some (.ref 1), some (.ref o1), none, none]) (st' := []) rfl (mB_e0f hb13) ?_
      refine ev_go kc_22 2 (i' := 19) (L' := [some (.ref 1), some (.ref o1), none, none]) (st' := [.int (1 : Int32)]) (M' := M12) rfl ?_
      exact Ev.forget (mLe.kp (mLe.kp (mLe.sk (mLe.sk mLe.nl)))) (e_X1_readLine_19 go1 h hk)
    · refine ev_goT kc_22 1 (t := 12) (e := 10) (L' := [some (.ref 1), some (.ref o1), none, none]) (st' := []) rfl (mB_e0t hb13) ?_
      refine ev_go kc_22 2 (i' := 14) (L' := [some (.ref 1), some (.ref o1), none, none]) (st' := [.ref 414, .ref 1]) (M' := M12) rfl ?_
      obtain ⟨v14, M14, hc14, h⟩ := o_b2 h
      refine ev_cl0 (ins := .invokevirtual 43) kc_22 rfl rfl (a := 64) (as := [.ref 1, .ref 414]) (rest := []) rfl rfl (Cs.deep (c_X7_takes hc14) (by decide)) ?_
      rcases o_bif h with ⟨hb15, h⟩ | ⟨hb15, h⟩
      · refine ev_goF kc_22 1 (t := 18) (e := 16) (L' := [some (.ref 1), some (.ref o1), none, none]) (st' := []) rfl (mB_e0f hb15) ?_
        refine ev_go kc_22 2 (i' := 19) (L' := [some (.ref 1), some (.ref o1), none, none]) (st' := [.int (2 : Int32)]) (M' := M14) rfl ?_
        exact Ev.forget (mLe.kp (mLe.kp (mLe.sk (mLe.sk mLe.nl)))) (e_X1_readLine_19 go1 h hk)
      · refine ev_goT kc_22 1 (t := 18) (e := 16) (L' := [some (.ref 1), some (.ref o1), none, none]) (st' := []) rfl (mB_e0t hb15) ?_
        refine ev_go kc_22 1 (i' := 19) (L' := [some (.ref 1), some (.ref o1), none, none]) (st' := [.int (-1 : Int32)]) (M' := M14) rfl ?_
        exact Ev.forget (mLe.kp (mLe.kp (mLe.sk (mLe.sk mLe.nl)))) (e_X1_readLine_19 go1 h hk)
/-- WakeTower$LawText.read(LWakeTower$Tape;LWakeTower$Law;)Z: 21, W -/
theorem kc_21 : mKc 21 = k_X1_read := rfl
def f_X1_read_30 (o1 : Nat) (l3 : Int32) (s0 : Bool) (M0 : mM) : Option ((Bool × mM) ⊕ (Int32 × Int32 × mM)) :=
  bif s0 then (b2 (f_X7_mustSign (59 : Int32) M0) (fun v2 M2 => bif v2 then (some (.inr ((mB s0), (l3 + (1 : Int32)), M2))) else (some (.inl (false, M2))))) else (some (.inr ((mB s0), (l3 + (1 : Int32)), M0)))
set_option maxRecDepth 8000 in
theorem e_X1_read_30 {o1 : Nat} {l3 : Int32} {s0 : Bool} {M0 : mM} {R : mZ} {out : ((Bool × mM) ⊕ (Int32 × Int32 × mM))} (go1 : mLwB o1 = true) (h : f_X1_read_30 o1 l3 s0 M0 = some out) (hk : (∀ s' : Int32 × Int32 × mM, out = .inr s' → Ev (62) 21 13 [some (.ref 1), some (.ref o1), some (.int s'.1), some (.int s'.2.1)] [] (s'.2.2) R) ∧ (∀ e1 : (Bool × mM), out = .inl e1 → R = emW eB e1)) : Ev (62) 21 30 [some (.ref 1), some (.ref o1), none, some (.int l3)] [.int (mB s0)] M0 R := by
  unfold f_X1_read_30 at h
  rcases o_bif h with ⟨hb1, h⟩ | ⟨hb1, h⟩
  · refine ev_goF kc_21 3 (t := 39) (e := 33) (L' := [some (.ref 1), some (.ref o1), some (.int (mB s0)), some (.int l3)]) (st' := []) rfl (mB_e0f hb1) ?_
    refine ev_go kc_21 2 (i' := 35) (L' := [some (.ref 1), some (.ref o1), some (.int (mB s0)), some (.int l3)]) (st' := [.int (59 : Int32), .ref 1]) (M' := M0) rfl ?_
    obtain ⟨v2, M2, hc2, h⟩ := o_b2 h
    refine ev_cl0 (ins := .invokevirtual 29) kc_21 rfl rfl (a := 67) (as := [.ref 1, .int (59 : Int32)]) (rest := []) rfl rfl (Cs.deep (c_X7_mustSign hc2) (by decide)) ?_
    rcases o_bif h with ⟨hb3, h⟩ | ⟨hb3, h⟩
    · refine ev_goT kc_21 1 (t := 39) (e := 37) (L' := [some (.ref 1), some (.ref o1), some (.int (mB s0)), some (.int l3)]) (st' := []) rfl (mB_n0t hb3) ?_
      refine ev_go kc_21 2 (i' := 13) (L' := [some (.ref 1), some (.ref o1), some (.int (mB s0)), some (.int (l3 + (1 : Int32)))]) (st' := []) (M' := M2) rfl ?_
      obtain rfl := Option.some.inj h
      exact Ev.forget (mLe.kp (mLe.kp (mLe.kp (mLe.kp mLe.nl)))) (hk.1 ((mB s0), (l3 + (1 : Int32)), M2) rfl)
    · refine ev_goF kc_21 1 (t := 39) (e := 37) (L' := [some (.ref 1), some (.ref o1), some (.int (mB s0)), some (.int l3)]) (st' := []) rfl (mB_n0f hb3) ?_
      refine ev_go kc_21 1 (i' := 38) (L' := [some (.ref 1), some (.ref o1), some (.int (mB s0)), some (.int l3)]) (st' := [.int (0 : Int32)]) (M' := M2) rfl ?_
      obtain rfl := Option.some.inj h
      rw [show _ from (hk.2 _ rfl)]
      exact ev_ret kc_21 rfl rfl rfl
  · refine ev_goT kc_21 3 (t := 39) (e := 33) (L' := [some (.ref 1), some (.ref o1), some (.int (mB s0)), some (.int l3)]) (st' := []) rfl (mB_e0t hb1) ?_
    refine ev_go kc_21 2 (i' := 13) (L' := [some (.ref 1), some (.ref o1), some (.int (mB s0)), some (.int (l3 + (1 : Int32)))]) (st' := []) (M' := M0) rfl ?_
    obtain rfl := Option.some.inj h
    exact Ev.forget (mLe.kp (mLe.kp (mLe.kp (mLe.kp mLe.nl)))) (hk.1 ((mB s0), (l3 + (1 : Int32)), M0) rfl)
def f_X1_read_41 (o1 : Nat) (l2 : Int32) (M0 : mM) : Option (Bool × mM) :=
  bif decide (l2 = 0) then (some (true, M0)) else (b2 (f_X7_wrong (M0 1 2) M0) (fun v5 M5 => bif v5 then (some (true, M5)) else (some (false, M5))))
set_option maxRecDepth 8000 in
theorem e_X1_read_41 {o1 : Nat} {l2 : Int32} {M0 : mM} {R : mZ} {out : (Bool × mM)} (go1 : mLwB o1 = true) (h : f_X1_read_41 o1 l2 M0 = some out) (hk : R = emW eB out) : Ev (62) 21 41 [some (.ref 1), none, some (.int l2), none] [] M0 R := by
  unfold f_X1_read_41 at h
  rcases o_bif h with ⟨hb4, h⟩ | ⟨hb4, h⟩
  · refine ev_goT kc_21 2 (t := 48) (e := 43) (L' := [some (.ref 1), none, some (.int l2), none]) (st' := []) rfl hb4 ?_
    refine ev_go kc_21 2 (i' := 51) (L' := [some (.ref 1), none, some (.int l2), none]) (st' := [.int (1 : Int32)]) (M' := M0) rfl ?_
    obtain rfl := Option.some.inj h
    rw [hk]
    exact ev_ret kc_21 rfl rfl rfl
  · refine ev_goF kc_21 2 (t := 48) (e := 43) (L' := [some (.ref 1), none, some (.int l2), none]) (st' := []) rfl hb4 ?_
    refine ev_go kc_21 3 (i' := 46) (L' := [some (.ref 1), none, some (.int l2), none]) (st' := [.int (M0 1 2), .ref 1]) (M' := M0) rfl ?_
    obtain ⟨v5, M5, hc5, h⟩ := o_b2 h
    refine ev_cl0 (ins := .invokevirtual 37) kc_21 rfl rfl (a := 62) (as := [.ref 1, .int (M0 1 2)]) (rest := []) rfl rfl (Cs.deep (c_X7_wrong hc5) (by decide)) ?_
    rcases o_bif h with ⟨hb6, h⟩ | ⟨hb6, h⟩
    · refine ev_goF kc_21 1 (t := 50) (e := 48) (L' := [some (.ref 1), none, some (.int l2), none]) (st' := []) rfl (mB_e0f hb6) ?_
      refine ev_go kc_21 2 (i' := 51) (L' := [some (.ref 1), none, some (.int l2), none]) (st' := [.int (1 : Int32)]) (M' := M5) rfl ?_
      obtain rfl := Option.some.inj h
      rw [hk]
      exact ev_ret kc_21 rfl rfl rfl
    · refine ev_goT kc_21 1 (t := 50) (e := 48) (L' := [some (.ref 1), none, some (.int l2), none]) (st' := []) rfl (mB_e0t hb6) ?_
      refine ev_go kc_21 1 (i' := 51) (L' := [some (.ref 1), none, some (.int l2), none]) (st' := [.int (0 : Int32)]) (M' := M5) rfl ?_
      obtain rfl := Option.some.inj h
      rw [hk]
      exact ev_ret kc_21 rfl rfl rfl
def f_X1_read_13 (o1 : Nat) (l2 : Int32) (l3 : Int32) (M0 : mM) : Option ((Bool × mM) ⊕ (Int32 × Int32 × mM)) :=
  bif decide ((12 : Int32) ≤ l3) then (b1 (f_X1_read_41 o1 l2 M0) (fun r8 => some (.inl r8))) else (bif decide (l2 = 0) then (b1 (f_X1_read_41 o1 l2 M0) (fun r10 => some (.inl r10))) else (b2 (f_X1_readLine o1 M0) (fun v11 M11 => bif v11 then (b1 (f_X7_ended M11) (fun v13 => bif v13 then (f_X1_read_30 o1 l3 false M11) else (f_X1_read_30 o1 l3 true M11))) else (some (.inl (false, M11))))))
set_option maxRecDepth 8000 in
theorem e_X1_read_13 {o1 : Nat} {l2 : Int32} {l3 : Int32} {M0 : mM} {R : mZ} {out : ((Bool × mM) ⊕ (Int32 × Int32 × mM))} (go1 : mLwB o1 = true) (h : f_X1_read_13 o1 l2 l3 M0 = some out) (hk : (∀ s' : Int32 × Int32 × mM, out = .inr s' → Ev (62) 21 13 [some (.ref 1), some (.ref o1), some (.int s'.1), some (.int s'.2.1)] [] (s'.2.2) R) ∧ (∀ e1 : (Bool × mM), out = .inl e1 → R = emW eB e1)) : Ev (62) 21 13 [some (.ref 1), some (.ref o1), some (.int l2), some (.int l3)] [] M0 R := by
  unfold f_X1_read_13 at h
  rcases o_bif h with ⟨hb7, h⟩ | ⟨hb7, h⟩
  · refine ev_goT kc_21 3 (t := 41) (e := 16) (L' := [some (.ref 1), some (.ref o1), some (.int l2), some (.int l3)]) (st' := []) rfl hb7 ?_
    obtain ⟨r8, hr8, h⟩ := o_b1 h
    obtain rfl := Option.some.inj h
    exact Ev.forget (mLe.kp (mLe.sk (mLe.kp (mLe.sk mLe.nl)))) (e_X1_read_41 go1 hr8 (hk.2 _ rfl))
  · refine ev_goF kc_21 3 (t := 41) (e := 16) (L' := [some (.ref 1), some (.ref o1), some (.int l2), some (.int l3)]) (st' := []) rfl hb7 ?_
    rcases o_bif h with ⟨hb9, h⟩ | ⟨hb9, h⟩
    · refine ev_goT kc_21 2 (t := 41) (e := 18) (L' := [some (.ref 1), some (.ref o1), some (.int l2), some (.int l3)]) (st' := []) rfl hb9 ?_
      obtain ⟨r10, hr10, h⟩ := o_b1 h
      obtain rfl := Option.some.inj h
      exact Ev.forget (mLe.kp (mLe.sk (mLe.kp (mLe.sk mLe.nl)))) (e_X1_read_41 go1 hr10 (hk.2 _ rfl))
    · refine ev_goF kc_21 2 (t := 41) (e := 18) (L' := [some (.ref 1), some (.ref o1), some (.int l2), some (.int l3)]) (st' := []) rfl hb9 ?_
      refine ev_go kc_21 2 (i' := 20) (L' := [some (.ref 1), some (.ref o1), some (.int l2), some (.int l3)]) (st' := [.ref o1, .ref 1]) (M' := M0) rfl ?_
      obtain ⟨v11, M11, hc11, h⟩ := o_b2 h
      refine ev_cl0 (ins := .invokestatic 23) kc_21 rfl rfl (a := 22) (as := [.ref 1, .ref o1]) (rest := []) rfl rfl (Cs.deep (c_X1_readLine hc11) (by decide)) ?_
      rcases o_bif h with ⟨hb12, h⟩ | ⟨hb12, h⟩
      · refine ev_goT kc_21 1 (t := 24) (e := 22) (L' := [some (.ref 1), some (.ref o1), some (.int l2), some (.int l3)]) (st' := []) rfl (mB_n0t hb12) ?_
        refine ev_go kc_21 1 (i' := 25) (L' := [some (.ref 1), some (.ref o1), some (.int l2), some (.int l3)]) (st' := [.ref 1]) (M' := M11) rfl ?_
        obtain ⟨v13, hc13, h⟩ := o_b1 h
        refine ev_cl0 (ins := .invokevirtual 19) kc_21 rfl rfl (a := 61) (as := [.ref 1]) (rest := []) rfl rfl (Cs.deep (c_X7_ended (M0 := M11) hc13) (by decide)) ?_
        rcases o_bif h with ⟨hb14, h⟩ | ⟨hb14, h⟩
        · refine ev_goT kc_21 1 (t := 29) (e := 27) (L' := [some (.ref 1), some (.ref o1), some (.int l2), some (.int l3)]) (st' := []) rfl (mB_n0t hb14) ?_
          refine ev_go kc_21 1 (i' := 30) (L' := [some (.ref 1), some (.ref o1), some (.int l2), some (.int l3)]) (st' := [.int (0 : Int32)]) (M' := M11) rfl ?_
          exact Ev.forget (mLe.kp (mLe.kp (mLe.sk (mLe.kp mLe.nl)))) (e_X1_read_30 go1 h hk)
        · refine ev_goF kc_21 1 (t := 29) (e := 27) (L' := [some (.ref 1), some (.ref o1), some (.int l2), some (.int l3)]) (st' := []) rfl (mB_n0f hb14) ?_
          refine ev_go kc_21 2 (i' := 30) (L' := [some (.ref 1), some (.ref o1), some (.int l2), some (.int l3)]) (st' := [.int (1 : Int32)]) (M' := M11) rfl ?_
          exact Ev.forget (mLe.kp (mLe.kp (mLe.sk (mLe.kp mLe.nl)))) (e_X1_read_30 go1 h hk)
      · refine ev_goF kc_21 1 (t := 24) (e := 22) (L' := [some (.ref 1), some (.ref o1), some (.int l2), some (.int l3)]) (st' := []) rfl (mB_n0f hb12) ?_
        refine ev_go kc_21 1 (i' := 23) (L' := [some (.ref 1), some (.ref o1), some (.int l2), some (.int l3)]) (st' := [.int (0 : Int32)]) (M' := M11) rfl ?_
        obtain rfl := Option.some.inj h
        rw [show _ from (hk.2 _ rfl)]
        exact ev_ret kc_21 rfl rfl rfl
def f_X1_read_l13 (o1 : Nat) (l2 : Int32) (l3 : Int32) (M0 : mM) : Option (Bool × mM) :=
  wh 100000 (fun s : Int32 × Int32 × mM => f_X1_read_13 o1 s.1 s.2.1 s.2.2) (l2, l3, M0)
theorem e_X1_read_l13 {o1 : Nat} {l2 : Int32} {l3 : Int32} {M0 : mM} {R : mZ} {out : (Bool × mM)} (go1 : mLwB o1 = true) (h : f_X1_read_l13 o1 l2 l3 M0 = some out) (hk : R = emW eB out) : Ev (62) 21 13 [some (.ref 1), some (.ref o1), some (.int l2), some (.int l3)] [] M0 R := by
  unfold f_X1_read_l13 at h
  exact wh_ev (P := fun s : Int32 × Int32 × mM => Ev (62) 21 13 [some (.ref 1), some (.ref o1), some (.int s.1), some (.int s.2.1)] [] s.2.2 R) (Q := fun e : (Bool × mM) => R = emW eB e) (fun s o hb h1 h2 => e_X1_read_13 go1 hb ⟨h1, h2⟩) 100000 _ _ h hk
def f_X1_read (o1 : Nat) (M0 : mM) : Option (Bool × mM) :=
  gd (mLwB o1) (b2 (f_X7_rewind M0) (fun v15 M15 => b2 (f_X0_clear o1 M15) (fun v16 M16 => b1 (f_X7_ended M16) (fun v17 => bif v17 then (f_X1_read_l13 o1 (0 : Int32) (0 : Int32) M16) else (f_X1_read_l13 o1 (1 : Int32) (0 : Int32) M16)))))
set_option maxRecDepth 8000 in
theorem c_X1_read {o1 : Nat} {M0 : mM} {out : (Bool × mM)} (h : f_X1_read o1 M0 = some out) : Cs (62) 21 [.ref 1, .ref o1] M0 (emW eB out) := by
  generalize hk : emW eB out = R
  replace hk := hk.symm
  unfold f_X1_read at h
  obtain ⟨go1, h⟩ := o_gd h
  show Ev (62) 21 0 [some (.ref 1), some (.ref o1), none, none] [] M0 R
  refine ev_go kc_21 1 (i' := 1) (L' := [some (.ref 1), some (.ref o1), none, none]) (st' := [.ref 1]) (M' := M0) rfl ?_
  obtain ⟨v15, M15, hc15, h⟩ := o_b2 h
  refine ev_cl0 (ins := .invokevirtual 9) kc_21 rfl rfl (a := 59) (as := [.ref 1]) (rest := []) rfl rfl (Cs.deep (c_X7_rewind hc15) (by decide)) ?_
  refine ev_go kc_21 1 (i' := 3) (L' := [some (.ref 1), some (.ref o1), none, none]) (st' := [.ref o1]) (M' := M15) rfl ?_
  obtain ⟨v16, M16, hc16, h⟩ := o_b2 h
  refine ev_cl0 (ins := .invokevirtual 14) kc_21 rfl rfl (a := 13) (as := [.ref o1]) (rest := []) rfl (m_rec (mLw0 go1)) (Cs.deep (c_X0_clear hc16) (by decide)) ?_
  refine ev_go kc_21 1 (i' := 5) (L' := [some (.ref 1), some (.ref o1), none, none]) (st' := [.ref 1]) (M' := M16) rfl ?_
  obtain ⟨v17, hc17, h⟩ := o_b1 h
  refine ev_cl0 (ins := .invokevirtual 19) kc_21 rfl rfl (a := 61) (as := [.ref 1]) (rest := []) rfl rfl (Cs.deep (c_X7_ended (M0 := M16) hc17) (by decide)) ?_
  rcases o_bif h with ⟨hb18, h⟩ | ⟨hb18, h⟩
  · refine ev_goT kc_21 1 (t := 9) (e := 7) (L' := [some (.ref 1), some (.ref o1), none, none]) (st' := []) rfl (mB_n0t hb18) ?_
    refine ev_go kc_21 4 (i' := 13) (L' := [some (.ref 1), some (.ref o1), some (.int (0 : Int32)), some (.int (0 : Int32))]) (st' := []) (M' := M16) rfl ?_
    exact Ev.forget (mLe.kp (mLe.kp (mLe.kp (mLe.kp mLe.nl)))) (e_X1_read_l13 go1 h hk)
  · refine ev_goF kc_21 1 (t := 9) (e := 7) (L' := [some (.ref 1), some (.ref o1), none, none]) (st' := []) rfl (mB_n0f hb18) ?_
    refine ev_go kc_21 5 (i' := 13) (L' := [some (.ref 1), some (.ref o1), some (.int (1 : Int32)), some (.int (0 : Int32))]) (st' := []) (M' := M16) rfl ?_
    exact Ev.forget (mLe.kp (mLe.kp (mLe.kp (mLe.kp mLe.nl)))) (e_X1_read_l13 go1 h hk)
/-- WakeTower.law()I: 108, T -/
theorem kc_108 : mKc 108 = k_X11_law := rfl
def f_X11_law  (M0 : mM) : Option ((Int32 ⊕ Nat) × mM) :=
  b2 (f_X1_read 23 M0) (fun v1 M1 => wr (mst M1 1 1 (0 : Int32)) (fun M2 => bif v1 then (b2 (f_X0_copyFrom 17 23 M2) (fun v4 M4 => b2 (f_X3_forget M4) (fun v5 M5 => some (.inl (M5 17 1), M5)))) else (some (.inr 0, M2))))
set_option maxRecDepth 8000 in
theorem c_X11_law  {M0 : mM} {out : ((Int32 ⊕ Nat) × mM)} (h : f_X11_law M0 = some out) : Cs (63) 108 [.ref 0] M0 (emT eI out) := by
  generalize hk : emT eI out = R
  replace hk := hk.symm
  unfold f_X11_law at h
  show Ev (63) 108 0 [some (.ref 0), none] [] M0 R
  refine ev_go kc_108 4 (i' := 4) (L' := [some (.ref 0), none]) (st' := [.ref 23, .ref 1]) (M' := M0) rfl ?_
  obtain ⟨v1, M1, hc1, h⟩ := o_b2 h
  refine ev_cl0 (ins := .invokestatic 114) kc_108 rfl rfl (a := 21) (as := [.ref 1, .ref 23]) (rest := []) rfl rfl (Cs.deep (c_X1_read hc1) (by decide)) ?_
  refine ev_go kc_108 4 (i' := 9) (L' := [some (.ref 0), some (.int (mB v1))]) (st' := [.int (0 : Int32), .ref 1]) (M' := M1) rfl ?_
  obtain ⟨M2, hM2, h⟩ := o_wr h
  refine ev_pf kc_108 rfl rfl rfl rfl (fun hc => absurd hc (by decide)) hM2 ?_
  rcases o_bif h with ⟨hb3, h⟩ | ⟨hb3, h⟩
  · refine ev_goT kc_108 2 (t := 17) (e := 12) (L' := [some (.ref 0), some (.int (mB v1))]) (st' := []) rfl (mB_n0t hb3) ?_
    refine ev_go kc_108 4 (i' := 21) (L' := [some (.ref 0), some (.int (mB v1))]) (st' := [.ref 23, .ref 17]) (M' := M2) rfl ?_
    obtain ⟨v4, M4, hc4, h⟩ := o_b2 h
    refine ev_cl0 (ins := .invokevirtual 119) kc_108 rfl rfl (a := 12) (as := [.ref 17, .ref 23]) (rest := []) rfl rfl (Cs.deep (c_X0_copyFrom hc4) (by decide)) ?_
    refine ev_go kc_108 2 (i' := 24) (L' := [some (.ref 0), some (.int (mB v1))]) (st' := [.ref 3]) (M' := M4) rfl ?_
    obtain ⟨v5, M5, hc5, h⟩ := o_b2 h
    refine ev_cl0 (ins := .invokevirtual 111) kc_108 rfl rfl (a := 33) (as := [.ref 3]) (rest := []) rfl rfl (Cs.deep (c_X3_forget hc5) (by decide)) ?_
    refine ev_go kc_108 3 (i' := 28) (L' := [some (.ref 0), some (.int (mB v1))]) (st' := [.int (M5 17 1)]) (M' := M5) rfl ?_
    obtain rfl := Option.some.inj h
    rw [hk]
    exact ev_ret kc_108 rfl rfl rfl
  · refine ev_goF kc_108 2 (t := 17) (e := 12) (L' := [some (.ref 0), some (.int (mB v1))]) (st' := []) rfl (mB_n0f hb3) ?_
    obtain rfl := Option.some.inj h
    rw [hk]
    exact ev_tr kc_108 rfl rfl rfl rfl rfl
/-- WakeTowerModel.readLawLine(I)Z: 241, W -/
theorem kc_241 : mKc 241 = k_X12_readLawLine := rfl
def f_X12_readLawLine_75 (l2 : Int32) (M0 : mM) : Option (Bool × mM) :=
  gd (mIn (l2 + (3 : Int32)) 2122) (wr (mst M0 216 (ix (l2 + (3 : Int32))) (M0 215 20)) (fun M1 => some (true, M1)))
set_option maxRecDepth 8000 in
theorem e_X12_readLawLine_75 {l2 : Int32} {M0 : mM} {R : mZ} {out : (Bool × mM)}  (h : f_X12_readLawLine_75 l2 M0 = some out) (hk : R = emW eB out) : Ev (61) 241 75 [some (.ref 215), none, some (.int l2)] [] M0 R := by
  unfold f_X12_readLawLine_75 at h
  refine ev_go kc_241 7 (i' := 82) (L' := [some (.ref 215), none, some (.int l2)]) (st' := [.int (M0 215 20), .int (l2 + (3 : Int32)), .ref 216]) (M' := M0) rfl ?_
  obtain ⟨hg2, h⟩ := o_gd h
  obtain ⟨M1, hM1, h⟩ := o_wr h
  refine ev_is kc_241 rfl rfl hg2 hM1 ?_
  refine ev_go kc_241 1 (i' := 84) (L' := [some (.ref 215), none, some (.int l2)]) (st' := [.int (1 : Int32)]) (M' := M1) rfl ?_
  obtain rfl := Option.some.inj h
  rw [hk]
  exact ev_ret kc_241 rfl rfl rfl
def f_X12_readLawLine_28 (l2 : Int32) (s1 : Int32) (s2 : Int32) (M0 : mM) : Option (Bool × mM) :=
  gd (mIn s1 2122) (wr (mst M0 216 (ix s1) s2) (fun M3 => gd (mIn l2 2122) (bif decide (0 ≤ (M3 216 (ix l2))) then (b2 (f_X12_number (0 : Int32) (100 : Int32) M3) (fun v7 M7 => gd (mIn (l2 + (1 : Int32)) 2122) (wr (mst M7 216 (ix (l2 + (1 : Int32))) v7) (fun M8 => gd (mIn (l2 + (1 : Int32)) 2122) (bif decide (0 ≤ (M8 216 (ix (l2 + (1 : Int32))))) then (gd (mIn (l2 + (2 : Int32)) 2122) (wr (mst M8 216 (ix (l2 + (2 : Int32))) (M8 215 20)) (fun M12 => wr (mst M12 215 17 (0 : Int32)) (fun M14 => b2 (f_X12_passes 415 M14) (fun v15 M15 => bif v15 then (b2 (fp_M 40 0 M15) (fun v17 M17 => bif v17 then (f_X12_readLawLine_75 l2 M17) else (some (false, M17)))) else (f_X12_readLawLine_75 l2 M15)))))) else (some (false, M8))))))) else (some (false, M3)))))
set_option maxRecDepth 8000 in
theorem e_X12_readLawLine_28 {l2 : Int32} {s1 : Int32} {s2 : Int32} {M0 : mM} {R : mZ} {out : (Bool × mM)}  (h : f_X12_readLawLine_28 l2 s1 s2 M0 = some out) (hk : R = emW eB out) : Ev (61) 241 28 [some (.ref 215), none, some (.int l2)] [.int s2, .int s1, .ref 216] M0 R := by
  unfold f_X12_readLawLine_28 at h
  obtain ⟨hg4, h⟩ := o_gd h
  obtain ⟨M3, hM3, h⟩ := o_wr h
  refine ev_is kc_241 rfl rfl hg4 hM3 ?_
  refine ev_go kc_241 3 (i' := 32) (L' := [some (.ref 215), none, some (.int l2)]) (st' := [.int l2, .ref 216]) (M' := M3) rfl ?_
  obtain ⟨hg5, h⟩ := o_gd h
  refine ev_ia kc_241 rfl rfl hg5 ?_
  rcases o_bif h with ⟨hb6, h⟩ | ⟨hb6, h⟩
  · refine ev_goT kc_241 1 (t := 36) (e := 34) (L' := [some (.ref 215), none, some (.int l2)]) (st' := []) rfl hb6 ?_
    refine ev_go kc_241 8 (i' := 44) (L' := [some (.ref 215), none, some (.int l2)]) (st' := [.int (100 : Int32), .int (0 : Int32), .ref 215, .int (l2 + (1 : Int32)), .ref 216]) (M' := M3) rfl ?_
    obtain ⟨v7, M7, hc7, h⟩ := o_b2 h
    refine ev_cl0 (ins := .invokevirtual 185) kc_241 rfl rfl (a := 223) (as := [.ref 215, .int (0 : Int32), .int (100 : Int32)]) (rest := [.int (l2 + (1 : Int32)), .ref 216]) rfl rfl (Cs.deep (c_X12_number hc7) (by decide)) ?_
    obtain ⟨hg9, h⟩ := o_gd h
    obtain ⟨M8, hM8, h⟩ := o_wr h
    refine ev_is kc_241 rfl rfl hg9 hM8 ?_
    refine ev_go kc_241 5 (i' := 51) (L' := [some (.ref 215), none, some (.int l2)]) (st' := [.int (l2 + (1 : Int32)), .ref 216]) (M' := M8) rfl ?_
    obtain ⟨hg10, h⟩ := o_gd h
    refine ev_ia kc_241 rfl rfl hg10 ?_
    rcases o_bif h with ⟨hb11, h⟩ | ⟨hb11, h⟩
    · refine ev_goT kc_241 1 (t := 55) (e := 53) (L' := [some (.ref 215), none, some (.int l2)]) (st' := []) rfl hb11 ?_
      refine ev_go kc_241 7 (i' := 62) (L' := [some (.ref 215), none, some (.int l2)]) (st' := [.int (M8 215 20), .int (l2 + (2 : Int32)), .ref 216]) (M' := M8) rfl ?_
      obtain ⟨hg13, h⟩ := o_gd h
      obtain ⟨M12, hM12, h⟩ := o_wr h
      refine ev_is kc_241 rfl rfl hg13 hM12 ?_
      refine ev_go kc_241 2 (i' := 65) (L' := [some (.ref 215), none, some (.int l2)]) (st' := [.int (0 : Int32), .ref 215]) (M' := M12) rfl ?_
      obtain ⟨M14, hM14, h⟩ := o_wr h
      refine ev_pf kc_241 rfl rfl rfl rfl (fun hc => absurd hc (by decide)) hM14 ?_
      refine ev_go kc_241 2 (i' := 68) (L' := [some (.ref 215), none, some (.int l2)]) (st' := [.ref 415, .ref 215]) (M' := M14) rfl ?_
      obtain ⟨v15, M15, hc15, h⟩ := o_b2 h
      refine ev_cl0 (ins := .invokevirtual 260) kc_241 rfl rfl (a := 221) (as := [.ref 215, .ref 415]) (rest := []) rfl rfl (Cs.deep (c_X12_passes hc15) (by decide)) ?_
      rcases o_bif h with ⟨hb16, h⟩ | ⟨hb16, h⟩
      · refine ev_goF kc_241 1 (t := 75) (e := 70) (L' := [some (.ref 215), none, some (.int l2)]) (st' := []) rfl (mB_e0f hb16) ?_
        refine ev_go kc_241 1 (i' := 71) (L' := [some (.ref 215), none, some (.int l2)]) (st' := [.ref 215]) (M' := M15) rfl ?_
        obtain ⟨v17, M17, hc17, h⟩ := o_b2 h
        refine ev_cl0 (ins := .invokevirtual 255) kc_241 rfl rfl (a := 240) (as := [.ref 215]) (rest := []) rfl rfl (Cs.deep (cp_X12_readCond hc17) (by decide)) ?_
        rcases o_bif h with ⟨hb18, h⟩ | ⟨hb18, h⟩
        · refine ev_goT kc_241 1 (t := 75) (e := 73) (L' := [some (.ref 215), none, some (.int l2)]) (st' := []) rfl (mB_n0t hb18) ?_
          exact Ev.forget (mLe.kp (mLe.sk (mLe.kp mLe.nl))) (e_X12_readLawLine_75  h hk)
        · refine ev_goF kc_241 1 (t := 75) (e := 73) (L' := [some (.ref 215), none, some (.int l2)]) (st' := []) rfl (mB_n0f hb18) ?_
          refine ev_go kc_241 1 (i' := 74) (L' := [some (.ref 215), none, some (.int l2)]) (st' := [.int (0 : Int32)]) (M' := M17) rfl ?_
          obtain rfl := Option.some.inj h
          rw [hk]
          exact ev_ret kc_241 rfl rfl rfl
      · refine ev_goT kc_241 1 (t := 75) (e := 70) (L' := [some (.ref 215), none, some (.int l2)]) (st' := []) rfl (mB_e0t hb16) ?_
        exact Ev.forget (mLe.kp (mLe.sk (mLe.kp mLe.nl))) (e_X12_readLawLine_75  h hk)
    · refine ev_goF kc_241 1 (t := 55) (e := 53) (L' := [some (.ref 215), none, some (.int l2)]) (st' := []) rfl hb11 ?_
      refine ev_go kc_241 1 (i' := 54) (L' := [some (.ref 215), none, some (.int l2)]) (st' := [.int (0 : Int32)]) (M' := M8) rfl ?_
      obtain rfl := Option.some.inj h
      rw [hk]
      exact ev_ret kc_241 rfl rfl rfl
  · refine ev_goF kc_241 1 (t := 36) (e := 34) (L' := [some (.ref 215), none, some (.int l2)]) (st' := []) rfl hb6 ?_
    refine ev_go kc_241 1 (i' := 35) (L' := [some (.ref 215), none, some (.int l2)]) (st' := [.int (0 : Int32)]) (M' := M3) rfl ?_
    obtain rfl := Option.some.inj h
    rw [hk]
    exact ev_ret kc_241 rfl rfl rfl
def f_X12_readLawLine (p1 : Int32) (M0 : mM) : Option (Bool × mM) :=
  b1 (f_X12_isWord 412 M0) (fun v19 => bif v19 then (f_X12_readLawLine_28 ((1274 : Int32) + ((4 : Int32) * p1)) ((1274 : Int32) + ((4 : Int32) * p1)) (0 : Int32) M0) else (b1 (f_X12_isWord 413 M0) (fun v21 => bif v21 then (f_X12_readLawLine_28 ((1274 : Int32) + ((4 : Int32) * p1)) ((1274 : Int32) + ((4 : Int32) * p1)) (1 : Int32) M0) else (b1 (f_X12_isWord 414 M0) (fun v23 => bif v23 then (f_X12_readLawLine_28 ((1274 : Int32) + ((4 : Int32) * p1)) ((1274 : Int32) + ((4 : Int32) * p1)) (2 : Int32) M0) else (f_X12_readLawLine_28 ((1274 : Int32) + ((4 : Int32) * p1)) ((1274 : Int32) + ((4 : Int32) * p1)) (-1 : Int32) M0))))))
set_option maxRecDepth 8000 in
theorem c_X12_readLawLine {p1 : Int32} {M0 : mM} {out : (Bool × mM)} (h : f_X12_readLawLine p1 M0 = some out) : Cs (61) 241 [.ref 215, .int p1] M0 (emW eB out) := by
  generalize hk : emW eB out = R
  replace hk := hk.symm
  unfold f_X12_readLawLine at h
  show Ev (61) 241 0 [some (.ref 215), some (.int p1), none] [] M0 R
  refine ev_go kc_241 11 (i' := 11) (L' := [some (.ref 215), some (.int p1), some (.int ((1274 : Int32) + ((4 : Int32) * p1)))]) (st' := [.ref 412, .ref 215, .int ((1274 : Int32) + ((4 : Int32) * p1)), .ref 216]) (M' := M0) rfl ?_
  obtain ⟨v19, hc19, h⟩ := o_b1 h
  refine ev_cl0 (ins := .invokevirtual 181) kc_241 rfl rfl (a := 220) (as := [.ref 215, .ref 412]) (rest := [.int ((1274 : Int32) + ((4 : Int32) * p1)), .ref 216]) rfl rfl (Cs.deep (c_X12_isWord (M0 := M0) hc19) (by decide)) ?_
  rcases o_bif h with ⟨hb20, h⟩ | ⟨hb20, h⟩
  · refine ev_goF kc_241 1 (t := 15) (e := 13) (L' := [some (.ref 215), some (.int p1), some (.int ((1274 : Int32) + ((4 : Int32) * p1)))]) (st' := [.int ((1274 : Int32) + ((4 : Int32) * p1)), .ref 216]) rfl (mB_e0f hb20) ?_
    refine ev_go kc_241 2 (i' := 28) (L' := [some (.ref 215), some (.int p1), some (.int ((1274 : Int32) + ((4 : Int32) * p1)))]) (st' := [.int (0 : Int32), .int ((1274 : Int32) + ((4 : Int32) * p1)), .ref 216]) (M' := M0) rfl ?_
    exact Ev.forget (mLe.kp (mLe.sk (mLe.kp mLe.nl))) (e_X12_readLawLine_28  h hk)
  · refine ev_goT kc_241 1 (t := 15) (e := 13) (L' := [some (.ref 215), some (.int p1), some (.int ((1274 : Int32) + ((4 : Int32) * p1)))]) (st' := [.int ((1274 : Int32) + ((4 : Int32) * p1)), .ref 216]) rfl (mB_e0t hb20) ?_
    refine ev_go kc_241 2 (i' := 17) (L' := [some (.ref 215), some (.int p1), some (.int ((1274 : Int32) + ((4 : Int32) * p1)))]) (st' := [.ref 413, .ref 215, .int ((1274 : Int32) + ((4 : Int32) * p1)), .ref 216]) (M' := M0) rfl ?_
    obtain ⟨v21, hc21, h⟩ := o_b1 h
    refine ev_cl0 (ins := .invokevirtual 181) kc_241 rfl rfl (a := 220) (as := [.ref 215, .ref 413]) (rest := [.int ((1274 : Int32) + ((4 : Int32) * p1)), .ref 216]) rfl rfl (Cs.deep (c_X12_isWord (M0 := M0) hc21) (by decide)) ?_
    rcases o_bif h with ⟨hb22, h⟩ | ⟨hb22, h⟩
    · refine ev_goF kc_241 1 (t := 21) (e := 19) (L' := [some (.ref 215), some (.int p1), some (.int ((1274 : Int32) + ((4 : Int32) * p1)))]) (st' := [.int ((1274 : Int32) + ((4 : Int32) * p1)), .ref 216]) rfl (mB_e0f hb22) ?_
      refine ev_go kc_241 2 (i' := 28) (L' := [some (.ref 215), some (.int p1), some (.int ((1274 : Int32) + ((4 : Int32) * p1)))]) (st' := [.int (1 : Int32), .int ((1274 : Int32) + ((4 : Int32) * p1)), .ref 216]) (M' := M0) rfl ?_
      exact Ev.forget (mLe.kp (mLe.sk (mLe.kp mLe.nl))) (e_X12_readLawLine_28  h hk)
    · refine ev_goT kc_241 1 (t := 21) (e := 19) (L' := [some (.ref 215), some (.int p1), some (.int ((1274 : Int32) + ((4 : Int32) * p1)))]) (st' := [.int ((1274 : Int32) + ((4 : Int32) * p1)), .ref 216]) rfl (mB_e0t hb22) ?_
      refine ev_go kc_241 2 (i' := 23) (L' := [some (.ref 215), some (.int p1), some (.int ((1274 : Int32) + ((4 : Int32) * p1)))]) (st' := [.ref 414, .ref 215, .int ((1274 : Int32) + ((4 : Int32) * p1)), .ref 216]) (M' := M0) rfl ?_
      obtain ⟨v23, hc23, h⟩ := o_b1 h
      refine ev_cl0 (ins := .invokevirtual 181) kc_241 rfl rfl (a := 220) (as := [.ref 215, .ref 414]) (rest := [.int ((1274 : Int32) + ((4 : Int32) * p1)), .ref 216]) rfl rfl (Cs.deep (c_X12_isWord (M0 := M0) hc23) (by decide)) ?_
      rcases o_bif h with ⟨hb24, h⟩ | ⟨hb24, h⟩
      · refine ev_goF kc_241 1 (t := 27) (e := 25) (L' := [some (.ref 215), some (.int p1), some (.int ((1274 : Int32) + ((4 : Int32) * p1)))]) (st' := [.int ((1274 : Int32) + ((4 : Int32) * p1)), .ref 216]) rfl (mB_e0f hb24) ?_
        refine ev_go kc_241 2 (i' := 28) (L' := [some (.ref 215), some (.int p1), some (.int ((1274 : Int32) + ((4 : Int32) * p1)))]) (st' := [.int (2 : Int32), .int ((1274 : Int32) + ((4 : Int32) * p1)), .ref 216]) (M' := M0) rfl ?_
        exact Ev.forget (mLe.kp (mLe.sk (mLe.kp mLe.nl))) (e_X12_readLawLine_28  h hk)
      · refine ev_goT kc_241 1 (t := 27) (e := 25) (L' := [some (.ref 215), some (.int p1), some (.int ((1274 : Int32) + ((4 : Int32) * p1)))]) (st' := [.int ((1274 : Int32) + ((4 : Int32) * p1)), .ref 216]) rfl (mB_e0t hb24) ?_
        refine ev_go kc_241 1 (i' := 28) (L' := [some (.ref 215), some (.int p1), some (.int ((1274 : Int32) + ((4 : Int32) * p1)))]) (st' := [.int (-1 : Int32), .int ((1274 : Int32) + ((4 : Int32) * p1)), .ref 216]) (M' := M0) rfl ?_
        exact Ev.forget (mLe.kp (mLe.sk (mLe.kp mLe.nl))) (e_X12_readLawLine_28  h hk)
/-- WakeTowerModel.readLine(ZI)Z: 242, W -/
theorem kc_242 : mKc 242 = k_X12_readLine := rfl
def f_X12_readLine_8 (l1 : Bool) (l2 : Int32) (s0 : Int32) (s1 : Int32) (M0 : mM) : Option (Bool × mM) :=
  bif decide (s1 ≤ s0) then (some (false, M0)) else (bif l1 then (b2 (f_X12_readTowerLine M0) (fun v3 M3 => bif v3 then (some (true, M3)) else (some (false, M3)))) else (b2 (f_X12_readLawLine l2 M0) (fun v5 M5 => bif v5 then (some (true, M5)) else (some (false, M5)))))
set_option maxRecDepth 8000 in
theorem e_X12_readLine_8 {l1 : Bool} {l2 : Int32} {s0 : Int32} {s1 : Int32} {M0 : mM} {R : mZ} {out : (Bool × mM)}  (h : f_X12_readLine_8 l1 l2 s0 s1 M0 = some out) (hk : R = emW eB out) : Ev (62) 242 8 [some (.ref 215), some (.int (mB l1)), some (.int l2)] [.int s1, .int s0] M0 R := by
  unfold f_X12_readLine_8 at h
  rcases o_bif h with ⟨hb1, h⟩ | ⟨hb1, h⟩
  · refine ev_goT kc_242 1 (t := 21) (e := 9) (L' := [some (.ref 215), some (.int (mB l1)), some (.int l2)]) (st' := []) rfl hb1 ?_
    refine ev_go kc_242 1 (i' := 22) (L' := [some (.ref 215), some (.int (mB l1)), some (.int l2)]) (st' := [.int (0 : Int32)]) (M' := M0) rfl ?_
    obtain rfl := Option.some.inj h
    rw [hk]
    exact ev_ret kc_242 rfl rfl rfl
  · refine ev_goF kc_242 1 (t := 21) (e := 9) (L' := [some (.ref 215), some (.int (mB l1)), some (.int l2)]) (st' := []) rfl hb1 ?_
    rcases o_bif h with ⟨hb2, h⟩ | ⟨hb2, h⟩
    · refine ev_goF kc_242 2 (t := 15) (e := 11) (L' := [some (.ref 215), some (.int (mB l1)), some (.int l2)]) (st' := []) rfl (mB_e0f hb2) ?_
      refine ev_go kc_242 1 (i' := 12) (L' := [some (.ref 215), some (.int (mB l1)), some (.int l2)]) (st' := [.ref 215]) (M' := M0) rfl ?_
      obtain ⟨v3, M3, hc3, h⟩ := o_b2 h
      refine ev_cl0 (ins := .invokevirtual 287) kc_242 rfl rfl (a := 232) (as := [.ref 215]) (rest := []) rfl rfl (Cs.deep (c_X12_readTowerLine hc3) (by decide)) ?_
      rcases o_bif h with ⟨hb4, h⟩ | ⟨hb4, h⟩
      · refine ev_goF kc_242 1 (t := 21) (e := 14) (L' := [some (.ref 215), some (.int (mB l1)), some (.int l2)]) (st' := []) rfl (mB_e0f hb4) ?_
        refine ev_go kc_242 3 (i' := 22) (L' := [some (.ref 215), some (.int (mB l1)), some (.int l2)]) (st' := [.int (1 : Int32)]) (M' := M3) rfl ?_
        obtain rfl := Option.some.inj h
        rw [hk]
        exact ev_ret kc_242 rfl rfl rfl
      · refine ev_goT kc_242 1 (t := 21) (e := 14) (L' := [some (.ref 215), some (.int (mB l1)), some (.int l2)]) (st' := []) rfl (mB_e0t hb4) ?_
        refine ev_go kc_242 1 (i' := 22) (L' := [some (.ref 215), some (.int (mB l1)), some (.int l2)]) (st' := [.int (0 : Int32)]) (M' := M3) rfl ?_
        obtain rfl := Option.some.inj h
        rw [hk]
        exact ev_ret kc_242 rfl rfl rfl
    · refine ev_goT kc_242 2 (t := 15) (e := 11) (L' := [some (.ref 215), some (.int (mB l1)), some (.int l2)]) (st' := []) rfl (mB_e0t hb2) ?_
      refine ev_go kc_242 2 (i' := 17) (L' := [some (.ref 215), some (.int (mB l1)), some (.int l2)]) (st' := [.int l2, .ref 215]) (M' := M0) rfl ?_
      obtain ⟨v5, M5, hc5, h⟩ := o_b2 h
      refine ev_cl0 (ins := .invokevirtual 290) kc_242 rfl rfl (a := 241) (as := [.ref 215, .int l2]) (rest := []) rfl rfl (Cs.deep (c_X12_readLawLine hc5) (by decide)) ?_
      rcases o_bif h with ⟨hb6, h⟩ | ⟨hb6, h⟩
      · refine ev_goF kc_242 1 (t := 21) (e := 19) (L' := [some (.ref 215), some (.int (mB l1)), some (.int l2)]) (st' := []) rfl (mB_e0f hb6) ?_
        refine ev_go kc_242 2 (i' := 22) (L' := [some (.ref 215), some (.int (mB l1)), some (.int l2)]) (st' := [.int (1 : Int32)]) (M' := M5) rfl ?_
        obtain rfl := Option.some.inj h
        rw [hk]
        exact ev_ret kc_242 rfl rfl rfl
      · refine ev_goT kc_242 1 (t := 21) (e := 19) (L' := [some (.ref 215), some (.int (mB l1)), some (.int l2)]) (st' := []) rfl (mB_e0t hb6) ?_
        refine ev_go kc_242 1 (i' := 22) (L' := [some (.ref 215), some (.int (mB l1)), some (.int l2)]) (st' := [.int (0 : Int32)]) (M' := M5) rfl ?_
        obtain rfl := Option.some.inj h
        rw [hk]
        exact ev_ret kc_242 rfl rfl rfl
def f_X12_readLine (p1 : Bool) (p2 : Int32) (M0 : mM) : Option (Bool × mM) :=
  b2 (f_X12_letters M0) (fun v7 M7 => bif p1 then (f_X12_readLine_8 p1 p2 p2 (14 : Int32) M7) else (f_X12_readLine_8 p1 p2 p2 (12 : Int32) M7))
set_option maxRecDepth 8000 in
theorem c_X12_readLine {p1 : Bool} {p2 : Int32} {M0 : mM} {out : (Bool × mM)} (h : f_X12_readLine p1 p2 M0 = some out) : Cs (62) 242 [.ref 215, .int (mB p1), .int p2] M0 (emW eB out) := by
  generalize hk : emW eB out = R
  replace hk := hk.symm
  unfold f_X12_readLine at h
  show Ev (62) 242 0 [some (.ref 215), some (.int (mB p1)), some (.int p2)] [] M0 R
  refine ev_go kc_242 1 (i' := 1) (L' := [some (.ref 215), some (.int (mB p1)), some (.int p2)]) (st' := [.ref 215]) (M' := M0) rfl ?_
  obtain ⟨v7, M7, hc7, h⟩ := o_b2 h
  refine ev_cl0 (ins := .invokevirtual 178) kc_242 rfl rfl (a := 219) (as := [.ref 215]) (rest := []) rfl rfl (Cs.deep (c_X12_letters hc7) (by decide)) ?_
  rcases o_bif h with ⟨hb8, h⟩ | ⟨hb8, h⟩
  · refine ev_goF kc_242 3 (t := 7) (e := 5) (L' := [some (.ref 215), some (.int (mB p1)), some (.int p2)]) (st' := [.int p2]) rfl (mB_e0f hb8) ?_
    refine ev_go kc_242 2 (i' := 8) (L' := [some (.ref 215), some (.int (mB p1)), some (.int p2)]) (st' := [.int (14 : Int32), .int p2]) (M' := M7) rfl ?_
    exact Ev.forget (mLe.kp (mLe.kp (mLe.kp mLe.nl))) (e_X12_readLine_8  h hk)
  · refine ev_goT kc_242 3 (t := 7) (e := 5) (L' := [some (.ref 215), some (.int (mB p1)), some (.int p2)]) (st' := [.int p2]) rfl (mB_e0t hb8) ?_
    refine ev_go kc_242 1 (i' := 8) (L' := [some (.ref 215), some (.int (mB p1)), some (.int p2)]) (st' := [.int (12 : Int32), .int p2]) (M' := M7) rfl ?_
    exact Ev.forget (mLe.kp (mLe.kp (mLe.kp mLe.nl))) (e_X12_readLine_8  h hk)
/-- WakeTowerModel.readAll(Z)I: 243, W -/
theorem kc_243 : mKc 243 = k_X12_readAll := rfl
def f_X12_readAll_16 (l1 : Bool) (l2 : Int32) (M0 : mM) : Option ((Int32 × mM) ⊕ (Int32 × mM)) :=
  b2 (f_X12_readLine l1 l2 M0) (fun v1 M1 => bif v1 then (b2 (f_X12_blanks M1) (fun v3 M3 => bif decide (¬ (M3 215 14) = (M3 215 15)) then (b1 (f_X12_isAt (59 : Int32) (59 : Int32) M3) (fun v5 => bif v5 then (wr (mst M3 215 14 ((M3 215 14) + (1 : Int32))) (fun M7 => some (.inr ((l2 + (1 : Int32)), M7)))) else (some (.inl ((-1 : Int32), M3))))) else (some (.inl ((l2 + (1 : Int32)), M3))))) else (some (.inl ((-1 : Int32), M1))))
set_option maxRecDepth 8000 in
theorem e_X12_readAll_16 {l1 : Bool} {l2 : Int32} {M0 : mM} {R : mZ} {out : ((Int32 × mM) ⊕ (Int32 × mM))}  (h : f_X12_readAll_16 l1 l2 M0 = some out) (hk : (∀ s' : Int32 × mM, out = .inr s' → Ev (63) 243 16 [some (.ref 215), some (.int (mB l1)), some (.int s'.1)] [] (s'.2) R) ∧ (∀ e1 : (Int32 × mM), out = .inl e1 → R = emW eI e1)) : Ev (63) 243 16 [some (.ref 215), some (.int (mB l1)), some (.int l2)] [] M0 R := by
  unfold f_X12_readAll_16 at h
  refine ev_go kc_243 3 (i' := 19) (L' := [some (.ref 215), some (.int (mB l1)), some (.int l2)]) (st' := [.int l2, .int (mB l1), .ref 215]) (M' := M0) rfl ?_
  obtain ⟨v1, M1, hc1, h⟩ := o_b2 h
  refine ev_cl0 (ins := .invokevirtual 296) kc_243 rfl rfl (a := 242) (as := [.ref 215, .int (mB l1), .int l2]) (rest := []) rfl rfl (Cs.deep (c_X12_readLine hc1) (by decide)) ?_
  rcases o_bif h with ⟨hb2, h⟩ | ⟨hb2, h⟩
  · refine ev_goT kc_243 1 (t := 23) (e := 21) (L' := [some (.ref 215), some (.int (mB l1)), some (.int l2)]) (st' := []) rfl (mB_n0t hb2) ?_
    refine ev_go kc_243 1 (i' := 24) (L' := [some (.ref 215), some (.int (mB l1)), some (.int l2)]) (st' := [.ref 215]) (M' := M1) rfl ?_
    obtain ⟨v3, M3, hc3, h⟩ := o_b2 h
    refine ev_cl0 (ins := .invokevirtual 166) kc_243 rfl rfl (a := 218) (as := [.ref 215]) (rest := []) rfl rfl (Cs.deep (c_X12_blanks hc3) (by decide)) ?_
    rcases o_bif h with ⟨hb4, h⟩ | ⟨hb4, h⟩
    · refine ev_goT kc_243 5 (t := 34) (e := 30) (L' := [some (.ref 215), some (.int (mB l1)), some (.int l2)]) (st' := []) rfl hb4 ?_
      refine ev_go kc_243 3 (i' := 37) (L' := [some (.ref 215), some (.int (mB l1)), some (.int l2)]) (st' := [.int (59 : Int32), .int (59 : Int32), .ref 215]) (M' := M3) rfl ?_
      obtain ⟨v5, hc5, h⟩ := o_b1 h
      refine ev_cl0 (ins := .invokevirtual 160) kc_243 rfl rfl (a := 217) (as := [.ref 215, .int (59 : Int32), .int (59 : Int32)]) (rest := []) rfl rfl (Cs.deep (c_X12_isAt (M0 := M3) hc5) (by decide)) ?_
      rcases o_bif h with ⟨hb6, h⟩ | ⟨hb6, h⟩
      · refine ev_goT kc_243 1 (t := 41) (e := 39) (L' := [some (.ref 215), some (.int (mB l1)), some (.int l2)]) (st' := []) rfl (mB_n0t hb6) ?_
        refine ev_go kc_243 5 (i' := 46) (L' := [some (.ref 215), some (.int (mB l1)), some (.int l2)]) (st' := [.int ((M3 215 14) + (1 : Int32)), .ref 215]) (M' := M3) rfl ?_
        obtain ⟨M7, hM7, h⟩ := o_wr h
        refine ev_pf kc_243 rfl rfl rfl rfl (fun hc => absurd hc (by decide)) hM7 ?_
        refine ev_go kc_243 2 (i' := 16) (L' := [some (.ref 215), some (.int (mB l1)), some (.int (l2 + (1 : Int32)))]) (st' := []) (M' := M7) rfl ?_
        obtain rfl := Option.some.inj h
        exact Ev.forget (mLe.kp (mLe.kp (mLe.kp mLe.nl))) (hk.1 ((l2 + (1 : Int32)), M7) rfl)
      · refine ev_goF kc_243 1 (t := 41) (e := 39) (L' := [some (.ref 215), some (.int (mB l1)), some (.int l2)]) (st' := []) rfl (mB_n0f hb6) ?_
        refine ev_go kc_243 1 (i' := 40) (L' := [some (.ref 215), some (.int (mB l1)), some (.int l2)]) (st' := [.int (-1 : Int32)]) (M' := M3) rfl ?_
        obtain rfl := Option.some.inj h
        rw [show _ from (hk.2 _ rfl)]
        exact ev_ret kc_243 rfl rfl rfl
    · refine ev_goF kc_243 5 (t := 34) (e := 30) (L' := [some (.ref 215), some (.int (mB l1)), some (.int l2)]) (st' := []) rfl hb4 ?_
      refine ev_go kc_243 3 (i' := 33) (L' := [some (.ref 215), some (.int (mB l1)), some (.int l2)]) (st' := [.int (l2 + (1 : Int32))]) (M' := M3) rfl ?_
      obtain rfl := Option.some.inj h
      rw [show _ from (hk.2 _ rfl)]
      exact ev_ret kc_243 rfl rfl rfl
  · refine ev_goF kc_243 1 (t := 23) (e := 21) (L' := [some (.ref 215), some (.int (mB l1)), some (.int l2)]) (st' := []) rfl (mB_n0f hb2) ?_
    refine ev_go kc_243 1 (i' := 22) (L' := [some (.ref 215), some (.int (mB l1)), some (.int l2)]) (st' := [.int (-1 : Int32)]) (M' := M1) rfl ?_
    obtain rfl := Option.some.inj h
    rw [show _ from (hk.2 _ rfl)]
    exact ev_ret kc_243 rfl rfl rfl
def f_X12_readAll_l16 (l1 : Bool) (l2 : Int32) (M0 : mM) : Option (Int32 × mM) :=
  wh 100000 (fun s : Int32 × mM => f_X12_readAll_16 l1 s.1 s.2) (l2, M0)
theorem e_X12_readAll_l16 {l1 : Bool} {l2 : Int32} {M0 : mM} {R : mZ} {out : (Int32 × mM)}  (h : f_X12_readAll_l16 l1 l2 M0 = some out) (hk : R = emW eI out) : Ev (63) 243 16 [some (.ref 215), some (.int (mB l1)), some (.int l2)] [] M0 R := by
  unfold f_X12_readAll_l16 at h
  exact wh_ev (P := fun s : Int32 × mM => Ev (63) 243 16 [some (.ref 215), some (.int (mB l1)), some (.int s.1)] [] s.2 R) (Q := fun e : (Int32 × mM) => R = emW eI e) (fun s o hb h1 h2 => e_X12_readAll_16  hb ⟨h1, h2⟩) 100000 _ _ h hk
def f_X12_readAll (p1 : Bool) (M0 : mM) : Option (Int32 × mM) :=
  b2 (f_X12_uses M0) (fun v8 M8 => wr (mst M8 215 20 (0 : Int32)) (fun M9 => b2 (f_X12_blanks M9) (fun v10 M10 => bif decide (¬ (M10 215 14) = (M10 215 15)) then (f_X12_readAll_l16 p1 (0 : Int32) M10) else (some ((0 : Int32), M10)))))
set_option maxRecDepth 8000 in
theorem c_X12_readAll {p1 : Bool} {M0 : mM} {out : (Int32 × mM)} (h : f_X12_readAll p1 M0 = some out) : Cs (63) 243 [.ref 215, .int (mB p1)] M0 (emW eI out) := by
  generalize hk : emW eI out = R
  replace hk := hk.symm
  unfold f_X12_readAll at h
  show Ev (63) 243 0 [some (.ref 215), some (.int (mB p1)), none] [] M0 R
  refine ev_go kc_243 1 (i' := 1) (L' := [some (.ref 215), some (.int (mB p1)), none]) (st' := [.ref 215]) (M' := M0) rfl ?_
  obtain ⟨v8, M8, hc8, h⟩ := o_b2 h
  refine ev_cl0 (ins := .invokevirtual 293) kc_243 rfl rfl (a := 226) (as := [.ref 215]) (rest := []) rfl rfl (Cs.deep (c_X12_uses hc8) (by decide)) ?_
  refine ev_go kc_243 2 (i' := 4) (L' := [some (.ref 215), some (.int (mB p1)), none]) (st' := [.int (0 : Int32), .ref 215]) (M' := M8) rfl ?_
  obtain ⟨M9, hM9, h⟩ := o_wr h
  refine ev_pf kc_243 rfl rfl rfl rfl (fun hc => absurd hc (by decide)) hM9 ?_
  refine ev_go kc_243 1 (i' := 6) (L' := [some (.ref 215), some (.int (mB p1)), none]) (st' := [.ref 215]) (M' := M9) rfl ?_
  obtain ⟨v10, M10, hc10, h⟩ := o_b2 h
  refine ev_cl0 (ins := .invokevirtual 166) kc_243 rfl rfl (a := 218) (as := [.ref 215]) (rest := []) rfl rfl (Cs.deep (c_X12_blanks hc10) (by decide)) ?_
  rcases o_bif h with ⟨hb11, h⟩ | ⟨hb11, h⟩
  · refine ev_goT kc_243 5 (t := 14) (e := 12) (L' := [some (.ref 215), some (.int (mB p1)), none]) (st' := []) rfl hb11 ?_
    refine ev_go kc_243 2 (i' := 16) (L' := [some (.ref 215), some (.int (mB p1)), some (.int (0 : Int32))]) (st' := []) (M' := M10) rfl ?_
    exact Ev.forget (mLe.kp (mLe.kp (mLe.kp mLe.nl))) (e_X12_readAll_l16  h hk)
  · refine ev_goF kc_243 5 (t := 14) (e := 12) (L' := [some (.ref 215), some (.int (mB p1)), none]) (st' := []) rfl hb11 ?_
    refine ev_go kc_243 1 (i' := 13) (L' := [some (.ref 215), some (.int (mB p1)), none]) (st' := [.int (0 : Int32)]) (M' := M10) rfl ?_
    obtain rfl := Option.some.inj h
    rw [hk]
    exact ev_ret kc_243 rfl rfl rfl
/-- WakeTowerModel.tower()I: 244, W -/
theorem kc_244 : mKc 244 = k_X12_tower := rfl
def f_X12_tower_62 (l2 : Int32) (M0 : mM) : Option ((Int32 × mM) ⊕ (Int32 × mM)) :=
  bif decide ((1273 : Int32) ≤ l2) then (some (.inl ((0 : Int32), M0))) else (gd (mIn l2 1273) (gd (mIn l2 2122) (wr (mst M0 216 (ix l2) (M0 218 (ix l2))) (fun M3 => some (.inr ((l2 + (1 : Int32)), M3))))))
set_option maxRecDepth 8000 in
theorem e_X12_tower_62 {l2 : Int32} {M0 : mM} {R : mZ} {out : ((Int32 × mM) ⊕ (Int32 × mM))}  (h : f_X12_tower_62 l2 M0 = some out) (hk : (∀ s' : Int32 × mM, out = .inr s' → Ev (64) 244 62 [some (.ref 215), none, some (.int s'.1)] [] (s'.2) R) ∧ (∀ e1 : (Int32 × mM), out = .inl e1 → R = emW eI e1)) : Ev (64) 244 62 [some (.ref 215), none, some (.int l2)] [] M0 R := by
  unfold f_X12_tower_62 at h
  rcases o_bif h with ⟨hb1, h⟩ | ⟨hb1, h⟩
  · refine ev_goT kc_244 3 (t := 75) (e := 65) (L' := [some (.ref 215), none, some (.int l2)]) (st' := []) rfl hb1 ?_
    refine ev_go kc_244 1 (i' := 76) (L' := [some (.ref 215), none, some (.int l2)]) (st' := [.int (0 : Int32)]) (M' := M0) rfl ?_
    obtain rfl := Option.some.inj h
    rw [show _ from (hk.2 _ rfl)]
    exact ev_ret kc_244 rfl rfl rfl
  · refine ev_goF kc_244 3 (t := 75) (e := 65) (L' := [some (.ref 215), none, some (.int l2)]) (st' := []) rfl hb1 ?_
    refine ev_go kc_244 6 (i' := 71) (L' := [some (.ref 215), none, some (.int l2)]) (st' := [.int l2, .ref 218, .int l2, .ref 216]) (M' := M0) rfl ?_
    obtain ⟨hg2, h⟩ := o_gd h
    refine ev_ia kc_244 rfl rfl hg2 ?_
    obtain ⟨hg4, h⟩ := o_gd h
    obtain ⟨M3, hM3, h⟩ := o_wr h
    refine ev_is kc_244 rfl rfl hg4 hM3 ?_
    refine ev_go kc_244 2 (i' := 62) (L' := [some (.ref 215), none, some (.int (l2 + (1 : Int32)))]) (st' := []) (M' := M3) rfl ?_
    obtain rfl := Option.some.inj h
    exact Ev.forget (mLe.kp (mLe.sk (mLe.kp mLe.nl))) (hk.1 ((l2 + (1 : Int32)), M3) rfl)
def f_X12_tower_l62 (l2 : Int32) (M0 : mM) : Option (Int32 × mM) :=
  wh 100000 (fun s : Int32 × mM => f_X12_tower_62 s.1 s.2) (l2, M0)
theorem e_X12_tower_l62 {l2 : Int32} {M0 : mM} {R : mZ} {out : (Int32 × mM)}  (h : f_X12_tower_l62 l2 M0 = some out) (hk : R = emW eI out) : Ev (64) 244 62 [some (.ref 215), none, some (.int l2)] [] M0 R := by
  unfold f_X12_tower_l62 at h
  exact wh_ev (P := fun s : Int32 × mM => Ev (64) 244 62 [some (.ref 215), none, some (.int s.1)] [] s.2 R) (Q := fun e : (Int32 × mM) => R = emW eI e) (fun s o hb h1 h2 => e_X12_tower_62  hb ⟨h1, h2⟩) 100000 _ _ h hk
def f_X12_tower_57 (s1 : Bool) (M0 : mM) : Option (Int32 × mM) :=
  b2 (f_X12_throwsIf s1 (2 : Int32) M0) (fun v5 M5 => bif v5 then (f_X12_tower_l62 (0 : Int32) M5) else (wr (mst M5 216 (ix (1 : Int32)) ((M5 216 (ix (1 : Int32))) + (1 : Int32))) (fun M7 => wr (mst M7 215 7 (0 : Int32)) (fun M8 => some ((M8 216 (ix (1 : Int32))), M8)))))
set_option maxRecDepth 8000 in
theorem e_X12_tower_57 {s1 : Bool} {M0 : mM} {R : mZ} {out : (Int32 × mM)}  (h : f_X12_tower_57 s1 M0 = some out) (hk : R = emW eI out) : Ev (64) 244 57 [some (.ref 215), none, none] [.int (mB s1), .ref 215] M0 R := by
  unfold f_X12_tower_57 at h
  refine ev_go kc_244 1 (i' := 58) (L' := [some (.ref 215), none, none]) (st' := [.int (2 : Int32), .int (mB s1), .ref 215]) (M' := M0) rfl ?_
  obtain ⟨v5, M5, hc5, h⟩ := o_b2 h
  refine ev_cl0 (ins := .invokevirtual 304) kc_244 rfl rfl (a := 181) (as := [.ref 215, .int (mB s1), .int (2 : Int32)]) (rest := []) rfl rfl (Cs.deep (c_X12_throwsIf hc5) (by decide)) ?_
  rcases o_bif h with ⟨hb6, h⟩ | ⟨hb6, h⟩
  · refine ev_goF kc_244 1 (t := 77) (e := 60) (L' := [some (.ref 215), none, none]) (st' := []) rfl (mB_e0f hb6) ?_
    refine ev_go kc_244 2 (i' := 62) (L' := [some (.ref 215), none, some (.int (0 : Int32))]) (st' := []) (M' := M5) rfl ?_
    exact Ev.forget (mLe.kp (mLe.sk (mLe.kp mLe.nl))) (e_X12_tower_l62  h hk)
  · refine ev_goT kc_244 1 (t := 77) (e := 60) (L' := [some (.ref 215), none, none]) (st' := []) rfl (mB_e0t hb6) ?_
    refine ev_go kc_244 4 (i' := 81) (L' := [some (.ref 215), none, none]) (st' := [.int (1 : Int32), .ref 216, .int (1 : Int32), .ref 216]) (M' := M5) rfl ?_
    refine ev_ia kc_244 rfl rfl rfl ?_
    refine ev_go kc_244 2 (i' := 84) (L' := [some (.ref 215), none, none]) (st' := [.int ((M5 216 (ix (1 : Int32))) + (1 : Int32)), .int (1 : Int32), .ref 216]) (M' := M5) rfl ?_
    obtain ⟨M7, hM7, h⟩ := o_wr h
    refine ev_is kc_244 rfl rfl rfl hM7 ?_
    refine ev_go kc_244 2 (i' := 87) (L' := [some (.ref 215), none, none]) (st' := [.int (0 : Int32), .ref 215]) (M' := M7) rfl ?_
    obtain ⟨M8, hM8, h⟩ := o_wr h
    refine ev_pf kc_244 rfl rfl rfl rfl (fun hc => absurd hc (by decide)) hM8 ?_
    refine ev_go kc_244 3 (i' := 91) (L' := [some (.ref 215), none, none]) (st' := [.int (1 : Int32), .ref 216]) (M' := M8) rfl ?_
    refine ev_ia kc_244 rfl rfl rfl ?_
    obtain rfl := Option.some.inj h
    rw [hk]
    exact ev_ret kc_244 rfl rfl rfl
def f_X12_tower_44 (s1 : Bool) (M0 : mM) : Option (Int32 × mM) :=
  b2 (f_X12_throwsIf s1 (1 : Int32) M0) (fun v9 M9 => bif v9 then (f_X12_tower_l62 (0 : Int32) M9) else (bif decide (¬ (M9 216 (ix (1 : Int32))) = (12 : Int32)) then (f_X12_tower_57 false M9) else (f_X12_tower_57 true M9)))
set_option maxRecDepth 8000 in
theorem e_X12_tower_44 {s1 : Bool} {M0 : mM} {R : mZ} {out : (Int32 × mM)}  (h : f_X12_tower_44 s1 M0 = some out) (hk : R = emW eI out) : Ev (64) 244 44 [some (.ref 215), none, none] [.int (mB s1), .ref 215] M0 R := by
  unfold f_X12_tower_44 at h
  refine ev_go kc_244 1 (i' := 45) (L' := [some (.ref 215), none, none]) (st' := [.int (1 : Int32), .int (mB s1), .ref 215]) (M' := M0) rfl ?_
  obtain ⟨v9, M9, hc9, h⟩ := o_b2 h
  refine ev_cl0 (ins := .invokevirtual 304) kc_244 rfl rfl (a := 181) (as := [.ref 215, .int (mB s1), .int (1 : Int32)]) (rest := []) rfl rfl (Cs.deep (c_X12_throwsIf hc9) (by decide)) ?_
  rcases o_bif h with ⟨hb10, h⟩ | ⟨hb10, h⟩
  · refine ev_goT kc_244 1 (t := 60) (e := 47) (L' := [some (.ref 215), none, none]) (st' := []) rfl (mB_n0t hb10) ?_
    refine ev_go kc_244 2 (i' := 62) (L' := [some (.ref 215), none, some (.int (0 : Int32))]) (st' := []) (M' := M9) rfl ?_
    exact Ev.forget (mLe.kp (mLe.sk (mLe.kp mLe.nl))) (e_X12_tower_l62  h hk)
  · refine ev_goF kc_244 1 (t := 60) (e := 47) (L' := [some (.ref 215), none, none]) (st' := []) rfl (mB_n0f hb10) ?_
    refine ev_go kc_244 4 (i' := 51) (L' := [some (.ref 215), none, none]) (st' := [.int (1 : Int32), .ref 216, .ref 215]) (M' := M9) rfl ?_
    refine ev_ia kc_244 rfl rfl rfl ?_
    rcases o_bif h with ⟨hb11, h⟩ | ⟨hb11, h⟩
    · refine ev_goT kc_244 2 (t := 56) (e := 54) (L' := [some (.ref 215), none, none]) (st' := [.ref 215]) rfl hb11 ?_
      refine ev_go kc_244 1 (i' := 57) (L' := [some (.ref 215), none, none]) (st' := [.int (0 : Int32), .ref 215]) (M' := M9) rfl ?_
      exact Ev.forget (mLe.kp (mLe.sk (mLe.sk mLe.nl))) (e_X12_tower_57  h hk)
    · refine ev_goF kc_244 2 (t := 56) (e := 54) (L' := [some (.ref 215), none, none]) (st' := [.ref 215]) rfl hb11 ?_
      refine ev_go kc_244 2 (i' := 57) (L' := [some (.ref 215), none, none]) (st' := [.int (1 : Int32), .ref 215]) (M' := M9) rfl ?_
      exact Ev.forget (mLe.kp (mLe.sk (mLe.sk mLe.nl))) (e_X12_tower_57  h hk)
def f_X12_tower_37 (l1 : Int32) (s1 : Int32) (M0 : mM) : Option (Int32 × mM) :=
  wr (mst M0 215 18 s1) (fun M12 => bif decide (0 ≤ l1) then (f_X12_tower_44 false M12) else (f_X12_tower_44 true M12))
set_option maxRecDepth 8000 in
theorem e_X12_tower_37 {l1 : Int32} {s1 : Int32} {M0 : mM} {R : mZ} {out : (Int32 × mM)}  (h : f_X12_tower_37 l1 s1 M0 = some out) (hk : R = emW eI out) : Ev (64) 244 37 [some (.ref 215), some (.int l1), none] [.int s1, .ref 215] M0 R := by
  unfold f_X12_tower_37 at h
  obtain ⟨M12, hM12, h⟩ := o_wr h
  refine ev_pf kc_244 rfl rfl rfl rfl (fun hc => absurd hc (by decide)) hM12 ?_
  rcases o_bif h with ⟨hb13, h⟩ | ⟨hb13, h⟩
  · refine ev_goT kc_244 3 (t := 43) (e := 41) (L' := [some (.ref 215), some (.int l1), none]) (st' := [.ref 215]) rfl hb13 ?_
    refine ev_go kc_244 1 (i' := 44) (L' := [some (.ref 215), some (.int l1), none]) (st' := [.int (0 : Int32), .ref 215]) (M' := M12) rfl ?_
    exact Ev.forget (mLe.kp (mLe.sk (mLe.sk mLe.nl))) (e_X12_tower_44  h hk)
  · refine ev_goF kc_244 3 (t := 43) (e := 41) (L' := [some (.ref 215), some (.int l1), none]) (st' := [.ref 215]) rfl hb13 ?_
    refine ev_go kc_244 2 (i' := 44) (L' := [some (.ref 215), some (.int l1), none]) (st' := [.int (1 : Int32), .ref 215]) (M' := M12) rfl ?_
    exact Ev.forget (mLe.kp (mLe.sk (mLe.sk mLe.nl))) (e_X12_tower_44  h hk)
def f_X12_tower_30 (l1 : Int32) (M0 : mM) : Option (Int32 × mM) :=
  bif decide (0 ≤ l1) then (f_X12_tower_37 l1 (-1 : Int32) M0) else (f_X12_tower_37 l1 (M0 215 16) M0)
set_option maxRecDepth 8000 in
theorem e_X12_tower_30 {l1 : Int32} {M0 : mM} {R : mZ} {out : (Int32 × mM)}  (h : f_X12_tower_30 l1 M0 = some out) (hk : R = emW eI out) : Ev (64) 244 30 [some (.ref 215), some (.int l1), none] [] M0 R := by
  unfold f_X12_tower_30 at h
  rcases o_bif h with ⟨hb14, h⟩ | ⟨hb14, h⟩
  · refine ev_goT kc_244 3 (t := 36) (e := 33) (L' := [some (.ref 215), some (.int l1), none]) (st' := [.ref 215]) rfl hb14 ?_
    refine ev_go kc_244 1 (i' := 37) (L' := [some (.ref 215), some (.int l1), none]) (st' := [.int (-1 : Int32), .ref 215]) (M' := M0) rfl ?_
    exact Ev.forget (mLe.kp (mLe.kp (mLe.sk mLe.nl))) (e_X12_tower_37  h hk)
  · refine ev_goF kc_244 3 (t := 36) (e := 33) (L' := [some (.ref 215), some (.int l1), none]) (st' := [.ref 215]) rfl hb14 ?_
    refine ev_go kc_244 3 (i' := 37) (L' := [some (.ref 215), some (.int l1), none]) (st' := [.int (M0 215 16), .ref 215]) (M' := M0) rfl ?_
    exact Ev.forget (mLe.kp (mLe.kp (mLe.sk mLe.nl))) (e_X12_tower_37  h hk)
def f_X12_tower_2 (l1 : Int32) (M0 : mM) : Option ((Int32 × mM) ⊕ (Int32 × mM)) :=
  bif decide ((1273 : Int32) ≤ l1) then (b2 (f_X12_readAll true M0) (fun v16 M16 => bif decide (v16 < 0) then (b1 (f_X12_tower_30 v16 M16) (fun r18 => some (.inl r18))) else (b2 (f_X12_stands M16) (fun v19 M19 => bif v19 then (b1 (f_X12_tower_30 v16 M19) (fun r21 => some (.inl r21))) else (wr (mst M19 215 16 (M19 215 15)) (fun M22 => b1 (f_X12_tower_30 (-1 : Int32) M22) (fun r23 => some (.inl r23)))))))) else (gd (mIn l1 2122) (gd (mIn l1 1273) (wr (mst M0 218 (ix l1) (M0 216 (ix l1))) (fun M25 => some (.inr ((l1 + (1 : Int32)), M25))))))
set_option maxRecDepth 8000 in
theorem e_X12_tower_2 {l1 : Int32} {M0 : mM} {R : mZ} {out : ((Int32 × mM) ⊕ (Int32 × mM))}  (h : f_X12_tower_2 l1 M0 = some out) (hk : (∀ s' : Int32 × mM, out = .inr s' → Ev (64) 244 2 [some (.ref 215), some (.int s'.1), none] [] (s'.2) R) ∧ (∀ e1 : (Int32 × mM), out = .inl e1 → R = emW eI e1)) : Ev (64) 244 2 [some (.ref 215), some (.int l1), none] [] M0 R := by
  unfold f_X12_tower_2 at h
  rcases o_bif h with ⟨hb15, h⟩ | ⟨hb15, h⟩
  · refine ev_goT kc_244 3 (t := 15) (e := 5) (L' := [some (.ref 215), some (.int l1), none]) (st' := []) rfl hb15 ?_
    refine ev_go kc_244 2 (i' := 17) (L' := [some (.ref 215), some (.int l1), none]) (st' := [.int (1 : Int32), .ref 215]) (M' := M0) rfl ?_
    obtain ⟨v16, M16, hc16, h⟩ := o_b2 h
    refine ev_cl0 (ins := .invokevirtual 300) kc_244 rfl rfl (a := 243) (as := [.ref 215, .int (mB true)]) (rest := []) rfl rfl (Cs.deep (c_X12_readAll hc16) (by decide)) ?_
    rcases o_bif h with ⟨hb17, h⟩ | ⟨hb17, h⟩
    · refine ev_goT kc_244 3 (t := 30) (e := 21) (L' := [some (.ref 215), some (.int v16), none]) (st' := []) rfl hb17 ?_
      obtain ⟨r18, hr18, h⟩ := o_b1 h
      obtain rfl := Option.some.inj h
      exact Ev.forget (mLe.kp (mLe.kp (mLe.sk mLe.nl))) (e_X12_tower_30  hr18 (hk.2 _ rfl))
    · refine ev_goF kc_244 3 (t := 30) (e := 21) (L' := [some (.ref 215), some (.int v16), none]) (st' := []) rfl hb17 ?_
      refine ev_go kc_244 1 (i' := 22) (L' := [some (.ref 215), some (.int v16), none]) (st' := [.ref 215]) (M' := M16) rfl ?_
      obtain ⟨v19, M19, hc19, h⟩ := o_b2 h
      refine ev_cl0 (ins := .invokevirtual 140) kc_244 rfl rfl (a := 210) (as := [.ref 215]) (rest := []) rfl rfl (Cs.deep (c_X12_stands hc19) (by decide)) ?_
      rcases o_bif h with ⟨hb20, h⟩ | ⟨hb20, h⟩
      · refine ev_goT kc_244 1 (t := 30) (e := 24) (L' := [some (.ref 215), some (.int v16), none]) (st' := []) rfl (mB_n0t hb20) ?_
        obtain ⟨r21, hr21, h⟩ := o_b1 h
        obtain rfl := Option.some.inj h
        exact Ev.forget (mLe.kp (mLe.kp (mLe.sk mLe.nl))) (e_X12_tower_30  hr21 (hk.2 _ rfl))
      · refine ev_goF kc_244 1 (t := 30) (e := 24) (L' := [some (.ref 215), some (.int v16), none]) (st' := []) rfl (mB_n0f hb20) ?_
        refine ev_go kc_244 5 (i' := 29) (L' := [some (.ref 215), some (.int (-1 : Int32)), none]) (st' := [.int (M19 215 15), .ref 215]) (M' := M19) rfl ?_
        obtain ⟨M22, hM22, h⟩ := o_wr h
        refine ev_pf kc_244 rfl rfl rfl rfl (fun hc => absurd hc (by decide)) hM22 ?_
        obtain ⟨r23, hr23, h⟩ := o_b1 h
        obtain rfl := Option.some.inj h
        exact Ev.forget (mLe.kp (mLe.kp (mLe.sk mLe.nl))) (e_X12_tower_30  hr23 (hk.2 _ rfl))
  · refine ev_goF kc_244 3 (t := 15) (e := 5) (L' := [some (.ref 215), some (.int l1), none]) (st' := []) rfl hb15 ?_
    refine ev_go kc_244 6 (i' := 11) (L' := [some (.ref 215), some (.int l1), none]) (st' := [.int l1, .ref 216, .int l1, .ref 218]) (M' := M0) rfl ?_
    obtain ⟨hg24, h⟩ := o_gd h
    refine ev_ia kc_244 rfl rfl hg24 ?_
    obtain ⟨hg26, h⟩ := o_gd h
    obtain ⟨M25, hM25, h⟩ := o_wr h
    refine ev_is kc_244 rfl rfl hg26 hM25 ?_
    refine ev_go kc_244 2 (i' := 2) (L' := [some (.ref 215), some (.int (l1 + (1 : Int32))), none]) (st' := []) (M' := M25) rfl ?_
    obtain rfl := Option.some.inj h
    exact Ev.forget (mLe.kp (mLe.kp (mLe.sk mLe.nl))) (hk.1 ((l1 + (1 : Int32)), M25) rfl)
def f_X12_tower_l2 (l1 : Int32) (M0 : mM) : Option (Int32 × mM) :=
  wh 100000 (fun s : Int32 × mM => f_X12_tower_2 s.1 s.2) (l1, M0)
theorem e_X12_tower_l2 {l1 : Int32} {M0 : mM} {R : mZ} {out : (Int32 × mM)}  (h : f_X12_tower_l2 l1 M0 = some out) (hk : R = emW eI out) : Ev (64) 244 2 [some (.ref 215), some (.int l1), none] [] M0 R := by
  unfold f_X12_tower_l2 at h
  exact wh_ev (P := fun s : Int32 × mM => Ev (64) 244 2 [some (.ref 215), some (.int s.1), none] [] s.2 R) (Q := fun e : (Int32 × mM) => R = emW eI e) (fun s o hb h1 h2 => e_X12_tower_2  hb ⟨h1, h2⟩) 100000 _ _ h hk
def f_X12_tower  (M0 : mM) : Option (Int32 × mM) :=
  f_X12_tower_l2 (0 : Int32) M0
set_option maxRecDepth 8000 in
theorem c_X12_tower  {M0 : mM} {out : (Int32 × mM)} (h : f_X12_tower M0 = some out) : Cs (64) 244 [.ref 215] M0 (emW eI out) := by
  generalize hk : emW eI out = R
  replace hk := hk.symm
  unfold f_X12_tower at h
  show Ev (64) 244 0 [some (.ref 215), none, none] [] M0 R
  refine ev_go kc_244 2 (i' := 2) (L' := [some (.ref 215), some (.int (0 : Int32)), none]) (st' := []) (M' := M0) rfl ?_
  exact Ev.forget (mLe.kp (mLe.kp (mLe.sk mLe.nl))) (e_X12_tower_l2  h hk)
/-- WakeTowerModel.law()I: 245, W -/
theorem kc_245 : mKc 245 = k_X12_law := rfl
def f_X12_law_30 (l1 : Int32) (l2 : Int32) (M0 : mM) : Option ((Int32 × mM) ⊕ (Int32 × mM)) :=
  bif decide ((849 : Int32) ≤ l2) then (wr (mst M0 216 (ix (2 : Int32)) (1 : Int32)) (fun M2 => wr (mst M2 215 7 (0 : Int32)) (fun M3 => some (.inl (l1, M3))))) else (gd (mIn ((1273 : Int32) + l2) 2122) (gd (mIn ((424 : Int32) + l2) 2122) (wr (mst M0 216 (ix ((424 : Int32) + l2)) (M0 216 (ix ((1273 : Int32) + l2)))) (fun M5 => some (.inr ((l2 + (1 : Int32)), M5))))))
set_option maxRecDepth 8000 in
theorem e_X12_law_30 {l1 : Int32} {l2 : Int32} {M0 : mM} {R : mZ} {out : ((Int32 × mM) ⊕ (Int32 × mM))}  (h : f_X12_law_30 l1 l2 M0 = some out) (hk : (∀ s' : Int32 × mM, out = .inr s' → Ev (64) 245 30 [some (.ref 215), some (.int l1), some (.int s'.1)] [] (s'.2) R) ∧ (∀ e1 : (Int32 × mM), out = .inl e1 → R = emW eI e1)) : Ev (64) 245 30 [some (.ref 215), some (.int l1), some (.int l2)] [] M0 R := by
  unfold f_X12_law_30 at h
  rcases o_bif h with ⟨hb1, h⟩ | ⟨hb1, h⟩
  · refine ev_goT kc_245 3 (t := 47) (e := 33) (L' := [some (.ref 215), some (.int l1), some (.int l2)]) (st' := []) rfl hb1 ?_
    refine ev_go kc_245 4 (i' := 51) (L' := [some (.ref 215), some (.int l1), some (.int l2)]) (st' := [.int (1 : Int32), .int (2 : Int32), .ref 216]) (M' := M0) rfl ?_
    obtain ⟨M2, hM2, h⟩ := o_wr h
    refine ev_is kc_245 rfl rfl rfl hM2 ?_
    refine ev_go kc_245 2 (i' := 54) (L' := [some (.ref 215), some (.int l1), some (.int l2)]) (st' := [.int (0 : Int32), .ref 215]) (M' := M2) rfl ?_
    obtain ⟨M3, hM3, h⟩ := o_wr h
    refine ev_pf kc_245 rfl rfl rfl rfl (fun hc => absurd hc (by decide)) hM3 ?_
    refine ev_go kc_245 1 (i' := 56) (L' := [some (.ref 215), some (.int l1), some (.int l2)]) (st' := [.int l1]) (M' := M3) rfl ?_
    obtain rfl := Option.some.inj h
    rw [show _ from (hk.2 _ rfl)]
    exact ev_ret kc_245 rfl rfl rfl
  · refine ev_goF kc_245 3 (t := 47) (e := 33) (L' := [some (.ref 215), some (.int l1), some (.int l2)]) (st' := []) rfl hb1 ?_
    refine ev_go kc_245 10 (i' := 43) (L' := [some (.ref 215), some (.int l1), some (.int l2)]) (st' := [.int ((1273 : Int32) + l2), .ref 216, .int ((424 : Int32) + l2), .ref 216]) (M' := M0) rfl ?_
    obtain ⟨hg4, h⟩ := o_gd h
    refine ev_ia kc_245 rfl rfl hg4 ?_
    obtain ⟨hg6, h⟩ := o_gd h
    obtain ⟨M5, hM5, h⟩ := o_wr h
    refine ev_is kc_245 rfl rfl hg6 hM5 ?_
    refine ev_go kc_245 2 (i' := 30) (L' := [some (.ref 215), some (.int l1), some (.int (l2 + (1 : Int32)))]) (st' := []) (M' := M5) rfl ?_
    obtain rfl := Option.some.inj h
    exact Ev.forget (mLe.kp (mLe.kp (mLe.kp mLe.nl))) (hk.1 ((l2 + (1 : Int32)), M5) rfl)
def f_X12_law_l30 (l1 : Int32) (l2 : Int32) (M0 : mM) : Option (Int32 × mM) :=
  wh 100000 (fun s : Int32 × mM => f_X12_law_30 l1 s.1 s.2) (l2, M0)
theorem e_X12_law_l30 {l1 : Int32} {l2 : Int32} {M0 : mM} {R : mZ} {out : (Int32 × mM)}  (h : f_X12_law_l30 l1 l2 M0 = some out) (hk : R = emW eI out) : Ev (64) 245 30 [some (.ref 215), some (.int l1), some (.int l2)] [] M0 R := by
  unfold f_X12_law_l30 at h
  exact wh_ev (P := fun s : Int32 × mM => Ev (64) 245 30 [some (.ref 215), some (.int l1), some (.int s.1)] [] s.2 R) (Q := fun e : (Int32 × mM) => R = emW eI e) (fun s o hb h1 h2 => e_X12_law_30  hb ⟨h1, h2⟩) 100000 _ _ h hk
def f_X12_law_18 (l1 : Int32) (s1 : Bool) (M0 : mM) : Option (Int32 × mM) :=
  b2 (f_X12_throwsIf s1 (1 : Int32) M0) (fun v7 M7 => bif v7 then (some ((0 : Int32), M7)) else (wr (mst M7 216 (ix (1273 : Int32)) l1) (fun M9 => f_X12_law_l30 l1 (0 : Int32) M9)))
set_option maxRecDepth 8000 in
theorem e_X12_law_18 {l1 : Int32} {s1 : Bool} {M0 : mM} {R : mZ} {out : (Int32 × mM)}  (h : f_X12_law_18 l1 s1 M0 = some out) (hk : R = emW eI out) : Ev (64) 245 18 [some (.ref 215), some (.int l1), none] [.int (mB s1), .ref 215] M0 R := by
  unfold f_X12_law_18 at h
  refine ev_go kc_245 1 (i' := 19) (L' := [some (.ref 215), some (.int l1), none]) (st' := [.int (1 : Int32), .int (mB s1), .ref 215]) (M' := M0) rfl ?_
  obtain ⟨v7, M7, hc7, h⟩ := o_b2 h
  refine ev_cl0 (ins := .invokevirtual 304) kc_245 rfl rfl (a := 181) (as := [.ref 215, .int (mB s1), .int (1 : Int32)]) (rest := []) rfl rfl (Cs.deep (c_X12_throwsIf hc7) (by decide)) ?_
  rcases o_bif h with ⟨hb8, h⟩ | ⟨hb8, h⟩
  · refine ev_goF kc_245 1 (t := 23) (e := 21) (L' := [some (.ref 215), some (.int l1), none]) (st' := []) rfl (mB_e0f hb8) ?_
    refine ev_go kc_245 1 (i' := 22) (L' := [some (.ref 215), some (.int l1), none]) (st' := [.int (0 : Int32)]) (M' := M7) rfl ?_
    obtain rfl := Option.some.inj h
    rw [hk]
    exact ev_ret kc_245 rfl rfl rfl
  · refine ev_goT kc_245 1 (t := 23) (e := 21) (L' := [some (.ref 215), some (.int l1), none]) (st' := []) rfl (mB_e0t hb8) ?_
    refine ev_go kc_245 4 (i' := 27) (L' := [some (.ref 215), some (.int l1), none]) (st' := [.int l1, .int (1273 : Int32), .ref 216]) (M' := M7) rfl ?_
    obtain ⟨M9, hM9, h⟩ := o_wr h
    refine ev_is kc_245 rfl rfl rfl hM9 ?_
    refine ev_go kc_245 2 (i' := 30) (L' := [some (.ref 215), some (.int l1), some (.int (0 : Int32))]) (st' := []) (M' := M9) rfl ?_
    exact Ev.forget (mLe.kp (mLe.kp (mLe.kp mLe.nl))) (e_X12_law_l30  h hk)
def f_X12_law_11 (l1 : Int32) (s1 : Int32) (M0 : mM) : Option (Int32 × mM) :=
  wr (mst M0 215 18 s1) (fun M10 => bif decide (0 ≤ l1) then (f_X12_law_18 l1 false M10) else (f_X12_law_18 l1 true M10))
set_option maxRecDepth 8000 in
theorem e_X12_law_11 {l1 : Int32} {s1 : Int32} {M0 : mM} {R : mZ} {out : (Int32 × mM)}  (h : f_X12_law_11 l1 s1 M0 = some out) (hk : R = emW eI out) : Ev (64) 245 11 [some (.ref 215), some (.int l1), none] [.int s1, .ref 215] M0 R := by
  unfold f_X12_law_11 at h
  obtain ⟨M10, hM10, h⟩ := o_wr h
  refine ev_pf kc_245 rfl rfl rfl rfl (fun hc => absurd hc (by decide)) hM10 ?_
  rcases o_bif h with ⟨hb11, h⟩ | ⟨hb11, h⟩
  · refine ev_goT kc_245 3 (t := 17) (e := 15) (L' := [some (.ref 215), some (.int l1), none]) (st' := [.ref 215]) rfl hb11 ?_
    refine ev_go kc_245 1 (i' := 18) (L' := [some (.ref 215), some (.int l1), none]) (st' := [.int (0 : Int32), .ref 215]) (M' := M10) rfl ?_
    exact Ev.forget (mLe.kp (mLe.kp (mLe.sk mLe.nl))) (e_X12_law_18  h hk)
  · refine ev_goF kc_245 3 (t := 17) (e := 15) (L' := [some (.ref 215), some (.int l1), none]) (st' := [.ref 215]) rfl hb11 ?_
    refine ev_go kc_245 2 (i' := 18) (L' := [some (.ref 215), some (.int l1), none]) (st' := [.int (1 : Int32), .ref 215]) (M' := M10) rfl ?_
    exact Ev.forget (mLe.kp (mLe.kp (mLe.sk mLe.nl))) (e_X12_law_18  h hk)
def f_X12_law  (M0 : mM) : Option (Int32 × mM) :=
  b2 (f_X12_readAll false M0) (fun v12 M12 => bif decide (0 ≤ v12) then (f_X12_law_11 v12 (-1 : Int32) M12) else (f_X12_law_11 v12 (M12 215 16) M12))
set_option maxRecDepth 8000 in
theorem c_X12_law  {M0 : mM} {out : (Int32 × mM)} (h : f_X12_law M0 = some out) : Cs (64) 245 [.ref 215] M0 (emW eI out) := by
  generalize hk : emW eI out = R
  replace hk := hk.symm
  unfold f_X12_law at h
  show Ev (64) 245 0 [some (.ref 215), none, none] [] M0 R
  refine ev_go kc_245 2 (i' := 2) (L' := [some (.ref 215), none, none]) (st' := [.int (0 : Int32), .ref 215]) (M' := M0) rfl ?_
  obtain ⟨v12, M12, hc12, h⟩ := o_b2 h
  refine ev_cl0 (ins := .invokevirtual 300) kc_245 rfl rfl (a := 243) (as := [.ref 215, .int (mB false)]) (rest := []) rfl rfl (Cs.deep (c_X12_readAll hc12) (by decide)) ?_
  rcases o_bif h with ⟨hb13, h⟩ | ⟨hb13, h⟩
  · refine ev_goT kc_245 4 (t := 10) (e := 7) (L' := [some (.ref 215), some (.int v12), none]) (st' := [.ref 215]) rfl hb13 ?_
    refine ev_go kc_245 1 (i' := 11) (L' := [some (.ref 215), some (.int v12), none]) (st' := [.int (-1 : Int32), .ref 215]) (M' := M12) rfl ?_
    exact Ev.forget (mLe.kp (mLe.kp (mLe.sk mLe.nl))) (e_X12_law_11  h hk)
  · refine ev_goF kc_245 4 (t := 10) (e := 7) (L' := [some (.ref 215), some (.int v12), none]) (st' := [.ref 215]) rfl hb13 ?_
    refine ev_go kc_245 3 (i' := 11) (L' := [some (.ref 215), some (.int v12), none]) (st' := [.int (M12 215 16), .ref 215]) (M' := M12) rfl ?_
    exact Ev.forget (mLe.kp (mLe.kp (mLe.sk mLe.nl))) (e_X12_law_11  h hk)
/-- WakeTowerLaw.law(LWakeTower;[J)I: 338, H -/
theorem kc_338 : mKc 338 = k_L_law := rfl
def f_L_law  (M0 : mM) : Option (Int32 × mM × Nat) :=
  th (f_X11_law M0) (fun v1 M1 => wr (mst M1 231 (ix (0 : Int32)) v1) (fun M2 => some ((0 : Int32), M2, 0))) (fun E1 M1 => bif Nat.beq E1 0 then (some ((1 : Int32), M1, 1)) else (none))
set_option maxRecDepth 8000 in
theorem c_L_law  {M0 : mM} {out : (Int32 × mM × Nat)} (h : f_L_law M0 = some out) : Cs (64) 338 [.ref 0, .ref 231] M0 (emH eI out) := by
  generalize hk : emH eI out = R
  replace hk := hk.symm
  unfold f_L_law at h
  show Ev (64) 338 0 [some (.ref 0), some (.ref 231), none] [] M0 R
  refine ev_go kc_338 3 (i' := 3) (L' := [some (.ref 0), some (.ref 231), none]) (st' := [.ref 0, .int (0 : Int32), .ref 231]) (M' := M0) rfl ?_
  rcases o_th h with ⟨v1, M1, hc1, h⟩ | ⟨E1, M1, hc1, h⟩
  · refine ev_cl0 (ins := .invokevirtual 17) kc_338 rfl rfl (a := 108) (as := [.ref 0]) (rest := [.int (0 : Int32), .ref 231]) rfl rfl (Cs.deep (c_X11_law hc1) (by decide)) ?_
    refine ev_go kc_338 1 (i' := 5) (L' := [some (.ref 0), some (.ref 231), none]) (st' := [.long (v1).toInt64, .int (0 : Int32), .ref 231]) (M' := M1) rfl ?_
    obtain ⟨M2, hM2, h⟩ := o_wr h
    refine ev_ls kc_338 rfl rfl rfl hM2 ?_
    refine ev_go kc_338 2 (i' := 11) (L' := [some (.ref 0), some (.ref 231), none]) (st' := [.int (0 : Int32)]) (M' := M2) rfl ?_
    obtain rfl := Option.some.inj h
    rw [hk]
    exact ev_ret kc_338 rfl rfl rfl
  ·
    rcases o_bif h with ⟨hb3, h⟩ | ⟨hb3, h⟩
    · obtain rfl := Nat.eq_of_beq_eq_true hb3
      obtain rfl := Option.some.inj h
      rw [hk]
      refine ev_clH (ins := .invokevirtual 17) (k1 := 1) (k2 := 0) (h := 7) (q := 2) kc_338 rfl rfl (a := 108) (as := [.ref 0]) (rest := [.int (0 : Int32), .ref 231]) rfl rfl rfl rfl rfl rfl (Cs.deep (c_X11_law hc1) (by decide)) ?_
      refine ev_go kc_338 1 (i' := 9) (L' := [some (.ref 0), some (.ref 231), none]) (st' := [.int (1 : Int32)]) (M' := M1) rfl ?_
      exact ev_ret kc_338 rfl rfl rfl
    cases h
