/-! the methods, by program -/
/-- WakeTowerLaw.more(LWakeTower;I[J)I: 348, H -/
theorem kc_348 : mKc 348 = k_L_more := rfl
def f_L_more (p1 : Int32) (M0 : mM) : Option (Int32 × mM × Nat) :=
  th (f_X11_more p1 M0) (fun v1 M1 => wr (mst M1 231 (ix (0 : Int32)) v1) (fun M2 => some ((0 : Int32), M2, 0))) (fun E1 M1 => bif Nat.beq E1 2 then (some ((1 : Int32), M1, 1)) else (bif Nat.beq E1 4 then (some ((2 : Int32), M1, 1)) else (none)))
set_option maxRecDepth 8000 in
theorem c_L_more {p1 : Int32} {M0 : mM} {out : (Int32 × mM × Nat)} (h : f_L_more p1 M0 = some out) : Cs (11) 348 [.ref 0, .int p1, .ref 231] M0 (emH eI out) := by
  generalize hk : emH eI out = R
  replace hk := hk.symm
  unfold f_L_more at h
  show Ev (11) 348 0 [some (.ref 0), some (.int p1), some (.ref 231), none] [] M0 R
  refine ev_go kc_348 4 (i' := 4) (L' := [some (.ref 0), some (.int p1), some (.ref 231), none]) (st' := [.int p1, .ref 0, .int (0 : Int32), .ref 231]) (M' := M0) rfl ?_
  rcases o_th h with ⟨v1, M1, hc1, h⟩ | ⟨E1, M1, hc1, h⟩
  · refine ev_cl0 (ins := .invokevirtual 56) kc_348 rfl rfl (a := 125) (as := [.ref 0, .int p1]) (rest := [.int (0 : Int32), .ref 231]) rfl rfl (Cs.deep (c_X11_more hc1) (by decide)) ?_
    refine ev_go kc_348 1 (i' := 6) (L' := [some (.ref 0), some (.int p1), some (.ref 231), none]) (st' := [.long (v1).toInt64, .int (0 : Int32), .ref 231]) (M' := M1) rfl ?_
    obtain ⟨M2, hM2, h⟩ := o_wr h
    refine ev_ls kc_348 rfl rfl rfl hM2 ?_
    refine ev_go kc_348 2 (i' := 15) (L' := [some (.ref 0), some (.int p1), some (.ref 231), none]) (st' := [.int (0 : Int32)]) (M' := M2) rfl ?_
    obtain rfl := Option.some.inj h
    rw [hk]
    exact ev_ret kc_348 rfl rfl rfl
  ·
    rcases o_bif h with ⟨hb3, h⟩ | ⟨hb3, h⟩
    · obtain rfl := Nat.eq_of_beq_eq_true hb3
      obtain rfl := Option.some.inj h
      rw [hk]
      refine ev_clH (ins := .invokevirtual 56) (k1 := 1) (k2 := 0) (h := 8) (q := 3) kc_348 rfl rfl (a := 125) (as := [.ref 0, .int p1]) (rest := [.int (0 : Int32), .ref 231]) rfl rfl rfl rfl rfl rfl (Cs.deep (c_X11_more hc1) (by decide)) ?_
      refine ev_go kc_348 1 (i' := 10) (L' := [some (.ref 0), some (.int p1), some (.ref 231), none]) (st' := [.int (1 : Int32)]) (M' := M1) rfl ?_
      exact ev_ret kc_348 rfl rfl rfl
    rcases o_bif h with ⟨hb4, h⟩ | ⟨hb4, h⟩
    · obtain rfl := Nat.eq_of_beq_eq_true hb4
      obtain rfl := Option.some.inj h
      rw [hk]
      refine ev_clH (ins := .invokevirtual 56) (k1 := 1) (k2 := 0) (h := 11) (q := 3) kc_348 rfl rfl (a := 125) (as := [.ref 0, .int p1]) (rest := [.int (0 : Int32), .ref 231]) rfl rfl rfl rfl rfl rfl (Cs.deep (c_X11_more hc1) (by decide)) ?_
      refine ev_go kc_348 1 (i' := 13) (L' := [some (.ref 0), some (.int p1), some (.ref 231), none]) (st' := [.int (2 : Int32)]) (M' := M1) rfl ?_
      exact ev_ret kc_348 rfl rfl rfl
    cases h
/-- WakeTowerLaw.falls(LWakeTower;I[J)I: 349, H -/
theorem kc_349 : mKc 349 = k_L_falls := rfl
def f_L_falls (p1 : Int32) (M0 : mM) : Option (Int32 × mM × Nat) :=
  th (f_X11_falls p1 M0) (fun v1 M1 => wr (mst M1 231 (ix (0 : Int32)) v1) (fun M2 => some ((0 : Int32), M2, 0))) (fun E1 M1 => bif Nat.beq E1 2 then (some ((1 : Int32), M1, 1)) else (bif Nat.beq E1 4 then (some ((2 : Int32), M1, 1)) else (none)))
set_option maxRecDepth 8000 in
theorem c_L_falls {p1 : Int32} {M0 : mM} {out : (Int32 × mM × Nat)} (h : f_L_falls p1 M0 = some out) : Cs (12) 349 [.ref 0, .int p1, .ref 231] M0 (emH eI out) := by
  generalize hk : emH eI out = R
  replace hk := hk.symm
  unfold f_L_falls at h
  show Ev (12) 349 0 [some (.ref 0), some (.int p1), some (.ref 231), none] [] M0 R
  refine ev_go kc_349 4 (i' := 4) (L' := [some (.ref 0), some (.int p1), some (.ref 231), none]) (st' := [.int p1, .ref 0, .int (0 : Int32), .ref 231]) (M' := M0) rfl ?_
  rcases o_th h with ⟨v1, M1, hc1, h⟩ | ⟨E1, M1, hc1, h⟩
  · refine ev_cl0 (ins := .invokevirtual 59) kc_349 rfl rfl (a := 128) (as := [.ref 0, .int p1]) (rest := [.int (0 : Int32), .ref 231]) rfl rfl (Cs.deep (c_X11_falls hc1) (by decide)) ?_
    refine ev_go kc_349 1 (i' := 6) (L' := [some (.ref 0), some (.int p1), some (.ref 231), none]) (st' := [.long (v1).toInt64, .int (0 : Int32), .ref 231]) (M' := M1) rfl ?_
    obtain ⟨M2, hM2, h⟩ := o_wr h
    refine ev_ls kc_349 rfl rfl rfl hM2 ?_
    refine ev_go kc_349 2 (i' := 15) (L' := [some (.ref 0), some (.int p1), some (.ref 231), none]) (st' := [.int (0 : Int32)]) (M' := M2) rfl ?_
    obtain rfl := Option.some.inj h
    rw [hk]
    exact ev_ret kc_349 rfl rfl rfl
  ·
    rcases o_bif h with ⟨hb3, h⟩ | ⟨hb3, h⟩
    · obtain rfl := Nat.eq_of_beq_eq_true hb3
      obtain rfl := Option.some.inj h
      rw [hk]
      refine ev_clH (ins := .invokevirtual 59) (k1 := 1) (k2 := 0) (h := 8) (q := 3) kc_349 rfl rfl (a := 128) (as := [.ref 0, .int p1]) (rest := [.int (0 : Int32), .ref 231]) rfl rfl rfl rfl rfl rfl (Cs.deep (c_X11_falls hc1) (by decide)) ?_
      refine ev_go kc_349 1 (i' := 10) (L' := [some (.ref 0), some (.int p1), some (.ref 231), none]) (st' := [.int (1 : Int32)]) (M' := M1) rfl ?_
      exact ev_ret kc_349 rfl rfl rfl
    rcases o_bif h with ⟨hb4, h⟩ | ⟨hb4, h⟩
    · obtain rfl := Nat.eq_of_beq_eq_true hb4
      obtain rfl := Option.some.inj h
      rw [hk]
      refine ev_clH (ins := .invokevirtual 59) (k1 := 1) (k2 := 0) (h := 11) (q := 3) kc_349 rfl rfl (a := 128) (as := [.ref 0, .int p1]) (rest := [.int (0 : Int32), .ref 231]) rfl rfl rfl rfl rfl rfl (Cs.deep (c_X11_falls hc1) (by decide)) ?_
      refine ev_go kc_349 1 (i' := 13) (L' := [some (.ref 0), some (.int p1), some (.ref 231), none]) (st' := [.int (2 : Int32)]) (M' := M1) rfl ?_
      exact ev_ret kc_349 rfl rfl rfl
    cases h
/-- WakeTowerLaw.rounds(LWakeTower;I[J)I: 350, H -/
theorem kc_350 : mKc 350 = k_L_rounds := rfl
def f_L_rounds (p1 : Int32) (M0 : mM) : Option (Int32 × mM × Nat) :=
  th (f_X11_rounds p1 M0) (fun v1 M1 => wr (mst M1 231 (ix (0 : Int32)) v1) (fun M2 => some ((0 : Int32), M2, 0))) (fun E1 M1 => bif Nat.beq E1 2 then (some ((1 : Int32), M1, 1)) else (bif Nat.beq E1 4 then (some ((2 : Int32), M1, 1)) else (none)))
set_option maxRecDepth 8000 in
theorem c_L_rounds {p1 : Int32} {M0 : mM} {out : (Int32 × mM × Nat)} (h : f_L_rounds p1 M0 = some out) : Cs (12) 350 [.ref 0, .int p1, .ref 231] M0 (emH eI out) := by
  generalize hk : emH eI out = R
  replace hk := hk.symm
  unfold f_L_rounds at h
  show Ev (12) 350 0 [some (.ref 0), some (.int p1), some (.ref 231), none] [] M0 R
  refine ev_go kc_350 4 (i' := 4) (L' := [some (.ref 0), some (.int p1), some (.ref 231), none]) (st' := [.int p1, .ref 0, .int (0 : Int32), .ref 231]) (M' := M0) rfl ?_
  rcases o_th h with ⟨v1, M1, hc1, h⟩ | ⟨E1, M1, hc1, h⟩
  · refine ev_cl0 (ins := .invokevirtual 62) kc_350 rfl rfl (a := 129) (as := [.ref 0, .int p1]) (rest := [.int (0 : Int32), .ref 231]) rfl rfl (Cs.deep (c_X11_rounds hc1) (by decide)) ?_
    refine ev_go kc_350 1 (i' := 6) (L' := [some (.ref 0), some (.int p1), some (.ref 231), none]) (st' := [.long (v1).toInt64, .int (0 : Int32), .ref 231]) (M' := M1) rfl ?_
    obtain ⟨M2, hM2, h⟩ := o_wr h
    refine ev_ls kc_350 rfl rfl rfl hM2 ?_
    refine ev_go kc_350 2 (i' := 15) (L' := [some (.ref 0), some (.int p1), some (.ref 231), none]) (st' := [.int (0 : Int32)]) (M' := M2) rfl ?_
    obtain rfl := Option.some.inj h
    rw [hk]
    exact ev_ret kc_350 rfl rfl rfl
  ·
    rcases o_bif h with ⟨hb3, h⟩ | ⟨hb3, h⟩
    · obtain rfl := Nat.eq_of_beq_eq_true hb3
      obtain rfl := Option.some.inj h
      rw [hk]
      refine ev_clH (ins := .invokevirtual 62) (k1 := 1) (k2 := 0) (h := 8) (q := 3) kc_350 rfl rfl (a := 129) (as := [.ref 0, .int p1]) (rest := [.int (0 : Int32), .ref 231]) rfl rfl rfl rfl rfl rfl (Cs.deep (c_X11_rounds hc1) (by decide)) ?_
      refine ev_go kc_350 1 (i' := 10) (L' := [some (.ref 0), some (.int p1), some (.ref 231), none]) (st' := [.int (1 : Int32)]) (M' := M1) rfl ?_
      exact ev_ret kc_350 rfl rfl rfl
    rcases o_bif h with ⟨hb4, h⟩ | ⟨hb4, h⟩
    · obtain rfl := Nat.eq_of_beq_eq_true hb4
      obtain rfl := Option.some.inj h
      rw [hk]
      refine ev_clH (ins := .invokevirtual 62) (k1 := 1) (k2 := 0) (h := 11) (q := 3) kc_350 rfl rfl (a := 129) (as := [.ref 0, .int p1]) (rest := [.int (0 : Int32), .ref 231]) rfl rfl rfl rfl rfl rfl (Cs.deep (c_X11_rounds hc1) (by decide)) ?_
      refine ev_go kc_350 1 (i' := 13) (L' := [some (.ref 0), some (.int p1), some (.ref 231), none]) (st' := [.int (2 : Int32)]) (M' := M1) rfl ?_
      exact ev_ret kc_350 rfl rfl rfl
    cases h
/-- WakeTowerLaw.fallen(LWakeTower;II[J)I: 351, H -/
theorem kc_351 : mKc 351 = k_L_fallen := rfl
def f_L_fallen (p1 : Int32) (p2 : Int32) (M0 : mM) : Option (Int32 × mM × Nat) :=
  th (f_X11_fallen p1 p2 M0) (fun v1 M1 => wr (mst M1 231 (ix (0 : Int32)) v1) (fun M2 => some ((0 : Int32), M2, 0))) (fun E1 M1 => bif Nat.beq E1 2 then (some ((1 : Int32), M1, 1)) else (bif Nat.beq E1 4 then (some ((2 : Int32), M1, 1)) else (none)))
set_option maxRecDepth 8000 in
theorem c_L_fallen {p1 : Int32} {p2 : Int32} {M0 : mM} {out : (Int32 × mM × Nat)} (h : f_L_fallen p1 p2 M0 = some out) : Cs (12) 351 [.ref 0, .int p1, .int p2, .ref 231] M0 (emH eI out) := by
  generalize hk : emH eI out = R
  replace hk := hk.symm
  unfold f_L_fallen at h
  show Ev (12) 351 0 [some (.ref 0), some (.int p1), some (.int p2), some (.ref 231), none] [] M0 R
  refine ev_go kc_351 5 (i' := 5) (L' := [some (.ref 0), some (.int p1), some (.int p2), some (.ref 231), none]) (st' := [.int p2, .int p1, .ref 0, .int (0 : Int32), .ref 231]) (M' := M0) rfl ?_
  rcases o_th h with ⟨v1, M1, hc1, h⟩ | ⟨E1, M1, hc1, h⟩
  · refine ev_cl0 (ins := .invokevirtual 65) kc_351 rfl rfl (a := 130) (as := [.ref 0, .int p1, .int p2]) (rest := [.int (0 : Int32), .ref 231]) rfl rfl (Cs.deep (c_X11_fallen hc1) (by decide)) ?_
    refine ev_go kc_351 1 (i' := 7) (L' := [some (.ref 0), some (.int p1), some (.int p2), some (.ref 231), none]) (st' := [.long (v1).toInt64, .int (0 : Int32), .ref 231]) (M' := M1) rfl ?_
    obtain ⟨M2, hM2, h⟩ := o_wr h
    refine ev_ls kc_351 rfl rfl rfl hM2 ?_
    refine ev_go kc_351 2 (i' := 16) (L' := [some (.ref 0), some (.int p1), some (.int p2), some (.ref 231), none]) (st' := [.int (0 : Int32)]) (M' := M2) rfl ?_
    obtain rfl := Option.some.inj h
    rw [hk]
    exact ev_ret kc_351 rfl rfl rfl
  ·
    rcases o_bif h with ⟨hb3, h⟩ | ⟨hb3, h⟩
    · obtain rfl := Nat.eq_of_beq_eq_true hb3
      obtain rfl := Option.some.inj h
      rw [hk]
      refine ev_clH (ins := .invokevirtual 65) (k1 := 1) (k2 := 0) (h := 9) (q := 4) kc_351 rfl rfl (a := 130) (as := [.ref 0, .int p1, .int p2]) (rest := [.int (0 : Int32), .ref 231]) rfl rfl rfl rfl rfl rfl (Cs.deep (c_X11_fallen hc1) (by decide)) ?_
      refine ev_go kc_351 1 (i' := 11) (L' := [some (.ref 0), some (.int p1), some (.int p2), some (.ref 231), none]) (st' := [.int (1 : Int32)]) (M' := M1) rfl ?_
      exact ev_ret kc_351 rfl rfl rfl
    rcases o_bif h with ⟨hb4, h⟩ | ⟨hb4, h⟩
    · obtain rfl := Nat.eq_of_beq_eq_true hb4
      obtain rfl := Option.some.inj h
      rw [hk]
      refine ev_clH (ins := .invokevirtual 65) (k1 := 1) (k2 := 0) (h := 12) (q := 4) kc_351 rfl rfl (a := 130) (as := [.ref 0, .int p1, .int p2]) (rest := [.int (0 : Int32), .ref 231]) rfl rfl rfl rfl rfl rfl (Cs.deep (c_X11_fallen hc1) (by decide)) ?_
      refine ev_go kc_351 1 (i' := 14) (L' := [some (.ref 0), some (.int p1), some (.int p2), some (.ref 231), none]) (st' := [.int (2 : Int32)]) (M' := M1) rfl ?_
      exact ev_ret kc_351 rfl rfl rfl
    cases h
/-- WakeTowerLaw.guard(LWakeTower;I[J)I: 352, H -/
theorem kc_352 : mKc 352 = k_L_guard := rfl
def f_L_guard (p1 : Int32) (M0 : mM) : Option (Int32 × mM × Nat) :=
  th (f_X11_guard p1 M0) (fun v1 M1 => wr (mst M1 231 (ix (0 : Int32)) v1) (fun M2 => some ((0 : Int32), M2, 0))) (fun E1 M1 => bif Nat.beq E1 0 then (some ((1 : Int32), M1, 1)) else (none))
set_option maxRecDepth 8000 in
theorem c_L_guard {p1 : Int32} {M0 : mM} {out : (Int32 × mM × Nat)} (h : f_L_guard p1 M0 = some out) : Cs (14) 352 [.ref 0, .int p1, .ref 231] M0 (emH eI out) := by
  generalize hk : emH eI out = R
  replace hk := hk.symm
  unfold f_L_guard at h
  show Ev (14) 352 0 [some (.ref 0), some (.int p1), some (.ref 231), none] [] M0 R
  refine ev_go kc_352 4 (i' := 4) (L' := [some (.ref 0), some (.int p1), some (.ref 231), none]) (st' := [.int p1, .ref 0, .int (0 : Int32), .ref 231]) (M' := M0) rfl ?_
  rcases o_th h with ⟨v1, M1, hc1, h⟩ | ⟨E1, M1, hc1, h⟩
  · refine ev_cl0 (ins := .invokevirtual 68) kc_352 rfl rfl (a := 135) (as := [.ref 0, .int p1]) (rest := [.int (0 : Int32), .ref 231]) rfl rfl (Cs.deep (c_X11_guard hc1) (by decide)) ?_
    refine ev_go kc_352 1 (i' := 6) (L' := [some (.ref 0), some (.int p1), some (.ref 231), none]) (st' := [.long (v1).toInt64, .int (0 : Int32), .ref 231]) (M' := M1) rfl ?_
    obtain ⟨M2, hM2, h⟩ := o_wr h
    refine ev_ls kc_352 rfl rfl rfl hM2 ?_
    refine ev_go kc_352 2 (i' := 12) (L' := [some (.ref 0), some (.int p1), some (.ref 231), none]) (st' := [.int (0 : Int32)]) (M' := M2) rfl ?_
    obtain rfl := Option.some.inj h
    rw [hk]
    exact ev_ret kc_352 rfl rfl rfl
  ·
    rcases o_bif h with ⟨hb3, h⟩ | ⟨hb3, h⟩
    · obtain rfl := Nat.eq_of_beq_eq_true hb3
      obtain rfl := Option.some.inj h
      rw [hk]
      refine ev_clH (ins := .invokevirtual 68) (k1 := 1) (k2 := 0) (h := 8) (q := 3) kc_352 rfl rfl (a := 135) (as := [.ref 0, .int p1]) (rest := [.int (0 : Int32), .ref 231]) rfl rfl rfl rfl rfl rfl (Cs.deep (c_X11_guard hc1) (by decide)) ?_
      refine ev_go kc_352 1 (i' := 10) (L' := [some (.ref 0), some (.int p1), some (.ref 231), none]) (st' := [.int (1 : Int32)]) (M' := M1) rfl ?_
      exact ev_ret kc_352 rfl rfl rfl
    cases h
/-- WakeTowerLaw.solo(LWakeTower;[J)I: 353, H -/
theorem kc_353 : mKc 353 = k_L_solo := rfl
def f_L_solo  (M0 : mM) : Option (Int32 × mM × Nat) :=
  th (f_X11_solo M0) (fun v1 M1 => wr (mst M1 231 (ix (0 : Int32)) v1) (fun M2 => some ((0 : Int32), M2, 0))) (fun E1 M1 => bif Nat.beq E1 0 then (some ((1 : Int32), M1, 1)) else (none))
set_option maxRecDepth 8000 in
theorem c_L_solo  {M0 : mM} {out : (Int32 × mM × Nat)} (h : f_L_solo M0 = some out) : Cs (13) 353 [.ref 0, .ref 231] M0 (emH eI out) := by
  generalize hk : emH eI out = R
  replace hk := hk.symm
  unfold f_L_solo at h
  show Ev (13) 353 0 [some (.ref 0), some (.ref 231), none] [] M0 R
  refine ev_go kc_353 3 (i' := 3) (L' := [some (.ref 0), some (.ref 231), none]) (st' := [.ref 0, .int (0 : Int32), .ref 231]) (M' := M0) rfl ?_
  rcases o_th h with ⟨v1, M1, hc1, h⟩ | ⟨E1, M1, hc1, h⟩
  · refine ev_cl0 (ins := .invokevirtual 71) kc_353 rfl rfl (a := 136) (as := [.ref 0]) (rest := [.int (0 : Int32), .ref 231]) rfl rfl (Cs.deep (c_X11_solo hc1) (by decide)) ?_
    refine ev_go kc_353 1 (i' := 5) (L' := [some (.ref 0), some (.ref 231), none]) (st' := [.long (v1).toInt64, .int (0 : Int32), .ref 231]) (M' := M1) rfl ?_
    obtain ⟨M2, hM2, h⟩ := o_wr h
    refine ev_ls kc_353 rfl rfl rfl hM2 ?_
    refine ev_go kc_353 2 (i' := 11) (L' := [some (.ref 0), some (.ref 231), none]) (st' := [.int (0 : Int32)]) (M' := M2) rfl ?_
    obtain rfl := Option.some.inj h
    rw [hk]
    exact ev_ret kc_353 rfl rfl rfl
  ·
    rcases o_bif h with ⟨hb3, h⟩ | ⟨hb3, h⟩
    · obtain rfl := Nat.eq_of_beq_eq_true hb3
      obtain rfl := Option.some.inj h
      rw [hk]
      refine ev_clH (ins := .invokevirtual 71) (k1 := 1) (k2 := 0) (h := 7) (q := 2) kc_353 rfl rfl (a := 136) (as := [.ref 0]) (rest := [.int (0 : Int32), .ref 231]) rfl rfl rfl rfl rfl rfl (Cs.deep (c_X11_solo hc1) (by decide)) ?_
      refine ev_go kc_353 1 (i' := 9) (L' := [some (.ref 0), some (.ref 231), none]) (st' := [.int (1 : Int32)]) (M' := M1) rfl ?_
      exact ev_ret kc_353 rfl rfl rfl
    cases h
/-- WakeTowerLaw.feels(LWakeTower;I[J)I: 354, H -/
theorem kc_354 : mKc 354 = k_L_feels := rfl
def f_L_feels (p1 : Int32) (M0 : mM) : Option (Int32 × mM × Nat) :=
  th (f_X11_feels p1 M0) (fun v1 M1 => wr (mst M1 231 (ix (0 : Int32)) v1) (fun M2 => some ((0 : Int32), M2, 0))) (fun E1 M1 => bif Nat.beq E1 2 then (some ((1 : Int32), M1, 1)) else (bif Nat.beq E1 4 then (some ((2 : Int32), M1, 1)) else (none)))
set_option maxRecDepth 8000 in
theorem c_L_feels {p1 : Int32} {M0 : mM} {out : (Int32 × mM × Nat)} (h : f_L_feels p1 M0 = some out) : Cs (11) 354 [.ref 0, .int p1, .ref 231] M0 (emH eI out) := by
  generalize hk : emH eI out = R
  replace hk := hk.symm
  unfold f_L_feels at h
  show Ev (11) 354 0 [some (.ref 0), some (.int p1), some (.ref 231), none] [] M0 R
  refine ev_go kc_354 4 (i' := 4) (L' := [some (.ref 0), some (.int p1), some (.ref 231), none]) (st' := [.int p1, .ref 0, .int (0 : Int32), .ref 231]) (M' := M0) rfl ?_
  rcases o_th h with ⟨v1, M1, hc1, h⟩ | ⟨E1, M1, hc1, h⟩
  · refine ev_cl0 (ins := .invokevirtual 74) kc_354 rfl rfl (a := 137) (as := [.ref 0, .int p1]) (rest := [.int (0 : Int32), .ref 231]) rfl rfl (Cs.deep (c_X11_feels hc1) (by decide)) ?_
    refine ev_go kc_354 1 (i' := 6) (L' := [some (.ref 0), some (.int p1), some (.ref 231), none]) (st' := [.long (v1).toInt64, .int (0 : Int32), .ref 231]) (M' := M1) rfl ?_
    obtain ⟨M2, hM2, h⟩ := o_wr h
    refine ev_ls kc_354 rfl rfl rfl hM2 ?_
    refine ev_go kc_354 2 (i' := 15) (L' := [some (.ref 0), some (.int p1), some (.ref 231), none]) (st' := [.int (0 : Int32)]) (M' := M2) rfl ?_
    obtain rfl := Option.some.inj h
    rw [hk]
    exact ev_ret kc_354 rfl rfl rfl
  ·
    rcases o_bif h with ⟨hb3, h⟩ | ⟨hb3, h⟩
    · obtain rfl := Nat.eq_of_beq_eq_true hb3
      obtain rfl := Option.some.inj h
      rw [hk]
      refine ev_clH (ins := .invokevirtual 74) (k1 := 1) (k2 := 0) (h := 8) (q := 3) kc_354 rfl rfl (a := 137) (as := [.ref 0, .int p1]) (rest := [.int (0 : Int32), .ref 231]) rfl rfl rfl rfl rfl rfl (Cs.deep (c_X11_feels hc1) (by decide)) ?_
      refine ev_go kc_354 1 (i' := 10) (L' := [some (.ref 0), some (.int p1), some (.ref 231), none]) (st' := [.int (1 : Int32)]) (M' := M1) rfl ?_
      exact ev_ret kc_354 rfl rfl rfl
    rcases o_bif h with ⟨hb4, h⟩ | ⟨hb4, h⟩
    · obtain rfl := Nat.eq_of_beq_eq_true hb4
      obtain rfl := Option.some.inj h
      rw [hk]
      refine ev_clH (ins := .invokevirtual 74) (k1 := 1) (k2 := 0) (h := 11) (q := 3) kc_354 rfl rfl (a := 137) (as := [.ref 0, .int p1]) (rest := [.int (0 : Int32), .ref 231]) rfl rfl rfl rfl rfl rfl (Cs.deep (c_X11_feels hc1) (by decide)) ?_
      refine ev_go kc_354 1 (i' := 13) (L' := [some (.ref 0), some (.int p1), some (.ref 231), none]) (st' := [.int (2 : Int32)]) (M' := M1) rfl ?_
      exact ev_ret kc_354 rfl rfl rfl
    cases h
/-- WakeTowerLaw.sure(LWakeTower;I[J)I: 355, H -/
theorem kc_355 : mKc 355 = k_L_sure := rfl
def f_L_sure (p1 : Int32) (M0 : mM) : Option (Int32 × mM × Nat) :=
  th (f_X11_sure p1 M0) (fun v1 M1 => wr (mst M1 231 (ix (0 : Int32)) v1) (fun M2 => some ((0 : Int32), M2, 0))) (fun E1 M1 => bif Nat.beq E1 2 then (some ((1 : Int32), M1, 1)) else (bif Nat.beq E1 4 then (some ((2 : Int32), M1, 1)) else (none)))
set_option maxRecDepth 8000 in
theorem c_L_sure {p1 : Int32} {M0 : mM} {out : (Int32 × mM × Nat)} (h : f_L_sure p1 M0 = some out) : Cs (11) 355 [.ref 0, .int p1, .ref 231] M0 (emH eI out) := by
  generalize hk : emH eI out = R
  replace hk := hk.symm
  unfold f_L_sure at h
  show Ev (11) 355 0 [some (.ref 0), some (.int p1), some (.ref 231), none] [] M0 R
  refine ev_go kc_355 4 (i' := 4) (L' := [some (.ref 0), some (.int p1), some (.ref 231), none]) (st' := [.int p1, .ref 0, .int (0 : Int32), .ref 231]) (M' := M0) rfl ?_
  rcases o_th h with ⟨v1, M1, hc1, h⟩ | ⟨E1, M1, hc1, h⟩
  · refine ev_cl0 (ins := .invokevirtual 77) kc_355 rfl rfl (a := 138) (as := [.ref 0, .int p1]) (rest := [.int (0 : Int32), .ref 231]) rfl rfl (Cs.deep (c_X11_sure hc1) (by decide)) ?_
    refine ev_go kc_355 1 (i' := 6) (L' := [some (.ref 0), some (.int p1), some (.ref 231), none]) (st' := [.long (v1).toInt64, .int (0 : Int32), .ref 231]) (M' := M1) rfl ?_
    obtain ⟨M2, hM2, h⟩ := o_wr h
    refine ev_ls kc_355 rfl rfl rfl hM2 ?_
    refine ev_go kc_355 2 (i' := 15) (L' := [some (.ref 0), some (.int p1), some (.ref 231), none]) (st' := [.int (0 : Int32)]) (M' := M2) rfl ?_
    obtain rfl := Option.some.inj h
    rw [hk]
    exact ev_ret kc_355 rfl rfl rfl
  ·
    rcases o_bif h with ⟨hb3, h⟩ | ⟨hb3, h⟩
    · obtain rfl := Nat.eq_of_beq_eq_true hb3
      obtain rfl := Option.some.inj h
      rw [hk]
      refine ev_clH (ins := .invokevirtual 77) (k1 := 1) (k2 := 0) (h := 8) (q := 3) kc_355 rfl rfl (a := 138) (as := [.ref 0, .int p1]) (rest := [.int (0 : Int32), .ref 231]) rfl rfl rfl rfl rfl rfl (Cs.deep (c_X11_sure hc1) (by decide)) ?_
      refine ev_go kc_355 1 (i' := 10) (L' := [some (.ref 0), some (.int p1), some (.ref 231), none]) (st' := [.int (1 : Int32)]) (M' := M1) rfl ?_
      exact ev_ret kc_355 rfl rfl rfl
    rcases o_bif h with ⟨hb4, h⟩ | ⟨hb4, h⟩
    · obtain rfl := Nat.eq_of_beq_eq_true hb4
      obtain rfl := Option.some.inj h
      rw [hk]
      refine ev_clH (ins := .invokevirtual 77) (k1 := 1) (k2 := 0) (h := 11) (q := 3) kc_355 rfl rfl (a := 138) (as := [.ref 0, .int p1]) (rest := [.int (0 : Int32), .ref 231]) rfl rfl rfl rfl rfl rfl (Cs.deep (c_X11_sure hc1) (by decide)) ?_
      refine ev_go kc_355 1 (i' := 13) (L' := [some (.ref 0), some (.int p1), some (.ref 231), none]) (st' := [.int (2 : Int32)]) (M' := M1) rfl ?_
      exact ev_ret kc_355 rfl rfl rfl
    cases h
/-- WakeTowerLaw.free(LWakeTower;I[J)I: 356, H -/
theorem kc_356 : mKc 356 = k_L_free := rfl
def f_L_free (p1 : Int32) (M0 : mM) : Option (Int32 × mM × Nat) :=
  th (f_X11_free p1 M0) (fun v1 M1 => wr (mst M1 231 (ix (0 : Int32)) v1) (fun M2 => some ((0 : Int32), M2, 0))) (fun E1 M1 => bif Nat.beq E1 2 then (some ((1 : Int32), M1, 1)) else (bif Nat.beq E1 4 then (some ((2 : Int32), M1, 1)) else (none)))
set_option maxRecDepth 8000 in
theorem c_L_free {p1 : Int32} {M0 : mM} {out : (Int32 × mM × Nat)} (h : f_L_free p1 M0 = some out) : Cs (11) 356 [.ref 0, .int p1, .ref 231] M0 (emH eI out) := by
  generalize hk : emH eI out = R
  replace hk := hk.symm
  unfold f_L_free at h
  show Ev (11) 356 0 [some (.ref 0), some (.int p1), some (.ref 231), none] [] M0 R
  refine ev_go kc_356 4 (i' := 4) (L' := [some (.ref 0), some (.int p1), some (.ref 231), none]) (st' := [.int p1, .ref 0, .int (0 : Int32), .ref 231]) (M' := M0) rfl ?_
  rcases o_th h with ⟨v1, M1, hc1, h⟩ | ⟨E1, M1, hc1, h⟩
  · refine ev_cl0 (ins := .invokevirtual 80) kc_356 rfl rfl (a := 139) (as := [.ref 0, .int p1]) (rest := [.int (0 : Int32), .ref 231]) rfl rfl (Cs.deep (c_X11_free hc1) (by decide)) ?_
    refine ev_go kc_356 1 (i' := 6) (L' := [some (.ref 0), some (.int p1), some (.ref 231), none]) (st' := [.long (v1).toInt64, .int (0 : Int32), .ref 231]) (M' := M1) rfl ?_
    obtain ⟨M2, hM2, h⟩ := o_wr h
    refine ev_ls kc_356 rfl rfl rfl hM2 ?_
    refine ev_go kc_356 2 (i' := 15) (L' := [some (.ref 0), some (.int p1), some (.ref 231), none]) (st' := [.int (0 : Int32)]) (M' := M2) rfl ?_
    obtain rfl := Option.some.inj h
    rw [hk]
    exact ev_ret kc_356 rfl rfl rfl
  ·
    rcases o_bif h with ⟨hb3, h⟩ | ⟨hb3, h⟩
    · obtain rfl := Nat.eq_of_beq_eq_true hb3
      obtain rfl := Option.some.inj h
      rw [hk]
      refine ev_clH (ins := .invokevirtual 80) (k1 := 1) (k2 := 0) (h := 8) (q := 3) kc_356 rfl rfl (a := 139) (as := [.ref 0, .int p1]) (rest := [.int (0 : Int32), .ref 231]) rfl rfl rfl rfl rfl rfl (Cs.deep (c_X11_free hc1) (by decide)) ?_
      refine ev_go kc_356 1 (i' := 10) (L' := [some (.ref 0), some (.int p1), some (.ref 231), none]) (st' := [.int (1 : Int32)]) (M' := M1) rfl ?_
      exact ev_ret kc_356 rfl rfl rfl
    rcases o_bif h with ⟨hb4, h⟩ | ⟨hb4, h⟩
    · obtain rfl := Nat.eq_of_beq_eq_true hb4
      obtain rfl := Option.some.inj h
      rw [hk]
      refine ev_clH (ins := .invokevirtual 80) (k1 := 1) (k2 := 0) (h := 11) (q := 3) kc_356 rfl rfl (a := 139) (as := [.ref 0, .int p1]) (rest := [.int (0 : Int32), .ref 231]) rfl rfl rfl rfl rfl rfl (Cs.deep (c_X11_free hc1) (by decide)) ?_
      refine ev_go kc_356 1 (i' := 13) (L' := [some (.ref 0), some (.int p1), some (.ref 231), none]) (st' := [.int (2 : Int32)]) (M' := M1) rfl ?_
      exact ev_ret kc_356 rfl rfl rfl
    cases h
/-- WakeTowerLaw.both(LWakeTower;II[J)I: 357, H -/
theorem kc_357 : mKc 357 = k_L_both := rfl
def f_L_both (p1 : Int32) (p2 : Int32) (M0 : mM) : Option (Int32 × mM × Nat) :=
  th (f_X11_both p1 p2 M0) (fun v1 M1 => wr (mst M1 231 (ix (0 : Int32)) v1) (fun M2 => some ((0 : Int32), M2, 0))) (fun E1 M1 => bif Nat.beq E1 2 then (some ((1 : Int32), M1, 1)) else (bif Nat.beq E1 0 then (some ((2 : Int32), M1, 1)) else (bif Nat.beq E1 4 then (some ((3 : Int32), M1, 1)) else (none))))
set_option maxRecDepth 8000 in
theorem c_L_both {p1 : Int32} {p2 : Int32} {M0 : mM} {out : (Int32 × mM × Nat)} (h : f_L_both p1 p2 M0 = some out) : Cs (11) 357 [.ref 0, .int p1, .int p2, .ref 231] M0 (emH eI out) := by
  generalize hk : emH eI out = R
  replace hk := hk.symm
  unfold f_L_both at h
  show Ev (11) 357 0 [some (.ref 0), some (.int p1), some (.int p2), some (.ref 231), none] [] M0 R
  refine ev_go kc_357 5 (i' := 5) (L' := [some (.ref 0), some (.int p1), some (.int p2), some (.ref 231), none]) (st' := [.int p2, .int p1, .ref 0, .int (0 : Int32), .ref 231]) (M' := M0) rfl ?_
  rcases o_th h with ⟨v1, M1, hc1, h⟩ | ⟨E1, M1, hc1, h⟩
  · refine ev_cl0 (ins := .invokevirtual 83) kc_357 rfl rfl (a := 140) (as := [.ref 0, .int p1, .int p2]) (rest := [.int (0 : Int32), .ref 231]) rfl rfl (Cs.deep (c_X11_both hc1) (by decide)) ?_
    refine ev_go kc_357 1 (i' := 7) (L' := [some (.ref 0), some (.int p1), some (.int p2), some (.ref 231), none]) (st' := [.long (v1).toInt64, .int (0 : Int32), .ref 231]) (M' := M1) rfl ?_
    obtain ⟨M2, hM2, h⟩ := o_wr h
    refine ev_ls kc_357 rfl rfl rfl hM2 ?_
    refine ev_go kc_357 2 (i' := 19) (L' := [some (.ref 0), some (.int p1), some (.int p2), some (.ref 231), none]) (st' := [.int (0 : Int32)]) (M' := M2) rfl ?_
    obtain rfl := Option.some.inj h
    rw [hk]
    exact ev_ret kc_357 rfl rfl rfl
  ·
    rcases o_bif h with ⟨hb3, h⟩ | ⟨hb3, h⟩
    · obtain rfl := Nat.eq_of_beq_eq_true hb3
      obtain rfl := Option.some.inj h
      rw [hk]
      refine ev_clH (ins := .invokevirtual 83) (k1 := 1) (k2 := 0) (h := 9) (q := 4) kc_357 rfl rfl (a := 140) (as := [.ref 0, .int p1, .int p2]) (rest := [.int (0 : Int32), .ref 231]) rfl rfl rfl rfl rfl rfl (Cs.deep (c_X11_both hc1) (by decide)) ?_
      refine ev_go kc_357 1 (i' := 11) (L' := [some (.ref 0), some (.int p1), some (.int p2), some (.ref 231), none]) (st' := [.int (1 : Int32)]) (M' := M1) rfl ?_
      exact ev_ret kc_357 rfl rfl rfl
    rcases o_bif h with ⟨hb4, h⟩ | ⟨hb4, h⟩
    · obtain rfl := Nat.eq_of_beq_eq_true hb4
      obtain rfl := Option.some.inj h
      rw [hk]
      refine ev_clH (ins := .invokevirtual 83) (k1 := 1) (k2 := 0) (h := 12) (q := 4) kc_357 rfl rfl (a := 140) (as := [.ref 0, .int p1, .int p2]) (rest := [.int (0 : Int32), .ref 231]) rfl rfl rfl rfl rfl rfl (Cs.deep (c_X11_both hc1) (by decide)) ?_
      refine ev_go kc_357 1 (i' := 14) (L' := [some (.ref 0), some (.int p1), some (.int p2), some (.ref 231), none]) (st' := [.int (2 : Int32)]) (M' := M1) rfl ?_
      exact ev_ret kc_357 rfl rfl rfl
    rcases o_bif h with ⟨hb5, h⟩ | ⟨hb5, h⟩
    · obtain rfl := Nat.eq_of_beq_eq_true hb5
      obtain rfl := Option.some.inj h
      rw [hk]
      refine ev_clH (ins := .invokevirtual 83) (k1 := 1) (k2 := 0) (h := 15) (q := 4) kc_357 rfl rfl (a := 140) (as := [.ref 0, .int p1, .int p2]) (rest := [.int (0 : Int32), .ref 231]) rfl rfl rfl rfl rfl rfl (Cs.deep (c_X11_both hc1) (by decide)) ?_
      refine ev_go kc_357 1 (i' := 17) (L' := [some (.ref 0), some (.int p1), some (.int p2), some (.ref 231), none]) (st' := [.int (3 : Int32)]) (M' := M1) rfl ?_
      exact ev_ret kc_357 rfl rfl rfl
    cases h
/-- WakeTowerLaw.ask(LWakeTower;I[J)I: 358, H -/
theorem kc_358 : mKc 358 = k_L_ask := rfl
def f_L_ask (p1 : Int32) (M0 : mM) : Option (Int32 × mM × Nat) :=
  th (f_X11_ask p1 M0) (fun v1 M1 => wr (mst M1 231 (ix (0 : Int32)) v1) (fun M2 => some ((0 : Int32), M2, 0))) (fun E1 M1 => bif Nat.beq E1 2 then (some ((1 : Int32), M1, 1)) else (bif Nat.beq E1 4 then (some ((2 : Int32), M1, 1)) else (none)))
set_option maxRecDepth 8000 in
theorem c_L_ask {p1 : Int32} {M0 : mM} {out : (Int32 × mM × Nat)} (h : f_L_ask p1 M0 = some out) : Cs (11) 358 [.ref 0, .int p1, .ref 231] M0 (emH eI out) := by
  generalize hk : emH eI out = R
  replace hk := hk.symm
  unfold f_L_ask at h
  show Ev (11) 358 0 [some (.ref 0), some (.int p1), some (.ref 231), none] [] M0 R
  refine ev_go kc_358 4 (i' := 4) (L' := [some (.ref 0), some (.int p1), some (.ref 231), none]) (st' := [.int p1, .ref 0, .int (0 : Int32), .ref 231]) (M' := M0) rfl ?_
  rcases o_th h with ⟨v1, M1, hc1, h⟩ | ⟨E1, M1, hc1, h⟩
  · refine ev_cl0 (ins := .invokevirtual 86) kc_358 rfl rfl (a := 141) (as := [.ref 0, .int p1]) (rest := [.int (0 : Int32), .ref 231]) rfl rfl (Cs.deep (c_X11_ask hc1) (by decide)) ?_
    refine ev_go kc_358 1 (i' := 6) (L' := [some (.ref 0), some (.int p1), some (.ref 231), none]) (st' := [.long (v1).toInt64, .int (0 : Int32), .ref 231]) (M' := M1) rfl ?_
    obtain ⟨M2, hM2, h⟩ := o_wr h
    refine ev_ls kc_358 rfl rfl rfl hM2 ?_
    refine ev_go kc_358 2 (i' := 15) (L' := [some (.ref 0), some (.int p1), some (.ref 231), none]) (st' := [.int (0 : Int32)]) (M' := M2) rfl ?_
    obtain rfl := Option.some.inj h
    rw [hk]
    exact ev_ret kc_358 rfl rfl rfl
  ·
    rcases o_bif h with ⟨hb3, h⟩ | ⟨hb3, h⟩
    · obtain rfl := Nat.eq_of_beq_eq_true hb3
      obtain rfl := Option.some.inj h
      rw [hk]
      refine ev_clH (ins := .invokevirtual 86) (k1 := 1) (k2 := 0) (h := 8) (q := 3) kc_358 rfl rfl (a := 141) (as := [.ref 0, .int p1]) (rest := [.int (0 : Int32), .ref 231]) rfl rfl rfl rfl rfl rfl (Cs.deep (c_X11_ask hc1) (by decide)) ?_
      refine ev_go kc_358 1 (i' := 10) (L' := [some (.ref 0), some (.int p1), some (.ref 231), none]) (st' := [.int (1 : Int32)]) (M' := M1) rfl ?_
      exact ev_ret kc_358 rfl rfl rfl
    rcases o_bif h with ⟨hb4, h⟩ | ⟨hb4, h⟩
    · obtain rfl := Nat.eq_of_beq_eq_true hb4
      obtain rfl := Option.some.inj h
      rw [hk]
      refine ev_clH (ins := .invokevirtual 86) (k1 := 1) (k2 := 0) (h := 11) (q := 3) kc_358 rfl rfl (a := 141) (as := [.ref 0, .int p1]) (rest := [.int (0 : Int32), .ref 231]) rfl rfl rfl rfl rfl rfl (Cs.deep (c_X11_ask hc1) (by decide)) ?_
      refine ev_go kc_358 1 (i' := 13) (L' := [some (.ref 0), some (.int p1), some (.ref 231), none]) (st' := [.int (2 : Int32)]) (M' := M1) rfl ?_
      exact ev_ret kc_358 rfl rfl rfl
    cases h
/-- WakeTowerLaw.pushes(LWakeTower;II[J)I: 359, H -/
theorem kc_359 : mKc 359 = k_L_pushes := rfl
def f_L_pushes (p1 : Int32) (p2 : Int32) (M0 : mM) : Option (Int32 × mM × Nat) :=
  th (f_X11_pushes p1 p2 M0) (fun v1 M1 => wr (mst M1 231 (ix (0 : Int32)) v1) (fun M2 => some ((0 : Int32), M2, 0))) (fun E1 M1 => bif Nat.beq E1 2 then (some ((1 : Int32), M1, 1)) else (none))
set_option maxRecDepth 8000 in
theorem c_L_pushes {p1 : Int32} {p2 : Int32} {M0 : mM} {out : (Int32 × mM × Nat)} (h : f_L_pushes p1 p2 M0 = some out) : Cs (10) 359 [.ref 0, .int p1, .int p2, .ref 231] M0 (emH eI out) := by
  generalize hk : emH eI out = R
  replace hk := hk.symm
  unfold f_L_pushes at h
  show Ev (10) 359 0 [some (.ref 0), some (.int p1), some (.int p2), some (.ref 231), none] [] M0 R
  refine ev_go kc_359 5 (i' := 5) (L' := [some (.ref 0), some (.int p1), some (.int p2), some (.ref 231), none]) (st' := [.int p2, .int p1, .ref 0, .int (0 : Int32), .ref 231]) (M' := M0) rfl ?_
  rcases o_th h with ⟨v1, M1, hc1, h⟩ | ⟨E1, M1, hc1, h⟩
  · refine ev_cl0 (ins := .invokevirtual 89) kc_359 rfl rfl (a := 142) (as := [.ref 0, .int p1, .int p2]) (rest := [.int (0 : Int32), .ref 231]) rfl rfl (Cs.deep (c_X11_pushes hc1) (by decide)) ?_
    refine ev_go kc_359 1 (i' := 7) (L' := [some (.ref 0), some (.int p1), some (.int p2), some (.ref 231), none]) (st' := [.long (v1).toInt64, .int (0 : Int32), .ref 231]) (M' := M1) rfl ?_
    obtain ⟨M2, hM2, h⟩ := o_wr h
    refine ev_ls kc_359 rfl rfl rfl hM2 ?_
    refine ev_go kc_359 2 (i' := 13) (L' := [some (.ref 0), some (.int p1), some (.int p2), some (.ref 231), none]) (st' := [.int (0 : Int32)]) (M' := M2) rfl ?_
    obtain rfl := Option.some.inj h
    rw [hk]
    exact ev_ret kc_359 rfl rfl rfl
  ·
    rcases o_bif h with ⟨hb3, h⟩ | ⟨hb3, h⟩
    · obtain rfl := Nat.eq_of_beq_eq_true hb3
      obtain rfl := Option.some.inj h
      rw [hk]
      refine ev_clH (ins := .invokevirtual 89) (k1 := 1) (k2 := 0) (h := 9) (q := 4) kc_359 rfl rfl (a := 142) (as := [.ref 0, .int p1, .int p2]) (rest := [.int (0 : Int32), .ref 231]) rfl rfl rfl rfl rfl rfl (Cs.deep (c_X11_pushes hc1) (by decide)) ?_
      refine ev_go kc_359 1 (i' := 11) (L' := [some (.ref 0), some (.int p1), some (.int p2), some (.ref 231), none]) (st' := [.int (1 : Int32)]) (M' := M1) rfl ?_
      exact ev_ret kc_359 rfl rfl rfl
    cases h
/-- WakeTowerLaw.tell(LWakeTower;I[J)I: 360, H -/
theorem kc_360 : mKc 360 = k_L_tell := rfl
def f_L_tell (p1 : Int32) (M0 : mM) : Option (Int32 × mM × Nat) :=
  th (f_X11_tell p1 M0) (fun v1 M1 => wr (mst M1 231 (ix (0 : Int32)) v1) (fun M2 => some ((0 : Int32), M2, 0))) (fun E1 M1 => bif Nat.beq E1 2 then (some ((1 : Int32), M1, 1)) else (none))
set_option maxRecDepth 8000 in
theorem c_L_tell {p1 : Int32} {M0 : mM} {out : (Int32 × mM × Nat)} (h : f_L_tell p1 M0 = some out) : Cs (10) 360 [.ref 0, .int p1, .ref 231] M0 (emH eI out) := by
  generalize hk : emH eI out = R
  replace hk := hk.symm
  unfold f_L_tell at h
  show Ev (10) 360 0 [some (.ref 0), some (.int p1), some (.ref 231), none] [] M0 R
  refine ev_go kc_360 4 (i' := 4) (L' := [some (.ref 0), some (.int p1), some (.ref 231), none]) (st' := [.int p1, .ref 0, .int (0 : Int32), .ref 231]) (M' := M0) rfl ?_
  rcases o_th h with ⟨v1, M1, hc1, h⟩ | ⟨E1, M1, hc1, h⟩
  · refine ev_cl0 (ins := .invokevirtual 92) kc_360 rfl rfl (a := 143) (as := [.ref 0, .int p1]) (rest := [.int (0 : Int32), .ref 231]) rfl rfl (Cs.deep (c_X11_tell hc1) (by decide)) ?_
    refine ev_go kc_360 1 (i' := 6) (L' := [some (.ref 0), some (.int p1), some (.ref 231), none]) (st' := [.long (v1).toInt64, .int (0 : Int32), .ref 231]) (M' := M1) rfl ?_
    obtain ⟨M2, hM2, h⟩ := o_wr h
    refine ev_ls kc_360 rfl rfl rfl hM2 ?_
    refine ev_go kc_360 2 (i' := 12) (L' := [some (.ref 0), some (.int p1), some (.ref 231), none]) (st' := [.int (0 : Int32)]) (M' := M2) rfl ?_
    obtain rfl := Option.some.inj h
    rw [hk]
    exact ev_ret kc_360 rfl rfl rfl
  ·
    rcases o_bif h with ⟨hb3, h⟩ | ⟨hb3, h⟩
    · obtain rfl := Nat.eq_of_beq_eq_true hb3
      obtain rfl := Option.some.inj h
      rw [hk]
      refine ev_clH (ins := .invokevirtual 92) (k1 := 1) (k2 := 0) (h := 8) (q := 3) kc_360 rfl rfl (a := 143) (as := [.ref 0, .int p1]) (rest := [.int (0 : Int32), .ref 231]) rfl rfl rfl rfl rfl rfl (Cs.deep (c_X11_tell hc1) (by decide)) ?_
      refine ev_go kc_360 1 (i' := 10) (L' := [some (.ref 0), some (.int p1), some (.ref 231), none]) (st' := [.int (1 : Int32)]) (M' := M1) rfl ?_
      exact ev_ret kc_360 rfl rfl rfl
    cases h
/-- WakeTowerLaw.cuts(LWakeTower;I[J)I: 361, H -/
theorem kc_361 : mKc 361 = k_L_cuts := rfl
def f_L_cuts (p1 : Int32) (M0 : mM) : Option (Int32 × mM × Nat) :=
  th (f_X11_cuts p1 M0) (fun v1 M1 => wr (mst M1 231 (ix (0 : Int32)) v1) (fun M2 => some ((0 : Int32), M2, 0))) (fun E1 M1 => bif Nat.beq E1 2 then (some ((1 : Int32), M1, 1)) else (none))
set_option maxRecDepth 8000 in
theorem c_L_cuts {p1 : Int32} {M0 : mM} {out : (Int32 × mM × Nat)} (h : f_L_cuts p1 M0 = some out) : Cs (10) 361 [.ref 0, .int p1, .ref 231] M0 (emH eI out) := by
  generalize hk : emH eI out = R
  replace hk := hk.symm
  unfold f_L_cuts at h
  show Ev (10) 361 0 [some (.ref 0), some (.int p1), some (.ref 231), none] [] M0 R
  refine ev_go kc_361 4 (i' := 4) (L' := [some (.ref 0), some (.int p1), some (.ref 231), none]) (st' := [.int p1, .ref 0, .int (0 : Int32), .ref 231]) (M' := M0) rfl ?_
  rcases o_th h with ⟨v1, M1, hc1, h⟩ | ⟨E1, M1, hc1, h⟩
  · refine ev_cl0 (ins := .invokevirtual 95) kc_361 rfl rfl (a := 145) (as := [.ref 0, .int p1]) (rest := [.int (0 : Int32), .ref 231]) rfl rfl (Cs.deep (c_X11_cuts hc1) (by decide)) ?_
    refine ev_go kc_361 1 (i' := 6) (L' := [some (.ref 0), some (.int p1), some (.ref 231), none]) (st' := [.long (v1).toInt64, .int (0 : Int32), .ref 231]) (M' := M1) rfl ?_
    obtain ⟨M2, hM2, h⟩ := o_wr h
    refine ev_ls kc_361 rfl rfl rfl hM2 ?_
    refine ev_go kc_361 2 (i' := 12) (L' := [some (.ref 0), some (.int p1), some (.ref 231), none]) (st' := [.int (0 : Int32)]) (M' := M2) rfl ?_
    obtain rfl := Option.some.inj h
    rw [hk]
    exact ev_ret kc_361 rfl rfl rfl
  ·
    rcases o_bif h with ⟨hb3, h⟩ | ⟨hb3, h⟩
    · obtain rfl := Nat.eq_of_beq_eq_true hb3
      obtain rfl := Option.some.inj h
      rw [hk]
      refine ev_clH (ins := .invokevirtual 95) (k1 := 1) (k2 := 0) (h := 8) (q := 3) kc_361 rfl rfl (a := 145) (as := [.ref 0, .int p1]) (rest := [.int (0 : Int32), .ref 231]) rfl rfl rfl rfl rfl rfl (Cs.deep (c_X11_cuts hc1) (by decide)) ?_
      refine ev_go kc_361 1 (i' := 10) (L' := [some (.ref 0), some (.int p1), some (.ref 231), none]) (st' := [.int (1 : Int32)]) (M' := M1) rfl ?_
      exact ev_ret kc_361 rfl rfl rfl
    cases h
/-- WakeTowerLaw.roster(LWakeTower;III[J)I: 362, H -/
theorem kc_362 : mKc 362 = k_L_roster := rfl
def f_L_roster (p1 : Int32) (p2 : Int32) (p3 : Int32) (M0 : mM) : Option (Int32 × mM × Nat) :=
  th (f_X11_roster p1 p2 p3 M0) (fun v1 M1 => wr (mst M1 231 (ix (0 : Int32)) v1) (fun M2 => some ((0 : Int32), M2, 0))) (fun E1 M1 => bif Nat.beq E1 0 then (some ((1 : Int32), M1, 1)) else (none))
set_option maxRecDepth 8000 in
theorem c_L_roster {p1 : Int32} {p2 : Int32} {p3 : Int32} {M0 : mM} {out : (Int32 × mM × Nat)} (h : f_L_roster p1 p2 p3 M0 = some out) : Cs (11) 362 [.ref 0, .int p1, .int p2, .int p3, .ref 231] M0 (emH eI out) := by
  generalize hk : emH eI out = R
  replace hk := hk.symm
  unfold f_L_roster at h
  show Ev (11) 362 0 [some (.ref 0), some (.int p1), some (.int p2), some (.int p3), some (.ref 231), none] [] M0 R
  refine ev_go kc_362 6 (i' := 6) (L' := [some (.ref 0), some (.int p1), some (.int p2), some (.int p3), some (.ref 231), none]) (st' := [.int p3, .int p2, .int p1, .ref 0, .int (0 : Int32), .ref 231]) (M' := M0) rfl ?_
  rcases o_th h with ⟨v1, M1, hc1, h⟩ | ⟨E1, M1, hc1, h⟩
  · refine ev_cl0 (ins := .invokevirtual 98) kc_362 rfl rfl (a := 146) (as := [.ref 0, .int p1, .int p2, .int p3]) (rest := [.int (0 : Int32), .ref 231]) rfl rfl (Cs.deep (c_X11_roster hc1) (by decide)) ?_
    refine ev_go kc_362 1 (i' := 8) (L' := [some (.ref 0), some (.int p1), some (.int p2), some (.int p3), some (.ref 231), none]) (st' := [.long (v1).toInt64, .int (0 : Int32), .ref 231]) (M' := M1) rfl ?_
    obtain ⟨M2, hM2, h⟩ := o_wr h
    refine ev_ls kc_362 rfl rfl rfl hM2 ?_
    refine ev_go kc_362 2 (i' := 14) (L' := [some (.ref 0), some (.int p1), some (.int p2), some (.int p3), some (.ref 231), none]) (st' := [.int (0 : Int32)]) (M' := M2) rfl ?_
    obtain rfl := Option.some.inj h
    rw [hk]
    exact ev_ret kc_362 rfl rfl rfl
  ·
    rcases o_bif h with ⟨hb3, h⟩ | ⟨hb3, h⟩
    · obtain rfl := Nat.eq_of_beq_eq_true hb3
      obtain rfl := Option.some.inj h
      rw [hk]
      refine ev_clH (ins := .invokevirtual 98) (k1 := 1) (k2 := 0) (h := 10) (q := 5) kc_362 rfl rfl (a := 146) (as := [.ref 0, .int p1, .int p2, .int p3]) (rest := [.int (0 : Int32), .ref 231]) rfl rfl rfl rfl rfl rfl (Cs.deep (c_X11_roster hc1) (by decide)) ?_
      refine ev_go kc_362 1 (i' := 12) (L' := [some (.ref 0), some (.int p1), some (.int p2), some (.int p3), some (.ref 231), none]) (st' := [.int (1 : Int32)]) (M' := M1) rfl ?_
      exact ev_ret kc_362 rfl rfl rfl
    cases h
/-- WakeTowerLaw.pairs(LWakeTower;I[J)I: 363, H -/
theorem kc_363 : mKc 363 = k_L_pairs := rfl
def f_L_pairs (p1 : Int32) (M0 : mM) : Option (Int32 × mM × Nat) :=
  th (f_X11_pairs p1 M0) (fun v1 M1 => wr (mst M1 231 (ix (0 : Int32)) v1) (fun M2 => some ((0 : Int32), M2, 0))) (fun E1 M1 => bif Nat.beq E1 0 then (some ((1 : Int32), M1, 1)) else (none))
set_option maxRecDepth 8000 in
theorem c_L_pairs {p1 : Int32} {M0 : mM} {out : (Int32 × mM × Nat)} (h : f_L_pairs p1 M0 = some out) : Cs (10) 363 [.ref 0, .int p1, .ref 231] M0 (emH eI out) := by
  generalize hk : emH eI out = R
  replace hk := hk.symm
  unfold f_L_pairs at h
  show Ev (10) 363 0 [some (.ref 0), some (.int p1), some (.ref 231), none] [] M0 R
  refine ev_go kc_363 4 (i' := 4) (L' := [some (.ref 0), some (.int p1), some (.ref 231), none]) (st' := [.int p1, .ref 0, .int (0 : Int32), .ref 231]) (M' := M0) rfl ?_
  rcases o_th h with ⟨v1, M1, hc1, h⟩ | ⟨E1, M1, hc1, h⟩
  · refine ev_cl0 (ins := .invokevirtual 101) kc_363 rfl rfl (a := 147) (as := [.ref 0, .int p1]) (rest := [.int (0 : Int32), .ref 231]) rfl rfl (Cs.deep (c_X11_pairs hc1) (by decide)) ?_
    refine ev_go kc_363 1 (i' := 6) (L' := [some (.ref 0), some (.int p1), some (.ref 231), none]) (st' := [.long (v1).toInt64, .int (0 : Int32), .ref 231]) (M' := M1) rfl ?_
    obtain ⟨M2, hM2, h⟩ := o_wr h
    refine ev_ls kc_363 rfl rfl rfl hM2 ?_
    refine ev_go kc_363 2 (i' := 12) (L' := [some (.ref 0), some (.int p1), some (.ref 231), none]) (st' := [.int (0 : Int32)]) (M' := M2) rfl ?_
    obtain rfl := Option.some.inj h
    rw [hk]
    exact ev_ret kc_363 rfl rfl rfl
  ·
    rcases o_bif h with ⟨hb3, h⟩ | ⟨hb3, h⟩
    · obtain rfl := Nat.eq_of_beq_eq_true hb3
      obtain rfl := Option.some.inj h
      rw [hk]
      refine ev_clH (ins := .invokevirtual 101) (k1 := 1) (k2 := 0) (h := 8) (q := 3) kc_363 rfl rfl (a := 147) (as := [.ref 0, .int p1]) (rest := [.int (0 : Int32), .ref 231]) rfl rfl rfl rfl rfl rfl (Cs.deep (c_X11_pairs hc1) (by decide)) ?_
      refine ev_go kc_363 1 (i' := 10) (L' := [some (.ref 0), some (.int p1), some (.ref 231), none]) (st' := [.int (1 : Int32)]) (M' := M1) rfl ?_
      exact ev_ret kc_363 rfl rfl rfl
    cases h
/-- WakeTowerLaw.rests(LWakeTower;II[J)I: 364, H -/
theorem kc_364 : mKc 364 = k_L_rests := rfl
def f_L_rests (p1 : Int32) (p2 : Int32) (M0 : mM) : Option (Int32 × mM × Nat) :=
  th (f_X11_rests p1 p2 M0) (fun v1 M1 => wr (mst M1 231 (ix (0 : Int32)) v1) (fun M2 => some ((0 : Int32), M2, 0))) (fun E1 M1 => bif Nat.beq E1 2 then (some ((1 : Int32), M1, 1)) else (bif Nat.beq E1 4 then (some ((2 : Int32), M1, 1)) else (none)))
set_option maxRecDepth 8000 in
theorem c_L_rests {p1 : Int32} {p2 : Int32} {M0 : mM} {out : (Int32 × mM × Nat)} (h : f_L_rests p1 p2 M0 = some out) : Cs (11) 364 [.ref 0, .int p1, .int p2, .ref 231] M0 (emH eI out) := by
  generalize hk : emH eI out = R
  replace hk := hk.symm
  unfold f_L_rests at h
  show Ev (11) 364 0 [some (.ref 0), some (.int p1), some (.int p2), some (.ref 231), none] [] M0 R
  refine ev_go kc_364 5 (i' := 5) (L' := [some (.ref 0), some (.int p1), some (.int p2), some (.ref 231), none]) (st' := [.int p2, .int p1, .ref 0, .int (0 : Int32), .ref 231]) (M' := M0) rfl ?_
  rcases o_th h with ⟨v1, M1, hc1, h⟩ | ⟨E1, M1, hc1, h⟩
  · refine ev_cl0 (ins := .invokevirtual 104) kc_364 rfl rfl (a := 149) (as := [.ref 0, .int p1, .int p2]) (rest := [.int (0 : Int32), .ref 231]) rfl rfl (Cs.deep (c_X11_rests hc1) (by decide)) ?_
    refine ev_go kc_364 1 (i' := 7) (L' := [some (.ref 0), some (.int p1), some (.int p2), some (.ref 231), none]) (st' := [.long (v1).toInt64, .int (0 : Int32), .ref 231]) (M' := M1) rfl ?_
    obtain ⟨M2, hM2, h⟩ := o_wr h
    refine ev_ls kc_364 rfl rfl rfl hM2 ?_
    refine ev_go kc_364 2 (i' := 16) (L' := [some (.ref 0), some (.int p1), some (.int p2), some (.ref 231), none]) (st' := [.int (0 : Int32)]) (M' := M2) rfl ?_
    obtain rfl := Option.some.inj h
    rw [hk]
    exact ev_ret kc_364 rfl rfl rfl
  ·
    rcases o_bif h with ⟨hb3, h⟩ | ⟨hb3, h⟩
    · obtain rfl := Nat.eq_of_beq_eq_true hb3
      obtain rfl := Option.some.inj h
      rw [hk]
      refine ev_clH (ins := .invokevirtual 104) (k1 := 1) (k2 := 0) (h := 9) (q := 4) kc_364 rfl rfl (a := 149) (as := [.ref 0, .int p1, .int p2]) (rest := [.int (0 : Int32), .ref 231]) rfl rfl rfl rfl rfl rfl (Cs.deep (c_X11_rests hc1) (by decide)) ?_
      refine ev_go kc_364 1 (i' := 11) (L' := [some (.ref 0), some (.int p1), some (.int p2), some (.ref 231), none]) (st' := [.int (1 : Int32)]) (M' := M1) rfl ?_
      exact ev_ret kc_364 rfl rfl rfl
    rcases o_bif h with ⟨hb4, h⟩ | ⟨hb4, h⟩
    · obtain rfl := Nat.eq_of_beq_eq_true hb4
      obtain rfl := Option.some.inj h
      rw [hk]
      refine ev_clH (ins := .invokevirtual 104) (k1 := 1) (k2 := 0) (h := 12) (q := 4) kc_364 rfl rfl (a := 149) (as := [.ref 0, .int p1, .int p2]) (rest := [.int (0 : Int32), .ref 231]) rfl rfl rfl rfl rfl rfl (Cs.deep (c_X11_rests hc1) (by decide)) ?_
      refine ev_go kc_364 1 (i' := 14) (L' := [some (.ref 0), some (.int p1), some (.int p2), some (.ref 231), none]) (st' := [.int (2 : Int32)]) (M' := M1) rfl ?_
      exact ev_ret kc_364 rfl rfl rfl
    cases h
/-- WakeTowerLaw.odds(LWakeTower;II[J)I: 365, H -/
theorem kc_365 : mKc 365 = k_L_odds := rfl
def f_L_odds (p1 : Int32) (p2 : Int32) (M0 : mM) : Option (Int32 × mM × Nat) :=
  th (f_X11_odds p1 p2 M0) (fun v1 M1 => wr (mst M1 231 (ix (0 : Int32)) v1) (fun M2 => some ((0 : Int32), M2, 0))) (fun E1 M1 => bif Nat.beq E1 2 then (some ((1 : Int32), M1, 1)) else (bif Nat.beq E1 0 then (some ((2 : Int32), M1, 1)) else (none)))
set_option maxRecDepth 8000 in
theorem c_L_odds {p1 : Int32} {p2 : Int32} {M0 : mM} {out : (Int32 × mM × Nat)} (h : f_L_odds p1 p2 M0 = some out) : Cs (11) 365 [.ref 0, .int p1, .int p2, .ref 231] M0 (emH eI out) := by
  generalize hk : emH eI out = R
  replace hk := hk.symm
  unfold f_L_odds at h
  show Ev (11) 365 0 [some (.ref 0), some (.int p1), some (.int p2), some (.ref 231), none] [] M0 R
  refine ev_go kc_365 5 (i' := 5) (L' := [some (.ref 0), some (.int p1), some (.int p2), some (.ref 231), none]) (st' := [.int p2, .int p1, .ref 0, .int (0 : Int32), .ref 231]) (M' := M0) rfl ?_
  rcases o_th h with ⟨v1, M1, hc1, h⟩ | ⟨E1, M1, hc1, h⟩
  · refine ev_cl0 (ins := .invokevirtual 107) kc_365 rfl rfl (a := 152) (as := [.ref 0, .int p1, .int p2]) (rest := [.int (0 : Int32), .ref 231]) rfl rfl (Cs.deep (c_X11_odds hc1) (by decide)) ?_
    refine ev_go kc_365 1 (i' := 7) (L' := [some (.ref 0), some (.int p1), some (.int p2), some (.ref 231), none]) (st' := [.long (v1).toInt64, .int (0 : Int32), .ref 231]) (M' := M1) rfl ?_
    obtain ⟨M2, hM2, h⟩ := o_wr h
    refine ev_ls kc_365 rfl rfl rfl hM2 ?_
    refine ev_go kc_365 2 (i' := 16) (L' := [some (.ref 0), some (.int p1), some (.int p2), some (.ref 231), none]) (st' := [.int (0 : Int32)]) (M' := M2) rfl ?_
    obtain rfl := Option.some.inj h
    rw [hk]
    exact ev_ret kc_365 rfl rfl rfl
  ·
    rcases o_bif h with ⟨hb3, h⟩ | ⟨hb3, h⟩
    · obtain rfl := Nat.eq_of_beq_eq_true hb3
      obtain rfl := Option.some.inj h
      rw [hk]
      refine ev_clH (ins := .invokevirtual 107) (k1 := 1) (k2 := 0) (h := 9) (q := 4) kc_365 rfl rfl (a := 152) (as := [.ref 0, .int p1, .int p2]) (rest := [.int (0 : Int32), .ref 231]) rfl rfl rfl rfl rfl rfl (Cs.deep (c_X11_odds hc1) (by decide)) ?_
      refine ev_go kc_365 1 (i' := 11) (L' := [some (.ref 0), some (.int p1), some (.int p2), some (.ref 231), none]) (st' := [.int (1 : Int32)]) (M' := M1) rfl ?_
      exact ev_ret kc_365 rfl rfl rfl
    rcases o_bif h with ⟨hb4, h⟩ | ⟨hb4, h⟩
    · obtain rfl := Nat.eq_of_beq_eq_true hb4
      obtain rfl := Option.some.inj h
      rw [hk]
      refine ev_clH (ins := .invokevirtual 107) (k1 := 1) (k2 := 0) (h := 12) (q := 4) kc_365 rfl rfl (a := 152) (as := [.ref 0, .int p1, .int p2]) (rest := [.int (0 : Int32), .ref 231]) rfl rfl rfl rfl rfl rfl (Cs.deep (c_X11_odds hc1) (by decide)) ?_
      refine ev_go kc_365 1 (i' := 14) (L' := [some (.ref 0), some (.int p1), some (.int p2), some (.ref 231), none]) (st' := [.int (2 : Int32)]) (M' := M1) rfl ?_
      exact ev_ret kc_365 rfl rfl rfl
    cases h
/-- WakeTowerLaw.ring(LWakeTower;I[J)I: 366, H -/
theorem kc_366 : mKc 366 = k_L_ring := rfl
def f_L_ring (p1 : Int32) (M0 : mM) : Option (Int32 × mM × Nat) :=
  th (f_X11_ring p1 M0) (fun v1 M1 => wr (mst M1 231 (ix (0 : Int32)) v1) (fun M2 => some ((0 : Int32), M2, 0))) (fun E1 M1 => bif Nat.beq E1 2 then (some ((1 : Int32), M1, 1)) else (none))
set_option maxRecDepth 8000 in
theorem c_L_ring {p1 : Int32} {M0 : mM} {out : (Int32 × mM × Nat)} (h : f_L_ring p1 M0 = some out) : Cs (10) 366 [.ref 0, .int p1, .ref 231] M0 (emH eI out) := by
  generalize hk : emH eI out = R
  replace hk := hk.symm
  unfold f_L_ring at h
  show Ev (10) 366 0 [some (.ref 0), some (.int p1), some (.ref 231), none] [] M0 R
  refine ev_go kc_366 4 (i' := 4) (L' := [some (.ref 0), some (.int p1), some (.ref 231), none]) (st' := [.int p1, .ref 0, .int (0 : Int32), .ref 231]) (M' := M0) rfl ?_
  rcases o_th h with ⟨v1, M1, hc1, h⟩ | ⟨E1, M1, hc1, h⟩
  · refine ev_cl0 (ins := .invokevirtual 110) kc_366 rfl rfl (a := 156) (as := [.ref 0, .int p1]) (rest := [.int (0 : Int32), .ref 231]) rfl rfl (Cs.deep (c_X11_ring hc1) (by decide)) ?_
    refine ev_go kc_366 1 (i' := 6) (L' := [some (.ref 0), some (.int p1), some (.ref 231), none]) (st' := [.long (v1).toInt64, .int (0 : Int32), .ref 231]) (M' := M1) rfl ?_
    obtain ⟨M2, hM2, h⟩ := o_wr h
    refine ev_ls kc_366 rfl rfl rfl hM2 ?_
    refine ev_go kc_366 2 (i' := 12) (L' := [some (.ref 0), some (.int p1), some (.ref 231), none]) (st' := [.int (0 : Int32)]) (M' := M2) rfl ?_
    obtain rfl := Option.some.inj h
    rw [hk]
    exact ev_ret kc_366 rfl rfl rfl
  ·
    rcases o_bif h with ⟨hb3, h⟩ | ⟨hb3, h⟩
    · obtain rfl := Nat.eq_of_beq_eq_true hb3
      obtain rfl := Option.some.inj h
      rw [hk]
      refine ev_clH (ins := .invokevirtual 110) (k1 := 1) (k2 := 0) (h := 8) (q := 3) kc_366 rfl rfl (a := 156) (as := [.ref 0, .int p1]) (rest := [.int (0 : Int32), .ref 231]) rfl rfl rfl rfl rfl rfl (Cs.deep (c_X11_ring hc1) (by decide)) ?_
      refine ev_go kc_366 1 (i' := 10) (L' := [some (.ref 0), some (.int p1), some (.ref 231), none]) (st' := [.int (1 : Int32)]) (M' := M1) rfl ?_
      exact ev_ret kc_366 rfl rfl rfl
    cases h
/-- WakeTowerLaw.ahead(LWakeTower;II[J)I: 367, H -/
theorem kc_367 : mKc 367 = k_L_ahead := rfl
def f_L_ahead (p1 : Int32) (p2 : Int32) (M0 : mM) : Option (Int32 × mM × Nat) :=
  th (f_X11_ahead p1 p2 M0) (fun v1 M1 => wr (mst M1 231 (ix (0 : Int32)) v1) (fun M2 => some ((0 : Int32), M2, 0))) (fun E1 M1 => bif Nat.beq E1 2 then (some ((1 : Int32), M1, 1)) else (bif Nat.beq E1 0 then (some ((2 : Int32), M1, 1)) else (none)))
set_option maxRecDepth 8000 in
theorem c_L_ahead {p1 : Int32} {p2 : Int32} {M0 : mM} {out : (Int32 × mM × Nat)} (h : f_L_ahead p1 p2 M0 = some out) : Cs (14) 367 [.ref 0, .int p1, .int p2, .ref 231] M0 (emH eI out) := by
  generalize hk : emH eI out = R
  replace hk := hk.symm
  unfold f_L_ahead at h
  show Ev (14) 367 0 [some (.ref 0), some (.int p1), some (.int p2), some (.ref 231), none] [] M0 R
  refine ev_go kc_367 5 (i' := 5) (L' := [some (.ref 0), some (.int p1), some (.int p2), some (.ref 231), none]) (st' := [.int p2, .int p1, .ref 0, .int (0 : Int32), .ref 231]) (M' := M0) rfl ?_
  rcases o_th h with ⟨v1, M1, hc1, h⟩ | ⟨E1, M1, hc1, h⟩
  · refine ev_cl0 (ins := .invokevirtual 113) kc_367 rfl rfl (a := 160) (as := [.ref 0, .int p1, .int p2]) (rest := [.int (0 : Int32), .ref 231]) rfl rfl (Cs.deep (c_X11_ahead hc1) (by decide)) ?_
    refine ev_go kc_367 1 (i' := 7) (L' := [some (.ref 0), some (.int p1), some (.int p2), some (.ref 231), none]) (st' := [.long (v1).toInt64, .int (0 : Int32), .ref 231]) (M' := M1) rfl ?_
    obtain ⟨M2, hM2, h⟩ := o_wr h
    refine ev_ls kc_367 rfl rfl rfl hM2 ?_
    refine ev_go kc_367 2 (i' := 16) (L' := [some (.ref 0), some (.int p1), some (.int p2), some (.ref 231), none]) (st' := [.int (0 : Int32)]) (M' := M2) rfl ?_
    obtain rfl := Option.some.inj h
    rw [hk]
    exact ev_ret kc_367 rfl rfl rfl
  ·
    rcases o_bif h with ⟨hb3, h⟩ | ⟨hb3, h⟩
    · obtain rfl := Nat.eq_of_beq_eq_true hb3
      obtain rfl := Option.some.inj h
      rw [hk]
      refine ev_clH (ins := .invokevirtual 113) (k1 := 1) (k2 := 0) (h := 9) (q := 4) kc_367 rfl rfl (a := 160) (as := [.ref 0, .int p1, .int p2]) (rest := [.int (0 : Int32), .ref 231]) rfl rfl rfl rfl rfl rfl (Cs.deep (c_X11_ahead hc1) (by decide)) ?_
      refine ev_go kc_367 1 (i' := 11) (L' := [some (.ref 0), some (.int p1), some (.int p2), some (.ref 231), none]) (st' := [.int (1 : Int32)]) (M' := M1) rfl ?_
      exact ev_ret kc_367 rfl rfl rfl
    rcases o_bif h with ⟨hb4, h⟩ | ⟨hb4, h⟩
    · obtain rfl := Nat.eq_of_beq_eq_true hb4
      obtain rfl := Option.some.inj h
      rw [hk]
      refine ev_clH (ins := .invokevirtual 113) (k1 := 1) (k2 := 0) (h := 12) (q := 4) kc_367 rfl rfl (a := 160) (as := [.ref 0, .int p1, .int p2]) (rest := [.int (0 : Int32), .ref 231]) rfl rfl rfl rfl rfl rfl (Cs.deep (c_X11_ahead hc1) (by decide)) ?_
      refine ev_go kc_367 1 (i' := 14) (L' := [some (.ref 0), some (.int p1), some (.int p2), some (.ref 231), none]) (st' := [.int (2 : Int32)]) (M' := M1) rfl ?_
      exact ev_ret kc_367 rfl rfl rfl
    cases h
/-- WakeTowerLaw.trial(LWakeTower;IZ[J)I: 368, H -/
theorem kc_368 : mKc 368 = k_L_trial := rfl
def f_L_trial (p1 : Int32) (p2 : Bool) (M0 : mM) : Option (Int32 × mM × Nat) :=
  th (f_X11_trial p1 p2 M0) (fun v1 M1 => wr (mst M1 231 (ix (0 : Int32)) v1) (fun M2 => some ((0 : Int32), M2, 0))) (fun E1 M1 => bif Nat.beq E1 0 then (some ((1 : Int32), M1, 1)) else (none))
set_option maxRecDepth 8000 in
theorem c_L_trial {p1 : Int32} {p2 : Bool} {M0 : mM} {out : (Int32 × mM × Nat)} (h : f_L_trial p1 p2 M0 = some out) : Cs (14) 368 [.ref 0, .int p1, .int (mB p2), .ref 231] M0 (emH eI out) := by
  generalize hk : emH eI out = R
  replace hk := hk.symm
  unfold f_L_trial at h
  show Ev (14) 368 0 [some (.ref 0), some (.int p1), some (.int (mB p2)), some (.ref 231), none] [] M0 R
  refine ev_go kc_368 5 (i' := 5) (L' := [some (.ref 0), some (.int p1), some (.int (mB p2)), some (.ref 231), none]) (st' := [.int (mB p2), .int p1, .ref 0, .int (0 : Int32), .ref 231]) (M' := M0) rfl ?_
  rcases o_th h with ⟨v1, M1, hc1, h⟩ | ⟨E1, M1, hc1, h⟩
  · refine ev_cl0 (ins := .invokevirtual 116) kc_368 rfl rfl (a := 161) (as := [.ref 0, .int p1, .int (mB p2)]) (rest := [.int (0 : Int32), .ref 231]) rfl rfl (Cs.deep (c_X11_trial hc1) (by decide)) ?_
    refine ev_go kc_368 1 (i' := 7) (L' := [some (.ref 0), some (.int p1), some (.int (mB p2)), some (.ref 231), none]) (st' := [.long (v1).toInt64, .int (0 : Int32), .ref 231]) (M' := M1) rfl ?_
    obtain ⟨M2, hM2, h⟩ := o_wr h
    refine ev_ls kc_368 rfl rfl rfl hM2 ?_
    refine ev_go kc_368 2 (i' := 13) (L' := [some (.ref 0), some (.int p1), some (.int (mB p2)), some (.ref 231), none]) (st' := [.int (0 : Int32)]) (M' := M2) rfl ?_
    obtain rfl := Option.some.inj h
    rw [hk]
    exact ev_ret kc_368 rfl rfl rfl
  ·
    rcases o_bif h with ⟨hb3, h⟩ | ⟨hb3, h⟩
    · obtain rfl := Nat.eq_of_beq_eq_true hb3
      obtain rfl := Option.some.inj h
      rw [hk]
      refine ev_clH (ins := .invokevirtual 116) (k1 := 1) (k2 := 0) (h := 9) (q := 4) kc_368 rfl rfl (a := 161) (as := [.ref 0, .int p1, .int (mB p2)]) (rest := [.int (0 : Int32), .ref 231]) rfl rfl rfl rfl rfl rfl (Cs.deep (c_X11_trial hc1) (by decide)) ?_
      refine ev_go kc_368 1 (i' := 11) (L' := [some (.ref 0), some (.int p1), some (.int (mB p2)), some (.ref 231), none]) (st' := [.int (1 : Int32)]) (M' := M1) rfl ?_
      exact ev_ret kc_368 rfl rfl rfl
    cases h
/-- WakeTowerLaw.span(LWakeTower;IZ[J)I: 369, H -/
theorem kc_369 : mKc 369 = k_L_span := rfl
def f_L_span (p1 : Int32) (p2 : Bool) (M0 : mM) : Option (Int32 × mM × Nat) :=
  th (f_X11_span p1 p2 M0) (fun v1 M1 => wr (mst M1 231 (ix (0 : Int32)) v1) (fun M2 => some ((0 : Int32), M2, 0))) (fun E1 M1 => bif Nat.beq E1 0 then (some ((1 : Int32), M1, 1)) else (none))
set_option maxRecDepth 8000 in
theorem c_L_span {p1 : Int32} {p2 : Bool} {M0 : mM} {out : (Int32 × mM × Nat)} (h : f_L_span p1 p2 M0 = some out) : Cs (14) 369 [.ref 0, .int p1, .int (mB p2), .ref 231] M0 (emH eI out) := by
  generalize hk : emH eI out = R
  replace hk := hk.symm
  unfold f_L_span at h
  show Ev (14) 369 0 [some (.ref 0), some (.int p1), some (.int (mB p2)), some (.ref 231), none] [] M0 R
  refine ev_go kc_369 5 (i' := 5) (L' := [some (.ref 0), some (.int p1), some (.int (mB p2)), some (.ref 231), none]) (st' := [.int (mB p2), .int p1, .ref 0, .int (0 : Int32), .ref 231]) (M' := M0) rfl ?_
  rcases o_th h with ⟨v1, M1, hc1, h⟩ | ⟨E1, M1, hc1, h⟩
  · refine ev_cl0 (ins := .invokevirtual 120) kc_369 rfl rfl (a := 162) (as := [.ref 0, .int p1, .int (mB p2)]) (rest := [.int (0 : Int32), .ref 231]) rfl rfl (Cs.deep (c_X11_span hc1) (by decide)) ?_
    refine ev_go kc_369 1 (i' := 7) (L' := [some (.ref 0), some (.int p1), some (.int (mB p2)), some (.ref 231), none]) (st' := [.long (v1).toInt64, .int (0 : Int32), .ref 231]) (M' := M1) rfl ?_
    obtain ⟨M2, hM2, h⟩ := o_wr h
    refine ev_ls kc_369 rfl rfl rfl hM2 ?_
    refine ev_go kc_369 2 (i' := 13) (L' := [some (.ref 0), some (.int p1), some (.int (mB p2)), some (.ref 231), none]) (st' := [.int (0 : Int32)]) (M' := M2) rfl ?_
    obtain rfl := Option.some.inj h
    rw [hk]
    exact ev_ret kc_369 rfl rfl rfl
  ·
    rcases o_bif h with ⟨hb3, h⟩ | ⟨hb3, h⟩
    · obtain rfl := Nat.eq_of_beq_eq_true hb3
      obtain rfl := Option.some.inj h
      rw [hk]
      refine ev_clH (ins := .invokevirtual 120) (k1 := 1) (k2 := 0) (h := 9) (q := 4) kc_369 rfl rfl (a := 162) (as := [.ref 0, .int p1, .int (mB p2)]) (rest := [.int (0 : Int32), .ref 231]) rfl rfl rfl rfl rfl rfl (Cs.deep (c_X11_span hc1) (by decide)) ?_
      refine ev_go kc_369 1 (i' := 11) (L' := [some (.ref 0), some (.int p1), some (.int (mB p2)), some (.ref 231), none]) (st' := [.int (1 : Int32)]) (M' := M1) rfl ?_
      exact ev_ret kc_369 rfl rfl rfl
    cases h
/-- WakeTowerLaw.led(LWakeTower;IZ[J)I: 370, H -/
theorem kc_370 : mKc 370 = k_L_led := rfl
def f_L_led (p1 : Int32) (p2 : Bool) (M0 : mM) : Option (Int32 × mM × Nat) :=
  th (f_X11_led p1 p2 M0) (fun v1 M1 => wr (mst M1 231 (ix (0 : Int32)) v1) (fun M2 => some ((0 : Int32), M2, 0))) (fun E1 M1 => bif Nat.beq E1 2 then (some ((1 : Int32), M1, 1)) else (none))
set_option maxRecDepth 8000 in
theorem c_L_led {p1 : Int32} {p2 : Bool} {M0 : mM} {out : (Int32 × mM × Nat)} (h : f_L_led p1 p2 M0 = some out) : Cs (10) 370 [.ref 0, .int p1, .int (mB p2), .ref 231] M0 (emH eI out) := by
  generalize hk : emH eI out = R
  replace hk := hk.symm
  unfold f_L_led at h
  show Ev (10) 370 0 [some (.ref 0), some (.int p1), some (.int (mB p2)), some (.ref 231), none] [] M0 R
  refine ev_go kc_370 5 (i' := 5) (L' := [some (.ref 0), some (.int p1), some (.int (mB p2)), some (.ref 231), none]) (st' := [.int (mB p2), .int p1, .ref 0, .int (0 : Int32), .ref 231]) (M' := M0) rfl ?_
  rcases o_th h with ⟨v1, M1, hc1, h⟩ | ⟨E1, M1, hc1, h⟩
  · refine ev_cl0 (ins := .invokevirtual 123) kc_370 rfl rfl (a := 163) (as := [.ref 0, .int p1, .int (mB p2)]) (rest := [.int (0 : Int32), .ref 231]) rfl rfl (Cs.deep (c_X11_led hc1) (by decide)) ?_
    refine ev_go kc_370 1 (i' := 7) (L' := [some (.ref 0), some (.int p1), some (.int (mB p2)), some (.ref 231), none]) (st' := [.long (v1).toInt64, .int (0 : Int32), .ref 231]) (M' := M1) rfl ?_
    obtain ⟨M2, hM2, h⟩ := o_wr h
    refine ev_ls kc_370 rfl rfl rfl hM2 ?_
    refine ev_go kc_370 2 (i' := 13) (L' := [some (.ref 0), some (.int p1), some (.int (mB p2)), some (.ref 231), none]) (st' := [.int (0 : Int32)]) (M' := M2) rfl ?_
    obtain rfl := Option.some.inj h
    rw [hk]
    exact ev_ret kc_370 rfl rfl rfl
  ·
    rcases o_bif h with ⟨hb3, h⟩ | ⟨hb3, h⟩
    · obtain rfl := Nat.eq_of_beq_eq_true hb3
      obtain rfl := Option.some.inj h
      rw [hk]
      refine ev_clH (ins := .invokevirtual 123) (k1 := 1) (k2 := 0) (h := 9) (q := 4) kc_370 rfl rfl (a := 163) (as := [.ref 0, .int p1, .int (mB p2)]) (rest := [.int (0 : Int32), .ref 231]) rfl rfl rfl rfl rfl rfl (Cs.deep (c_X11_led hc1) (by decide)) ?_
      refine ev_go kc_370 1 (i' := 11) (L' := [some (.ref 0), some (.int p1), some (.int (mB p2)), some (.ref 231), none]) (st' := [.int (1 : Int32)]) (M' := M1) rfl ?_
      exact ev_ret kc_370 rfl rfl rfl
    cases h
/-- WakeTowerLaw.log(LWakeTower;II[J)I: 371, H -/
theorem kc_371 : mKc 371 = k_L_log := rfl
def f_L_log (p1 : Int32) (p2 : Int32) (M0 : mM) : Option (Int32 × mM × Nat) :=
  th (f_X11_log p1 p2 M0) (fun v1 M1 => wr (mst M1 231 (ix (0 : Int32)) v1) (fun M2 => some ((0 : Int32), M2, 0))) (fun E1 M1 => bif Nat.beq E1 3 then (some ((1 : Int32), M1, 1)) else (none))
set_option maxRecDepth 8000 in
theorem c_L_log {p1 : Int32} {p2 : Int32} {M0 : mM} {out : (Int32 × mM × Nat)} (h : f_L_log p1 p2 M0 = some out) : Cs (9) 371 [.ref 0, .int p1, .int p2, .ref 231] M0 (emH eI out) := by
  generalize hk : emH eI out = R
  replace hk := hk.symm
  unfold f_L_log at h
  show Ev (9) 371 0 [some (.ref 0), some (.int p1), some (.int p2), some (.ref 231), none] [] M0 R
  refine ev_go kc_371 5 (i' := 5) (L' := [some (.ref 0), some (.int p1), some (.int p2), some (.ref 231), none]) (st' := [.int p2, .int p1, .ref 0, .int (0 : Int32), .ref 231]) (M' := M0) rfl ?_
  rcases o_th h with ⟨v1, M1, hc1, h⟩ | ⟨E1, M1, hc1, h⟩
  · refine ev_cl0 (ins := .invokevirtual 126) kc_371 rfl rfl (a := 164) (as := [.ref 0, .int p1, .int p2]) (rest := [.int (0 : Int32), .ref 231]) rfl rfl (Cs.deep (c_X11_log hc1) (by decide)) ?_
    refine ev_go kc_371 1 (i' := 7) (L' := [some (.ref 0), some (.int p1), some (.int p2), some (.ref 231), none]) (st' := [.long (v1).toInt64, .int (0 : Int32), .ref 231]) (M' := M1) rfl ?_
    obtain ⟨M2, hM2, h⟩ := o_wr h
    refine ev_ls kc_371 rfl rfl rfl hM2 ?_
    refine ev_go kc_371 2 (i' := 13) (L' := [some (.ref 0), some (.int p1), some (.int p2), some (.ref 231), none]) (st' := [.int (0 : Int32)]) (M' := M2) rfl ?_
    obtain rfl := Option.some.inj h
    rw [hk]
    exact ev_ret kc_371 rfl rfl rfl
  ·
    rcases o_bif h with ⟨hb3, h⟩ | ⟨hb3, h⟩
    · obtain rfl := Nat.eq_of_beq_eq_true hb3
      obtain rfl := Option.some.inj h
      rw [hk]
      refine ev_clH (ins := .invokevirtual 126) (k1 := 1) (k2 := 0) (h := 9) (q := 4) kc_371 rfl rfl (a := 164) (as := [.ref 0, .int p1, .int p2]) (rest := [.int (0 : Int32), .ref 231]) rfl rfl rfl rfl rfl rfl (Cs.deep (c_X11_log hc1) (by decide)) ?_
      refine ev_go kc_371 1 (i' := 11) (L' := [some (.ref 0), some (.int p1), some (.int p2), some (.ref 231), none]) (st' := [.int (1 : Int32)]) (M' := M1) rfl ?_
      exact ev_ret kc_371 rfl rfl rfl
    cases h
