/-! the methods, by program -/
/-- java/lang/Integer.bitCount(I)I: 10, P -/
theorem kc_10 : mKc 10 = k_J6_bitCount_0f7a4 := rfl
def f_J6_bitCount_0f7a4 (p0 : Int32) : Int32 :=
  ((((((((p0 - ((ushr p0 (1 : Int32)) &&& (1431655765 : Int32))) &&& (858993459 : Int32)) + ((ushr (p0 - ((ushr p0 (1 : Int32)) &&& (1431655765 : Int32))) (2 : Int32)) &&& (858993459 : Int32))) + (ushr (((p0 - ((ushr p0 (1 : Int32)) &&& (1431655765 : Int32))) &&& (858993459 : Int32)) + ((ushr (p0 - ((ushr p0 (1 : Int32)) &&& (1431655765 : Int32))) (2 : Int32)) &&& (858993459 : Int32))) (4 : Int32))) &&& (252645135 : Int32)) + (ushr (((((p0 - ((ushr p0 (1 : Int32)) &&& (1431655765 : Int32))) &&& (858993459 : Int32)) + ((ushr (p0 - ((ushr p0 (1 : Int32)) &&& (1431655765 : Int32))) (2 : Int32)) &&& (858993459 : Int32))) + (ushr (((p0 - ((ushr p0 (1 : Int32)) &&& (1431655765 : Int32))) &&& (858993459 : Int32)) + ((ushr (p0 - ((ushr p0 (1 : Int32)) &&& (1431655765 : Int32))) (2 : Int32)) &&& (858993459 : Int32))) (4 : Int32))) &&& (252645135 : Int32)) (8 : Int32))) + (ushr ((((((p0 - ((ushr p0 (1 : Int32)) &&& (1431655765 : Int32))) &&& (858993459 : Int32)) + ((ushr (p0 - ((ushr p0 (1 : Int32)) &&& (1431655765 : Int32))) (2 : Int32)) &&& (858993459 : Int32))) + (ushr (((p0 - ((ushr p0 (1 : Int32)) &&& (1431655765 : Int32))) &&& (858993459 : Int32)) + ((ushr (p0 - ((ushr p0 (1 : Int32)) &&& (1431655765 : Int32))) (2 : Int32)) &&& (858993459 : Int32))) (4 : Int32))) &&& (252645135 : Int32)) + (ushr (((((p0 - ((ushr p0 (1 : Int32)) &&& (1431655765 : Int32))) &&& (858993459 : Int32)) + ((ushr (p0 - ((ushr p0 (1 : Int32)) &&& (1431655765 : Int32))) (2 : Int32)) &&& (858993459 : Int32))) + (ushr (((p0 - ((ushr p0 (1 : Int32)) &&& (1431655765 : Int32))) &&& (858993459 : Int32)) + ((ushr (p0 - ((ushr p0 (1 : Int32)) &&& (1431655765 : Int32))) (2 : Int32)) &&& (858993459 : Int32))) (4 : Int32))) &&& (252645135 : Int32)) (8 : Int32))) (16 : Int32))) &&& (63 : Int32))
set_option maxRecDepth 8000 in
theorem c_J6_bitCount_0f7a4 {p0 : Int32} {M0 : mM} : Cs (0) 10 [.int p0] M0 (emR eI M0 (f_J6_bitCount_0f7a4 p0)) := by
  generalize h : f_J6_bitCount_0f7a4 p0 = out
  generalize hk : emR eI M0 out = R
  replace hk := hk.symm
  unfold f_J6_bitCount_0f7a4 at h
  show Ev (0) 10 0 [some (.int p0)] [] M0 R
  refine ev_go kc_10 41 (i' := 41) (L' := [some (.int (((((((p0 - ((ushr p0 (1 : Int32)) &&& (1431655765 : Int32))) &&& (858993459 : Int32)) + ((ushr (p0 - ((ushr p0 (1 : Int32)) &&& (1431655765 : Int32))) (2 : Int32)) &&& (858993459 : Int32))) + (ushr (((p0 - ((ushr p0 (1 : Int32)) &&& (1431655765 : Int32))) &&& (858993459 : Int32)) + ((ushr (p0 - ((ushr p0 (1 : Int32)) &&& (1431655765 : Int32))) (2 : Int32)) &&& (858993459 : Int32))) (4 : Int32))) &&& (252645135 : Int32)) + (ushr (((((p0 - ((ushr p0 (1 : Int32)) &&& (1431655765 : Int32))) &&& (858993459 : Int32)) + ((ushr (p0 - ((ushr p0 (1 : Int32)) &&& (1431655765 : Int32))) (2 : Int32)) &&& (858993459 : Int32))) + (ushr (((p0 - ((ushr p0 (1 : Int32)) &&& (1431655765 : Int32))) &&& (858993459 : Int32)) + ((ushr (p0 - ((ushr p0 (1 : Int32)) &&& (1431655765 : Int32))) (2 : Int32)) &&& (858993459 : Int32))) (4 : Int32))) &&& (252645135 : Int32)) (8 : Int32))) + (ushr ((((((p0 - ((ushr p0 (1 : Int32)) &&& (1431655765 : Int32))) &&& (858993459 : Int32)) + ((ushr (p0 - ((ushr p0 (1 : Int32)) &&& (1431655765 : Int32))) (2 : Int32)) &&& (858993459 : Int32))) + (ushr (((p0 - ((ushr p0 (1 : Int32)) &&& (1431655765 : Int32))) &&& (858993459 : Int32)) + ((ushr (p0 - ((ushr p0 (1 : Int32)) &&& (1431655765 : Int32))) (2 : Int32)) &&& (858993459 : Int32))) (4 : Int32))) &&& (252645135 : Int32)) + (ushr (((((p0 - ((ushr p0 (1 : Int32)) &&& (1431655765 : Int32))) &&& (858993459 : Int32)) + ((ushr (p0 - ((ushr p0 (1 : Int32)) &&& (1431655765 : Int32))) (2 : Int32)) &&& (858993459 : Int32))) + (ushr (((p0 - ((ushr p0 (1 : Int32)) &&& (1431655765 : Int32))) &&& (858993459 : Int32)) + ((ushr (p0 - ((ushr p0 (1 : Int32)) &&& (1431655765 : Int32))) (2 : Int32)) &&& (858993459 : Int32))) (4 : Int32))) &&& (252645135 : Int32)) (8 : Int32))) (16 : Int32))))]) (st' := [.int ((((((((p0 - ((ushr p0 (1 : Int32)) &&& (1431655765 : Int32))) &&& (858993459 : Int32)) + ((ushr (p0 - ((ushr p0 (1 : Int32)) &&& (1431655765 : Int32))) (2 : Int32)) &&& (858993459 : Int32))) + (ushr (((p0 - ((ushr p0 (1 : Int32)) &&& (1431655765 : Int32))) &&& (858993459 : Int32)) + ((ushr (p0 - ((ushr p0 (1 : Int32)) &&& (1431655765 : Int32))) (2 : Int32)) &&& (858993459 : Int32))) (4 : Int32))) &&& (252645135 : Int32)) + (ushr (((((p0 - ((ushr p0 (1 : Int32)) &&& (1431655765 : Int32))) &&& (858993459 : Int32)) + ((ushr (p0 - ((ushr p0 (1 : Int32)) &&& (1431655765 : Int32))) (2 : Int32)) &&& (858993459 : Int32))) + (ushr (((p0 - ((ushr p0 (1 : Int32)) &&& (1431655765 : Int32))) &&& (858993459 : Int32)) + ((ushr (p0 - ((ushr p0 (1 : Int32)) &&& (1431655765 : Int32))) (2 : Int32)) &&& (858993459 : Int32))) (4 : Int32))) &&& (252645135 : Int32)) (8 : Int32))) + (ushr ((((((p0 - ((ushr p0 (1 : Int32)) &&& (1431655765 : Int32))) &&& (858993459 : Int32)) + ((ushr (p0 - ((ushr p0 (1 : Int32)) &&& (1431655765 : Int32))) (2 : Int32)) &&& (858993459 : Int32))) + (ushr (((p0 - ((ushr p0 (1 : Int32)) &&& (1431655765 : Int32))) &&& (858993459 : Int32)) + ((ushr (p0 - ((ushr p0 (1 : Int32)) &&& (1431655765 : Int32))) (2 : Int32)) &&& (858993459 : Int32))) (4 : Int32))) &&& (252645135 : Int32)) + (ushr (((((p0 - ((ushr p0 (1 : Int32)) &&& (1431655765 : Int32))) &&& (858993459 : Int32)) + ((ushr (p0 - ((ushr p0 (1 : Int32)) &&& (1431655765 : Int32))) (2 : Int32)) &&& (858993459 : Int32))) + (ushr (((p0 - ((ushr p0 (1 : Int32)) &&& (1431655765 : Int32))) &&& (858993459 : Int32)) + ((ushr (p0 - ((ushr p0 (1 : Int32)) &&& (1431655765 : Int32))) (2 : Int32)) &&& (858993459 : Int32))) (4 : Int32))) &&& (252645135 : Int32)) (8 : Int32))) (16 : Int32))) &&& (63 : Int32))]) (M' := M0) rfl ?_
  subst h
  rw [hk]
  exact ev_ret kc_10 rfl rfl rfl
/-- java/lang/Math.floorMod(II)I: 11, R -/
theorem kc_11 : mKc 11 = k_J9_floorMod_7cf53 := rfl
def f_J9_floorMod_7cf53 (p0 : Int32) (p1 : Int32) : Option Int32 :=
  gd (decide (¬ p1 = 0)) (bif decide (0 ≤ (p0 ^^^ p1)) then (some (rmd p0 p1)) else (bif decide ((rmd p0 p1) = 0) then (some (rmd p0 p1)) else (some ((rmd p0 p1) + p1))))
set_option maxRecDepth 8000 in
theorem c_J9_floorMod_7cf53 {p0 : Int32} {p1 : Int32} {M0 : mM} {out : Int32} (h : f_J9_floorMod_7cf53 p0 p1 = some out) : Cs (0) 11 [.int p0, .int p1] M0 (emR eI M0 out) := by
  generalize hk : emR eI M0 out = R
  replace hk := hk.symm
  unfold f_J9_floorMod_7cf53 at h
  show Ev (0) 11 0 [some (.int p0), some (.int p1), none] [] M0 R
  refine ev_go kc_11 2 (i' := 2) (L' := [some (.int p0), some (.int p1), none]) (st' := [.int p1, .int p0]) (M' := M0) rfl ?_
  obtain ⟨hg1, h⟩ := o_gd h
  refine ev_rm kc_11 rfl hg1 ?_
  rcases o_bif h with ⟨hb2, h⟩ | ⟨hb2, h⟩
  · refine ev_goT kc_11 5 (t := 14) (e := 8) (L' := [some (.int p0), some (.int p1), some (.int (rmd p0 p1))]) (st' := []) rfl hb2 ?_
    refine ev_go kc_11 1 (i' := 15) (L' := [some (.int p0), some (.int p1), some (.int (rmd p0 p1))]) (st' := [.int (rmd p0 p1)]) (M' := M0) rfl ?_
    obtain rfl := Option.some.inj h
    rw [hk]
    exact ev_ret kc_11 rfl rfl rfl
  · refine ev_goF kc_11 5 (t := 14) (e := 8) (L' := [some (.int p0), some (.int p1), some (.int (rmd p0 p1))]) (st' := []) rfl hb2 ?_
    rcases o_bif h with ⟨hb3, h⟩ | ⟨hb3, h⟩
    · refine ev_goT kc_11 2 (t := 14) (e := 10) (L' := [some (.int p0), some (.int p1), some (.int (rmd p0 p1))]) (st' := []) rfl hb3 ?_
      refine ev_go kc_11 1 (i' := 15) (L' := [some (.int p0), some (.int p1), some (.int (rmd p0 p1))]) (st' := [.int (rmd p0 p1)]) (M' := M0) rfl ?_
      obtain rfl := Option.some.inj h
      rw [hk]
      exact ev_ret kc_11 rfl rfl rfl
    · refine ev_goF kc_11 2 (t := 14) (e := 10) (L' := [some (.int p0), some (.int p1), some (.int (rmd p0 p1))]) (st' := []) rfl hb3 ?_
      refine ev_go kc_11 3 (i' := 13) (L' := [some (.int p0), some (.int p1), some (.int (rmd p0 p1))]) (st' := [.int ((rmd p0 p1) + p1)]) (M' := M0) rfl ?_
      obtain rfl := Option.some.inj h
      rw [hk]
      exact ev_ret kc_11 rfl rfl rfl
/-- WakeTower$Law.copyFrom(LWakeTower$Law;)V: 12, W -/
theorem kc_12 : mKc 12 = k_X0_copyFrom := rfl
def f_X0_copyFrom (o0 : Nat) (o1 : Nat) (M0 : mM) : Option (Unit × mM) :=
  gd (mLwB o0) (gd (mLwB o1) (gd (mIsB (M0 o1 0)) (wr (mst M0 o0 0 (M0 o1 0)) (fun M1 => wr (mst M1 o0 1 (M1 o1 1)) (fun M3 => wr (mst M3 o0 6 (M3 o1 6)) (fun M4 => gd (mAcB (o1 + 1) (o0 + 1) (0 : Int32) (0 : Int32) (12 : Int32)) (wr (mAc (o1 + 1) (o0 + 1) (0 : Int32) (0 : Int32) (12 : Int32) M4) (fun M5 => gd (mAcB (o1 + 2) (o0 + 2) (0 : Int32) (0 : Int32) (12 : Int32)) (wr (mAc (o1 + 2) (o0 + 2) (0 : Int32) (0 : Int32) (12 : Int32) M5) (fun M7 => gd (mAcB (o1 + 3) (o0 + 3) (0 : Int32) (0 : Int32) (12 : Int32)) (wr (mAc (o1 + 3) (o0 + 3) (0 : Int32) (0 : Int32) (12 : Int32) M7) (fun M9 => gd (mAcB (o1 + 4) (o0 + 4) (0 : Int32) (0 : Int32) (400 : Int32)) (wr (mAc (o1 + 4) (o0 + 4) (0 : Int32) (0 : Int32) (400 : Int32) M9) (fun M11 => some ((), M11)))))))))))))))
set_option maxRecDepth 8000 in
theorem c_X0_copyFrom {o0 : Nat} {o1 : Nat} {M0 : mM} {out : (Unit × mM)} (h : f_X0_copyFrom o0 o1 M0 = some out) : Cs (8) 12 [.ref o0, .ref o1] M0 (emW eU out) := by
  generalize hk : emW eU out = R
  replace hk := hk.symm
  unfold f_X0_copyFrom at h
  obtain ⟨go0, h⟩ := o_gd h
  obtain ⟨go1, h⟩ := o_gd h
  show Ev (8) 12 0 [some (.ref o0), some (.ref o1)] [] M0 R
  refine ev_go kc_12 2 (i' := 2) (L' := [some (.ref o0), some (.ref o1)]) (st' := [.ref o1, .ref o0]) (M' := M0) rfl ?_
  refine ev_gf kc_12 rfl (mLw0 go1) rfl ?_
  obtain ⟨hg2, h⟩ := o_gd h
  obtain ⟨M1, hM1, h⟩ := o_wr h
  refine ev_pf kc_12 rfl (mLw0 go0) rfl rfl (fun _ => mIsB_or hg2) hM1 ?_
  refine ev_go kc_12 2 (i' := 6) (L' := [some (.ref o0), some (.ref o1)]) (st' := [.ref o1, .ref o0]) (M' := M1) rfl ?_
  refine ev_gf kc_12 rfl (mLw0 go1) rfl ?_
  obtain ⟨M3, hM3, h⟩ := o_wr h
  refine ev_pf kc_12 rfl (mLw0 go0) rfl rfl (fun hc => absurd hc (by decide)) hM3 ?_
  refine ev_go kc_12 2 (i' := 10) (L' := [some (.ref o0), some (.ref o1)]) (st' := [.ref o1, .ref o0]) (M' := M3) rfl ?_
  refine ev_gf kc_12 rfl (mLw0 go1) rfl ?_
  obtain ⟨M4, hM4, h⟩ := o_wr h
  refine ev_pf kc_12 rfl (mLw0 go0) rfl rfl (fun hc => absurd hc (by decide)) hM4 ?_
  refine ev_go kc_12 1 (i' := 13) (L' := [some (.ref o0), some (.ref o1)]) (st' := [.ref o1]) (M' := M4) rfl ?_
  refine ev_gr kc_12 rfl (mLw0 go1) (j := 0) rfl ?_
  refine ev_go kc_12 2 (i' := 16) (L' := [some (.ref o0), some (.ref o1)]) (st' := [.ref o0, .int (0 : Int32), .ref (o1 + 1)]) (M' := M4) rfl ?_
  refine ev_gr kc_12 rfl (mLw0 go0) (j := 0) rfl ?_
  refine ev_go kc_12 2 (i' := 19) (L' := [some (.ref o0), some (.ref o1)]) (st' := [.int (12 : Int32), .int (0 : Int32), .ref (o0 + 1), .int (0 : Int32), .ref (o1 + 1)]) (M' := M4) rfl ?_
  obtain ⟨hg6, h⟩ := o_gd h
  obtain ⟨M5, hM5, h⟩ := o_wr h
  refine ev_ac kc_12 rfl rfl rfl rfl hg6 hM5 ?_
  refine ev_go kc_12 1 (i' := 21) (L' := [some (.ref o0), some (.ref o1)]) (st' := [.ref o1]) (M' := M5) rfl ?_
  refine ev_gr kc_12 rfl (mLw0 go1) (j := 1) rfl ?_
  refine ev_go kc_12 2 (i' := 24) (L' := [some (.ref o0), some (.ref o1)]) (st' := [.ref o0, .int (0 : Int32), .ref (o1 + 2)]) (M' := M5) rfl ?_
  refine ev_gr kc_12 rfl (mLw0 go0) (j := 1) rfl ?_
  refine ev_go kc_12 2 (i' := 27) (L' := [some (.ref o0), some (.ref o1)]) (st' := [.int (12 : Int32), .int (0 : Int32), .ref (o0 + 2), .int (0 : Int32), .ref (o1 + 2)]) (M' := M5) rfl ?_
  obtain ⟨hg8, h⟩ := o_gd h
  obtain ⟨M7, hM7, h⟩ := o_wr h
  refine ev_ac kc_12 rfl rfl rfl rfl hg8 hM7 ?_
  refine ev_go kc_12 1 (i' := 29) (L' := [some (.ref o0), some (.ref o1)]) (st' := [.ref o1]) (M' := M7) rfl ?_
  refine ev_gr kc_12 rfl (mLw0 go1) (j := 2) rfl ?_
  refine ev_go kc_12 2 (i' := 32) (L' := [some (.ref o0), some (.ref o1)]) (st' := [.ref o0, .int (0 : Int32), .ref (o1 + 3)]) (M' := M7) rfl ?_
  refine ev_gr kc_12 rfl (mLw0 go0) (j := 2) rfl ?_
  refine ev_go kc_12 2 (i' := 35) (L' := [some (.ref o0), some (.ref o1)]) (st' := [.int (12 : Int32), .int (0 : Int32), .ref (o0 + 3), .int (0 : Int32), .ref (o1 + 3)]) (M' := M7) rfl ?_
  obtain ⟨hg10, h⟩ := o_gd h
  obtain ⟨M9, hM9, h⟩ := o_wr h
  refine ev_ac kc_12 rfl rfl rfl rfl hg10 hM9 ?_
  refine ev_go kc_12 1 (i' := 37) (L' := [some (.ref o0), some (.ref o1)]) (st' := [.ref o1]) (M' := M9) rfl ?_
  refine ev_gr kc_12 rfl (mLw0 go1) (j := 3) rfl ?_
  refine ev_go kc_12 2 (i' := 40) (L' := [some (.ref o0), some (.ref o1)]) (st' := [.ref o0, .int (0 : Int32), .ref (o1 + 4)]) (M' := M9) rfl ?_
  refine ev_gr kc_12 rfl (mLw0 go0) (j := 3) rfl ?_
  refine ev_go kc_12 2 (i' := 43) (L' := [some (.ref o0), some (.ref o1)]) (st' := [.int (400 : Int32), .int (0 : Int32), .ref (o0 + 4), .int (0 : Int32), .ref (o1 + 4)]) (M' := M9) rfl ?_
  obtain ⟨hg12, h⟩ := o_gd h
  obtain ⟨M11, hM11, h⟩ := o_wr h
  refine ev_ac kc_12 rfl rfl rfl rfl hg12 hM11 ?_
  obtain rfl := Option.some.inj h
  rw [hk]
  exact ev_vret kc_12 rfl rfl rfl
/-- WakeTower$Law.clear()V: 13, W -/
theorem kc_13 : mKc 13 = k_X0_clear := rfl
def f_X0_clear (o0 : Nat) (M0 : mM) : Option (Unit × mM) :=
  gd (mLwB o0) (wr (mst M0 o0 0 (1 : Int32)) (fun M1 => wr (mst M1 o0 1 (0 : Int32)) (fun M2 => wr (mst M2 o0 6 (0 : Int32)) (fun M3 => some ((), M3)))))
set_option maxRecDepth 8000 in
theorem c_X0_clear {o0 : Nat} {M0 : mM} {out : (Unit × mM)} (h : f_X0_clear o0 M0 = some out) : Cs (0) 13 [.ref o0] M0 (emW eU out) := by
  generalize hk : emW eU out = R
  replace hk := hk.symm
  unfold f_X0_clear at h
  obtain ⟨go0, h⟩ := o_gd h
  show Ev (0) 13 0 [some (.ref o0)] [] M0 R
  refine ev_go kc_13 2 (i' := 2) (L' := [some (.ref o0)]) (st' := [.int (1 : Int32), .ref o0]) (M' := M0) rfl ?_
  obtain ⟨M1, hM1, h⟩ := o_wr h
  refine ev_pf kc_13 rfl (mLw0 go0) rfl rfl (fun _ => Or.inr rfl) hM1 ?_
  refine ev_go kc_13 2 (i' := 5) (L' := [some (.ref o0)]) (st' := [.int (0 : Int32), .ref o0]) (M' := M1) rfl ?_
  obtain ⟨M2, hM2, h⟩ := o_wr h
  refine ev_pf kc_13 rfl (mLw0 go0) rfl rfl (fun hc => absurd hc (by decide)) hM2 ?_
  refine ev_go kc_13 2 (i' := 8) (L' := [some (.ref o0)]) (st' := [.int (0 : Int32), .ref o0]) (M' := M2) rfl ?_
  obtain ⟨M3, hM3, h⟩ := o_wr h
  refine ev_pf kc_13 rfl (mLw0 go0) rfl rfl (fun hc => absurd hc (by decide)) hM3 ?_
  obtain rfl := Option.some.inj h
  rw [hk]
  exact ev_vret kc_13 rfl rfl rfl
/-- WakeTower$Law.addStep(I)V: 14, W -/
theorem kc_14 : mKc 14 = k_X0_addStep := rfl
def f_X0_addStep (o0 : Nat) (p1 : Int32) (M0 : mM) : Option (Unit × mM) :=
  gd (mLwB o0) (bif decide ((M0 o0 6) < 0) then (some ((), M0)) else (bif decide ((400 : Int32) ≤ (M0 o0 6)) then (some ((), M0)) else (gd (mIn (M0 o0 6) 400) (wr (mst M0 (o0 + 4) (ix (M0 o0 6)) p1) (fun M3 => wr (mst M3 o0 6 ((M3 o0 6) + (1 : Int32))) (fun M5 => some ((), M5)))))))
set_option maxRecDepth 8000 in
theorem c_X0_addStep {o0 : Nat} {p1 : Int32} {M0 : mM} {out : (Unit × mM)} (h : f_X0_addStep o0 p1 M0 = some out) : Cs (0) 14 [.ref o0, .int p1] M0 (emW eU out) := by
  generalize hk : emW eU out = R
  replace hk := hk.symm
  unfold f_X0_addStep at h
  obtain ⟨go0, h⟩ := o_gd h
  show Ev (0) 14 0 [some (.ref o0), some (.int p1)] [] M0 R
  refine ev_go kc_14 1 (i' := 1) (L' := [some (.ref o0), some (.int p1)]) (st' := [.ref o0]) (M' := M0) rfl ?_
  refine ev_gf kc_14 rfl (mLw0 go0) rfl ?_
  rcases o_bif h with ⟨hb1, h⟩ | ⟨hb1, h⟩
  · refine ev_goT kc_14 1 (t := 19) (e := 3) (L' := [some (.ref o0), some (.int p1)]) (st' := []) rfl hb1 ?_
    obtain rfl := Option.some.inj h
    rw [hk]
    exact ev_vret kc_14 rfl rfl rfl
  · refine ev_goF kc_14 1 (t := 19) (e := 3) (L' := [some (.ref o0), some (.int p1)]) (st' := []) rfl hb1 ?_
    refine ev_go kc_14 1 (i' := 4) (L' := [some (.ref o0), some (.int p1)]) (st' := [.ref o0]) (M' := M0) rfl ?_
    refine ev_gf kc_14 rfl (mLw0 go0) rfl ?_
    rcases o_bif h with ⟨hb2, h⟩ | ⟨hb2, h⟩
    · refine ev_goT kc_14 2 (t := 19) (e := 7) (L' := [some (.ref o0), some (.int p1)]) (st' := []) rfl hb2 ?_
      obtain rfl := Option.some.inj h
      rw [hk]
      exact ev_vret kc_14 rfl rfl rfl
    · refine ev_goF kc_14 2 (t := 19) (e := 7) (L' := [some (.ref o0), some (.int p1)]) (st' := []) rfl hb2 ?_
      refine ev_go kc_14 1 (i' := 8) (L' := [some (.ref o0), some (.int p1)]) (st' := [.ref o0]) (M' := M0) rfl ?_
      refine ev_gr kc_14 rfl (mLw0 go0) (j := 3) rfl ?_
      refine ev_go kc_14 1 (i' := 10) (L' := [some (.ref o0), some (.int p1)]) (st' := [.ref o0, .ref (o0 + 4)]) (M' := M0) rfl ?_
      refine ev_gf kc_14 rfl (mLw0 go0) rfl ?_
      refine ev_go kc_14 1 (i' := 12) (L' := [some (.ref o0), some (.int p1)]) (st' := [.int p1, .int (M0 o0 6), .ref (o0 + 4)]) (M' := M0) rfl ?_
      obtain ⟨hg4, h⟩ := o_gd h
      obtain ⟨M3, hM3, h⟩ := o_wr h
      refine ev_is kc_14 rfl (mLw4 go0) hg4 hM3 ?_
      refine ev_go kc_14 2 (i' := 15) (L' := [some (.ref o0), some (.int p1)]) (st' := [.ref o0, .ref o0]) (M' := M3) rfl ?_
      refine ev_gf kc_14 rfl (mLw0 go0) rfl ?_
      refine ev_go kc_14 2 (i' := 18) (L' := [some (.ref o0), some (.int p1)]) (st' := [.int ((M3 o0 6) + (1 : Int32)), .ref o0]) (M' := M3) rfl ?_
      obtain ⟨M5, hM5, h⟩ := o_wr h
      refine ev_pf kc_14 rfl (mLw0 go0) rfl rfl (fun hc => absurd hc (by decide)) hM5 ?_
      obtain rfl := Option.some.inj h
      rw [hk]
      exact ev_vret kc_14 rfl rfl rfl
/-- WakeTower$Law.endLine(II)V: 15, W -/
theorem kc_15 : mKc 15 = k_X0_endLine := rfl
def f_X0_endLine (o0 : Nat) (p1 : Int32) (p2 : Int32) (M0 : mM) : Option (Unit × mM) :=
  gd (mLwB o0) (bif decide ((M0 o0 1) < 0) then (some ((), M0)) else (bif decide ((12 : Int32) ≤ (M0 o0 1)) then (some ((), M0)) else (gd (mIn (M0 o0 1) 12) (wr (mst M0 (o0 + 1) (ix (M0 o0 1)) p1) (fun M3 => gd (mIn (M3 o0 1) 12) (wr (mst M3 (o0 + 2) (ix (M3 o0 1)) p2) (fun M5 => gd (mIn (M5 o0 1) 12) (wr (mst M5 (o0 + 3) (ix (M5 o0 1)) (M5 o0 6)) (fun M7 => wr (mst M7 o0 1 ((M7 o0 1) + (1 : Int32))) (fun M9 => some ((), M9)))))))))))
set_option maxRecDepth 8000 in
theorem c_X0_endLine {o0 : Nat} {p1 : Int32} {p2 : Int32} {M0 : mM} {out : (Unit × mM)} (h : f_X0_endLine o0 p1 p2 M0 = some out) : Cs (0) 15 [.ref o0, .int p1, .int p2] M0 (emW eU out) := by
  generalize hk : emW eU out = R
  replace hk := hk.symm
  unfold f_X0_endLine at h
  obtain ⟨go0, h⟩ := o_gd h
  show Ev (0) 15 0 [some (.ref o0), some (.int p1), some (.int p2)] [] M0 R
  refine ev_go kc_15 1 (i' := 1) (L' := [some (.ref o0), some (.int p1), some (.int p2)]) (st' := [.ref o0]) (M' := M0) rfl ?_
  refine ev_gf kc_15 rfl (mLw0 go0) rfl ?_
  rcases o_bif h with ⟨hb1, h⟩ | ⟨hb1, h⟩
  · refine ev_goT kc_15 1 (t := 32) (e := 3) (L' := [some (.ref o0), some (.int p1), some (.int p2)]) (st' := []) rfl hb1 ?_
    obtain rfl := Option.some.inj h
    rw [hk]
    exact ev_vret kc_15 rfl rfl rfl
  · refine ev_goF kc_15 1 (t := 32) (e := 3) (L' := [some (.ref o0), some (.int p1), some (.int p2)]) (st' := []) rfl hb1 ?_
    refine ev_go kc_15 1 (i' := 4) (L' := [some (.ref o0), some (.int p1), some (.int p2)]) (st' := [.ref o0]) (M' := M0) rfl ?_
    refine ev_gf kc_15 rfl (mLw0 go0) rfl ?_
    rcases o_bif h with ⟨hb2, h⟩ | ⟨hb2, h⟩
    · refine ev_goT kc_15 2 (t := 32) (e := 7) (L' := [some (.ref o0), some (.int p1), some (.int p2)]) (st' := []) rfl hb2 ?_
      obtain rfl := Option.some.inj h
      rw [hk]
      exact ev_vret kc_15 rfl rfl rfl
    · refine ev_goF kc_15 2 (t := 32) (e := 7) (L' := [some (.ref o0), some (.int p1), some (.int p2)]) (st' := []) rfl hb2 ?_
      refine ev_go kc_15 1 (i' := 8) (L' := [some (.ref o0), some (.int p1), some (.int p2)]) (st' := [.ref o0]) (M' := M0) rfl ?_
      refine ev_gr kc_15 rfl (mLw0 go0) (j := 0) rfl ?_
      refine ev_go kc_15 1 (i' := 10) (L' := [some (.ref o0), some (.int p1), some (.int p2)]) (st' := [.ref o0, .ref (o0 + 1)]) (M' := M0) rfl ?_
      refine ev_gf kc_15 rfl (mLw0 go0) rfl ?_
      refine ev_go kc_15 1 (i' := 12) (L' := [some (.ref o0), some (.int p1), some (.int p2)]) (st' := [.int p1, .int (M0 o0 1), .ref (o0 + 1)]) (M' := M0) rfl ?_
      obtain ⟨hg4, h⟩ := o_gd h
      obtain ⟨M3, hM3, h⟩ := o_wr h
      refine ev_is kc_15 rfl (mLw1 go0) hg4 hM3 ?_
      refine ev_go kc_15 1 (i' := 14) (L' := [some (.ref o0), some (.int p1), some (.int p2)]) (st' := [.ref o0]) (M' := M3) rfl ?_
      refine ev_gr kc_15 rfl (mLw0 go0) (j := 1) rfl ?_
      refine ev_go kc_15 1 (i' := 16) (L' := [some (.ref o0), some (.int p1), some (.int p2)]) (st' := [.ref o0, .ref (o0 + 2)]) (M' := M3) rfl ?_
      refine ev_gf kc_15 rfl (mLw0 go0) rfl ?_
      refine ev_go kc_15 1 (i' := 18) (L' := [some (.ref o0), some (.int p1), some (.int p2)]) (st' := [.int p2, .int (M3 o0 1), .ref (o0 + 2)]) (M' := M3) rfl ?_
      obtain ⟨hg6, h⟩ := o_gd h
      obtain ⟨M5, hM5, h⟩ := o_wr h
      refine ev_is kc_15 rfl (mLw2 go0) hg6 hM5 ?_
      refine ev_go kc_15 1 (i' := 20) (L' := [some (.ref o0), some (.int p1), some (.int p2)]) (st' := [.ref o0]) (M' := M5) rfl ?_
      refine ev_gr kc_15 rfl (mLw0 go0) (j := 2) rfl ?_
      refine ev_go kc_15 1 (i' := 22) (L' := [some (.ref o0), some (.int p1), some (.int p2)]) (st' := [.ref o0, .ref (o0 + 3)]) (M' := M5) rfl ?_
      refine ev_gf kc_15 rfl (mLw0 go0) rfl ?_
      refine ev_go kc_15 1 (i' := 24) (L' := [some (.ref o0), some (.int p1), some (.int p2)]) (st' := [.ref o0, .int (M5 o0 1), .ref (o0 + 3)]) (M' := M5) rfl ?_
      refine ev_gf kc_15 rfl (mLw0 go0) rfl ?_
      obtain ⟨hg8, h⟩ := o_gd h
      obtain ⟨M7, hM7, h⟩ := o_wr h
      refine ev_is kc_15 rfl (mLw3 go0) hg8 hM7 ?_
      refine ev_go kc_15 2 (i' := 28) (L' := [some (.ref o0), some (.int p1), some (.int p2)]) (st' := [.ref o0, .ref o0]) (M' := M7) rfl ?_
      refine ev_gf kc_15 rfl (mLw0 go0) rfl ?_
      refine ev_go kc_15 2 (i' := 31) (L' := [some (.ref o0), some (.int p1), some (.int p2)]) (st' := [.int ((M7 o0 1) + (1 : Int32)), .ref o0]) (M' := M7) rfl ?_
      obtain ⟨M9, hM9, h⟩ := o_wr h
      refine ev_pf kc_15 rfl (mLw0 go0) rfl rfl (fun hc => absurd hc (by decide)) hM9 ?_
      obtain rfl := Option.some.inj h
      rw [hk]
      exact ev_vret kc_15 rfl rfl rfl
/-- WakeTower$Tower.holders()I: 76, R -/
theorem kc_76 : mKc 76 = k_X9_holders := rfl
def f_X9_holders (o0 : Nat) (M0 : mM) : Option Int32 :=
  gd (mTwB o0) (some ((M0 o0 1) &&& ((M0 o0 2) ^^^ (-1 : Int32))))
set_option maxRecDepth 8000 in
theorem c_X9_holders {o0 : Nat} {M0 : mM} {out : Int32} (h : f_X9_holders o0 M0 = some out) : Cs (0) 76 [.ref o0] M0 (emR eI M0 out) := by
  generalize hk : emR eI M0 out = R
  replace hk := hk.symm
  unfold f_X9_holders at h
  obtain ⟨go0, h⟩ := o_gd h
  show Ev (0) 76 0 [some (.ref o0)] [] M0 R
  refine ev_go kc_76 1 (i' := 1) (L' := [some (.ref o0)]) (st' := [.ref o0]) (M' := M0) rfl ?_
  refine ev_gf kc_76 rfl (mTw0 go0) rfl ?_
  refine ev_go kc_76 1 (i' := 3) (L' := [some (.ref o0)]) (st' := [.ref o0, .int (M0 o0 1)]) (M' := M0) rfl ?_
  refine ev_gf kc_76 rfl (mTw0 go0) rfl ?_
  refine ev_go kc_76 3 (i' := 7) (L' := [some (.ref o0)]) (st' := [.int ((M0 o0 1) &&& ((M0 o0 2) ^^^ (-1 : Int32)))]) (M' := M0) rfl ?_
  obtain rfl := Option.some.inj h
  rw [hk]
  exact ev_ret kc_76 rfl rfl rfl
/-- WakeTower.has(II)Z: 178, P -/
theorem kc_178 : mKc 178 = k_X11_has := rfl
def f_X11_has (p0 : Int32) (p1 : Int32) : Bool :=
  bif decide (((p0 >>> (p1 &&& (31 : Int32))) &&& (1 : Int32)) = 0) then false else true
set_option maxRecDepth 8000 in
theorem c_X11_has {p0 : Int32} {p1 : Int32} {M0 : mM} : Cs (0) 178 [.int p0, .int p1] M0 (emR eB M0 (f_X11_has p0 p1)) := by
  generalize h : f_X11_has p0 p1 = out
  generalize hk : emR eB M0 out = R
  replace hk := hk.symm
  unfold f_X11_has at h
  show Ev (0) 178 0 [some (.int p0), some (.int p1)] [] M0 R
  rcases o_bif h with ⟨hb1, h⟩ | ⟨hb1, h⟩
  · refine ev_goT kc_178 6 (t := 8) (e := 6) (L' := [some (.int p0), some (.int p1)]) (st' := []) rfl hb1 ?_
    refine ev_go kc_178 1 (i' := 9) (L' := [some (.int p0), some (.int p1)]) (st' := [.int (0 : Int32)]) (M' := M0) rfl ?_
    subst h
    rw [hk]
    exact ev_ret kc_178 rfl rfl rfl
  · refine ev_goF kc_178 6 (t := 8) (e := 6) (L' := [some (.int p0), some (.int p1)]) (st' := []) rfl hb1 ?_
    refine ev_go kc_178 2 (i' := 9) (L' := [some (.int p0), some (.int p1)]) (st' := [.int (1 : Int32)]) (M' := M0) rfl ?_
    subst h
    rw [hk]
    exact ev_ret kc_178 rfl rfl rfl
/-- WakeTower$Law.untold(ILWakeTower$Tower;I)I: 17, R -/
theorem kc_17 : mKc 17 = k_X0_untold := rfl
def f_X0_untold (p0 : Int32) (o1 : Nat) (p2 : Int32) (M0 : mM) : Option Int32 :=
  gd (mTwB o1) (bif decide (¬ p0 = (2 : Int32)) then (b1 (f_X9_holders o1 M0) (fun v2 => bif (f_X11_has v2 p2) then (bif decide (¬ p0 = 0) then (some (0 : Int32)) else (some (5 : Int32))) else (bif decide (¬ p0 = (1 : Int32)) then (some (0 : Int32)) else (some (10 : Int32))))) else (gd (mIn p2 8) (some (M0 (o1 + 4) (ix p2)))))
set_option maxRecDepth 8000 in
theorem c_X0_untold {p0 : Int32} {o1 : Nat} {p2 : Int32} {M0 : mM} {out : Int32} (h : f_X0_untold p0 o1 p2 M0 = some out) : Cs (1) 17 [.int p0, .ref o1, .int p2] M0 (emR eI M0 out) := by
  generalize hk : emR eI M0 out = R
  replace hk := hk.symm
  unfold f_X0_untold at h
  obtain ⟨go1, h⟩ := o_gd h
  show Ev (1) 17 0 [some (.int p0), some (.ref o1), some (.int p2)] [] M0 R
  rcases o_bif h with ⟨hb1, h⟩ | ⟨hb1, h⟩
  · refine ev_goT kc_17 3 (t := 8) (e := 3) (L' := [some (.int p0), some (.ref o1), some (.int p2)]) (st' := []) rfl hb1 ?_
    refine ev_go kc_17 1 (i' := 9) (L' := [some (.int p0), some (.ref o1), some (.int p2)]) (st' := [.ref o1]) (M' := M0) rfl ?_
    obtain ⟨v2, hc2, h⟩ := o_b1 h
    refine ev_cl0 (ins := .invokevirtual 57) kc_17 rfl rfl (a := 76) (as := [.ref o1]) (rest := []) rfl (m_rec (mTw0 go1)) (Cs.deep (c_X9_holders (M0 := M0) hc2) (by decide)) ?_
    refine ev_go kc_17 1 (i' := 11) (L' := [some (.int p0), some (.ref o1), some (.int p2)]) (st' := [.int p2, .int v2]) (M' := M0) rfl ?_
    refine ev_cl0 (ins := .invokestatic 61) kc_17 rfl rfl (a := 178) (as := [.int v2, .int p2]) (rest := []) rfl rfl (Cs.deep (c_X11_has (M0 := M0)) (by decide)) ?_
    rcases o_bif h with ⟨hb4, h⟩ | ⟨hb4, h⟩
    · refine ev_goF kc_17 1 (t := 19) (e := 13) (L' := [some (.int p0), some (.ref o1), some (.int p2)]) (st' := []) rfl (mB_e0f hb4) ?_
      rcases o_bif h with ⟨hb5, h⟩ | ⟨hb5, h⟩
      · refine ev_goT kc_17 2 (t := 17) (e := 15) (L' := [some (.int p0), some (.ref o1), some (.int p2)]) (st' := []) rfl hb5 ?_
        refine ev_go kc_17 1 (i' := 18) (L' := [some (.int p0), some (.ref o1), some (.int p2)]) (st' := [.int (0 : Int32)]) (M' := M0) rfl ?_
        obtain rfl := Option.some.inj h
        rw [hk]
        exact ev_ret kc_17 rfl rfl rfl
      · refine ev_goF kc_17 2 (t := 17) (e := 15) (L' := [some (.int p0), some (.ref o1), some (.int p2)]) (st' := []) rfl hb5 ?_
        refine ev_go kc_17 2 (i' := 18) (L' := [some (.int p0), some (.ref o1), some (.int p2)]) (st' := [.int (5 : Int32)]) (M' := M0) rfl ?_
        obtain rfl := Option.some.inj h
        rw [hk]
        exact ev_ret kc_17 rfl rfl rfl
    · refine ev_goT kc_17 1 (t := 19) (e := 13) (L' := [some (.int p0), some (.ref o1), some (.int p2)]) (st' := []) rfl (mB_e0t hb4) ?_
      rcases o_bif h with ⟨hb6, h⟩ | ⟨hb6, h⟩
      · refine ev_goT kc_17 3 (t := 24) (e := 22) (L' := [some (.int p0), some (.ref o1), some (.int p2)]) (st' := []) rfl hb6 ?_
        refine ev_go kc_17 1 (i' := 25) (L' := [some (.int p0), some (.ref o1), some (.int p2)]) (st' := [.int (0 : Int32)]) (M' := M0) rfl ?_
        obtain rfl := Option.some.inj h
        rw [hk]
        exact ev_ret kc_17 rfl rfl rfl
      · refine ev_goF kc_17 3 (t := 24) (e := 22) (L' := [some (.int p0), some (.ref o1), some (.int p2)]) (st' := []) rfl hb6 ?_
        refine ev_go kc_17 2 (i' := 25) (L' := [some (.int p0), some (.ref o1), some (.int p2)]) (st' := [.int (10 : Int32)]) (M' := M0) rfl ?_
        obtain rfl := Option.some.inj h
        rw [hk]
        exact ev_ret kc_17 rfl rfl rfl
  · refine ev_goF kc_17 3 (t := 8) (e := 3) (L' := [some (.int p0), some (.ref o1), some (.int p2)]) (st' := []) rfl hb1 ?_
    refine ev_go kc_17 1 (i' := 4) (L' := [some (.int p0), some (.ref o1), some (.int p2)]) (st' := [.ref o1]) (M' := M0) rfl ?_
    refine ev_gr kc_17 rfl (mTw0 go1) (j := 3) rfl ?_
    refine ev_go kc_17 1 (i' := 6) (L' := [some (.int p0), some (.ref o1), some (.int p2)]) (st' := [.int p2, .ref (o1 + 4)]) (M' := M0) rfl ?_
    obtain ⟨hg7, h⟩ := o_gd h
    refine ev_ia kc_17 rfl (mTw4 go1) hg7 ?_
    obtain rfl := Option.some.inj h
    rw [hk]
    exact ev_ret kc_17 rfl rfl rfl
/-- WakeTower$Law.ofTwo(III)I: 19, R -/
theorem kc_19 : mKc 19 = k_X0_ofTwo := rfl
def f_X0_ofTwo (p0 : Int32) (p1 : Int32) (p2 : Int32) : Option Int32 :=
  bif decide (swN p0 (1011) 4 = 0) then (some (p1 &&& p2)) else (bif decide (swN p0 (1011) 4 = 1) then (some (p1 ||| p2)) else (bif decide (swN p0 (1011) 4 = 2) then (some (p1 + p2)) else (bif decide (swN p0 (1011) 4 = 3) then (bif decide (p2 ≤ p1) then (some (0 : Int32)) else (some (1 : Int32))) else (bif decide (p1 ≤ p2) then (some (0 : Int32)) else (some (1 : Int32))))))
set_option maxRecDepth 8000 in
theorem c_X0_ofTwo {p0 : Int32} {p1 : Int32} {p2 : Int32} {M0 : mM} {out : Int32} (h : f_X0_ofTwo p0 p1 p2 = some out) : Cs (0) 19 [.int p0, .int p1, .int p2] M0 (emR eI M0 out) := by
  generalize hk : emR eI M0 out = R
  replace hk := hk.symm
  unfold f_X0_ofTwo at h
  show Ev (0) 19 0 [some (.int p0), some (.int p1), some (.int p2)] [] M0 R
  refine ev_go kc_19 1 (i' := 1) (L' := [some (.int p0), some (.int p1), some (.int p2)]) (st' := [.int p0]) (M' := M0) rfl ?_
  rcases o_bif h with ⟨hb1, h⟩ | ⟨hb1, h⟩
  · refine ev_sw kc_19 rfl (n := 4) (t := 2) rfl rfl hb1 rfl rfl ?_
    refine ev_go kc_19 3 (i' := 5) (L' := [some (.int p0), some (.int p1), some (.int p2)]) (st' := [.int (p1 &&& p2)]) (M' := M0) rfl ?_
    obtain rfl := Option.some.inj h
    rw [hk]
    exact ev_ret kc_19 rfl rfl rfl
  rcases o_bif h with ⟨hb2, h⟩ | ⟨hb2, h⟩
  · refine ev_sw kc_19 rfl (n := 4) (t := 6) rfl rfl hb2 rfl rfl ?_
    refine ev_go kc_19 3 (i' := 9) (L' := [some (.int p0), some (.int p1), some (.int p2)]) (st' := [.int (p1 ||| p2)]) (M' := M0) rfl ?_
    obtain rfl := Option.some.inj h
    rw [hk]
    exact ev_ret kc_19 rfl rfl rfl
  rcases o_bif h with ⟨hb3, h⟩ | ⟨hb3, h⟩
  · refine ev_sw kc_19 rfl (n := 4) (t := 10) rfl rfl hb3 rfl rfl ?_
    refine ev_go kc_19 3 (i' := 13) (L' := [some (.int p0), some (.int p1), some (.int p2)]) (st' := [.int (p1 + p2)]) (M' := M0) rfl ?_
    obtain rfl := Option.some.inj h
    rw [hk]
    exact ev_ret kc_19 rfl rfl rfl
  rcases o_bif h with ⟨hb4, h⟩ | ⟨hb4, h⟩
  · refine ev_sw kc_19 rfl (n := 4) (t := 14) rfl rfl hb4 rfl rfl ?_
    rcases o_bif h with ⟨hb5, h⟩ | ⟨hb5, h⟩
    · refine ev_goT kc_19 3 (t := 19) (e := 17) (L' := [some (.int p0), some (.int p1), some (.int p2)]) (st' := []) rfl hb5 ?_
      refine ev_go kc_19 1 (i' := 20) (L' := [some (.int p0), some (.int p1), some (.int p2)]) (st' := [.int (0 : Int32)]) (M' := M0) rfl ?_
      obtain rfl := Option.some.inj h
      rw [hk]
      exact ev_ret kc_19 rfl rfl rfl
    · refine ev_goF kc_19 3 (t := 19) (e := 17) (L' := [some (.int p0), some (.int p1), some (.int p2)]) (st' := []) rfl hb5 ?_
      refine ev_go kc_19 2 (i' := 20) (L' := [some (.int p0), some (.int p1), some (.int p2)]) (st' := [.int (1 : Int32)]) (M' := M0) rfl ?_
      obtain rfl := Option.some.inj h
      rw [hk]
      exact ev_ret kc_19 rfl rfl rfl
  have hsw : swN p0 (1011) 4 = 4 := by
    have := swN_le p0 (1011) 4
    have hb1 := of_decide_eq_false hb1
    have hb2 := of_decide_eq_false hb2
    have hb3 := of_decide_eq_false hb3
    have hb4 := of_decide_eq_false hb4
    omega
  refine ev_swD kc_19 rfl (n := 4) rfl rfl hsw ?_
  rcases o_bif h with ⟨hb6, h⟩ | ⟨hb6, h⟩
  · refine ev_goT kc_19 3 (t := 26) (e := 24) (L' := [some (.int p0), some (.int p1), some (.int p2)]) (st' := []) rfl hb6 ?_
    refine ev_go kc_19 1 (i' := 27) (L' := [some (.int p0), some (.int p1), some (.int p2)]) (st' := [.int (0 : Int32)]) (M' := M0) rfl ?_
    obtain rfl := Option.some.inj h
    rw [hk]
    exact ev_ret kc_19 rfl rfl rfl
  · refine ev_goF kc_19 3 (t := 26) (e := 24) (L' := [some (.int p0), some (.int p1), some (.int p2)]) (st' := []) rfl hb6 ?_
    refine ev_go kc_19 2 (i' := 27) (L' := [some (.int p0), some (.int p1), some (.int p2)]) (st' := [.int (1 : Int32)]) (M' := M0) rfl ?_
    obtain rfl := Option.some.inj h
    rw [hk]
    exact ev_ret kc_19 rfl rfl rfl
/-- WakeTower$Law.ofOne(ILWakeTower$Tower;I)I: 20, R -/
theorem kc_20 : mKc 20 = k_X0_ofOne := rfl
def f_X0_ofOne (p0 : Int32) (o1 : Nat) (p2 : Int32) (M0 : mM) : Option Int32 :=
  gd (mTwB o1) (bif decide (swN p0 (1000) 9 = 0) then (some p2) else (bif decide (swN p0 (1000) 9 = 1) then (bif (f_X11_has (M0 o1 1) p2) then (gd (mIn p2 8) (some (M0 (o1 + 5) (ix p2)))) else (some (0 : Int32))) else (bif decide (swN p0 (1000) 9 = 2) then (gd (mIn p2 8) (some (M0 (o1 + 7) (ix p2)))) else (bif decide (swN p0 (1000) 9 = 3) then (gd (mIn p2 8) (some (M0 (o1 + 3) (ix p2)))) else (bif decide (swN p0 (1000) 9 = 4) then (gd (mIn p2 8) (some (M0 (o1 + 1) (ix p2)))) else (bif decide (swN p0 (1000) 9 = 5) then (gd (mIn p2 8) (some (M0 (o1 + 4) (ix p2)))) else (bif decide (swN p0 (1000) 9 = 6) then (some (M0 o1 3)) else (bif decide (swN p0 (1000) 9 = 7) then (bif (f_X11_has (M0 o1 2) p2) then (some (1 : Int32)) else (some (0 : Int32))) else (bif decide (swN p0 (1000) 9 = 8) then (bif (f_X11_has (M0 o1 1) p2) then (some (0 : Int32)) else (some (1 : Int32))) else (bif (f_X11_has ((M0 o1 1) &&& ((M0 o1 14) ^^^ (-1 : Int32))) p2) then (some (1 : Int32)) else (some (0 : Int32))))))))))))
set_option maxRecDepth 8000 in
theorem c_X0_ofOne {p0 : Int32} {o1 : Nat} {p2 : Int32} {M0 : mM} {out : Int32} (h : f_X0_ofOne p0 o1 p2 M0 = some out) : Cs (1) 20 [.int p0, .ref o1, .int p2] M0 (emR eI M0 out) := by
  generalize hk : emR eI M0 out = R
  replace hk := hk.symm
  unfold f_X0_ofOne at h
  obtain ⟨go1, h⟩ := o_gd h
  show Ev (1) 20 0 [some (.int p0), some (.ref o1), some (.int p2), none] [] M0 R
  refine ev_go kc_20 1 (i' := 1) (L' := [some (.int p0), some (.ref o1), some (.int p2), none]) (st' := [.ref o1]) (M' := M0) rfl ?_
  refine ev_gf kc_20 rfl (mTw0 go1) rfl ?_
  refine ev_go kc_20 1 (i' := 3) (L' := [some (.int p0), some (.ref o1), some (.int p2), none]) (st' := [.int p2, .int (M0 o1 1)]) (M' := M0) rfl ?_
  refine ev_cl0 (ins := .invokestatic 61) kc_20 rfl rfl (a := 178) (as := [.int (M0 o1 1), .int p2]) (rest := []) rfl rfl (Cs.deep (c_X11_has (M0 := M0)) (by decide)) ?_
  refine ev_go kc_20 2 (i' := 6) (L' := [some (.int p0), some (.ref o1), some (.int p2), some (.int (mB (f_X11_has (M0 o1 1) p2)))]) (st' := [.int p0]) (M' := M0) rfl ?_
  rcases o_bif h with ⟨hb2, h⟩ | ⟨hb2, h⟩
  · refine ev_sw kc_20 rfl (n := 9) (t := 7) rfl rfl hb2 rfl rfl ?_
    refine ev_go kc_20 1 (i' := 8) (L' := [some (.int p0), some (.ref o1), some (.int p2), some (.int (mB (f_X11_has (M0 o1 1) p2)))]) (st' := [.int p2]) (M' := M0) rfl ?_
    obtain rfl := Option.some.inj h
    rw [hk]
    exact ev_ret kc_20 rfl rfl rfl
  rcases o_bif h with ⟨hb3, h⟩ | ⟨hb3, h⟩
  · refine ev_sw kc_20 rfl (n := 9) (t := 9) rfl rfl hb3 rfl rfl ?_
    rcases o_bif h with ⟨hb4, h⟩ | ⟨hb4, h⟩
    · refine ev_goF kc_20 2 (t := 16) (e := 11) (L' := [some (.int p0), some (.ref o1), some (.int p2), some (.int (mB (f_X11_has (M0 o1 1) p2)))]) (st' := []) rfl (mB_e0f hb4) ?_
      refine ev_go kc_20 1 (i' := 12) (L' := [some (.int p0), some (.ref o1), some (.int p2), some (.int (mB (f_X11_has (M0 o1 1) p2)))]) (st' := [.ref o1]) (M' := M0) rfl ?_
      refine ev_gr kc_20 rfl (mTw0 go1) (j := 4) rfl ?_
      refine ev_go kc_20 1 (i' := 14) (L' := [some (.int p0), some (.ref o1), some (.int p2), some (.int (mB (f_X11_has (M0 o1 1) p2)))]) (st' := [.int p2, .ref (o1 + 5)]) (M' := M0) rfl ?_
      obtain ⟨hg5, h⟩ := o_gd h
      refine ev_ia kc_20 rfl (mTw5 go1) hg5 ?_
      refine ev_go kc_20 1 (i' := 17) (L' := [some (.int p0), some (.ref o1), some (.int p2), some (.int (mB (f_X11_has (M0 o1 1) p2)))]) (st' := [.int (M0 (o1 + 5) (ix p2))]) (M' := M0) rfl ?_
      obtain rfl := Option.some.inj h
      rw [hk]
      exact ev_ret kc_20 rfl rfl rfl
    · refine ev_goT kc_20 2 (t := 16) (e := 11) (L' := [some (.int p0), some (.ref o1), some (.int p2), some (.int (mB (f_X11_has (M0 o1 1) p2)))]) (st' := []) rfl (mB_e0t hb4) ?_
      refine ev_go kc_20 1 (i' := 17) (L' := [some (.int p0), some (.ref o1), some (.int p2), some (.int (mB (f_X11_has (M0 o1 1) p2)))]) (st' := [.int (0 : Int32)]) (M' := M0) rfl ?_
      obtain rfl := Option.some.inj h
      rw [hk]
      exact ev_ret kc_20 rfl rfl rfl
  rcases o_bif h with ⟨hb6, h⟩ | ⟨hb6, h⟩
  · refine ev_sw kc_20 rfl (n := 9) (t := 18) rfl rfl hb6 rfl rfl ?_
    refine ev_go kc_20 1 (i' := 19) (L' := [some (.int p0), some (.ref o1), some (.int p2), some (.int (mB (f_X11_has (M0 o1 1) p2)))]) (st' := [.ref o1]) (M' := M0) rfl ?_
    refine ev_gr kc_20 rfl (mTw0 go1) (j := 6) rfl ?_
    refine ev_go kc_20 1 (i' := 21) (L' := [some (.int p0), some (.ref o1), some (.int p2), some (.int (mB (f_X11_has (M0 o1 1) p2)))]) (st' := [.int p2, .ref (o1 + 7)]) (M' := M0) rfl ?_
    obtain ⟨hg7, h⟩ := o_gd h
    refine ev_ia kc_20 rfl (mTw7 go1) hg7 ?_
    obtain rfl := Option.some.inj h
    rw [hk]
    exact ev_ret kc_20 rfl rfl rfl
  rcases o_bif h with ⟨hb8, h⟩ | ⟨hb8, h⟩
  · refine ev_sw kc_20 rfl (n := 9) (t := 23) rfl rfl hb8 rfl rfl ?_
    refine ev_go kc_20 1 (i' := 24) (L' := [some (.int p0), some (.ref o1), some (.int p2), some (.int (mB (f_X11_has (M0 o1 1) p2)))]) (st' := [.ref o1]) (M' := M0) rfl ?_
    refine ev_gr kc_20 rfl (mTw0 go1) (j := 2) rfl ?_
    refine ev_go kc_20 1 (i' := 26) (L' := [some (.int p0), some (.ref o1), some (.int p2), some (.int (mB (f_X11_has (M0 o1 1) p2)))]) (st' := [.int p2, .ref (o1 + 3)]) (M' := M0) rfl ?_
    obtain ⟨hg9, h⟩ := o_gd h
    refine ev_ia kc_20 rfl (mTw3 go1) hg9 ?_
    obtain rfl := Option.some.inj h
    rw [hk]
    exact ev_ret kc_20 rfl rfl rfl
  rcases o_bif h with ⟨hb10, h⟩ | ⟨hb10, h⟩
  · refine ev_sw kc_20 rfl (n := 9) (t := 28) rfl rfl hb10 rfl rfl ?_
    refine ev_go kc_20 1 (i' := 29) (L' := [some (.int p0), some (.ref o1), some (.int p2), some (.int (mB (f_X11_has (M0 o1 1) p2)))]) (st' := [.ref o1]) (M' := M0) rfl ?_
    refine ev_gr kc_20 rfl (mTw0 go1) (j := 0) rfl ?_
    refine ev_go kc_20 1 (i' := 31) (L' := [some (.int p0), some (.ref o1), some (.int p2), some (.int (mB (f_X11_has (M0 o1 1) p2)))]) (st' := [.int p2, .ref (o1 + 1)]) (M' := M0) rfl ?_
    obtain ⟨hg11, h⟩ := o_gd h
    refine ev_ia kc_20 rfl (mTw1 go1) hg11 ?_
    obtain rfl := Option.some.inj h
    rw [hk]
    exact ev_ret kc_20 rfl rfl rfl
  rcases o_bif h with ⟨hb12, h⟩ | ⟨hb12, h⟩
  · refine ev_sw kc_20 rfl (n := 9) (t := 33) rfl rfl hb12 rfl rfl ?_
    refine ev_go kc_20 1 (i' := 34) (L' := [some (.int p0), some (.ref o1), some (.int p2), some (.int (mB (f_X11_has (M0 o1 1) p2)))]) (st' := [.ref o1]) (M' := M0) rfl ?_
    refine ev_gr kc_20 rfl (mTw0 go1) (j := 3) rfl ?_
    refine ev_go kc_20 1 (i' := 36) (L' := [some (.int p0), some (.ref o1), some (.int p2), some (.int (mB (f_X11_has (M0 o1 1) p2)))]) (st' := [.int p2, .ref (o1 + 4)]) (M' := M0) rfl ?_
    obtain ⟨hg13, h⟩ := o_gd h
    refine ev_ia kc_20 rfl (mTw4 go1) hg13 ?_
    obtain rfl := Option.some.inj h
    rw [hk]
    exact ev_ret kc_20 rfl rfl rfl
  rcases o_bif h with ⟨hb14, h⟩ | ⟨hb14, h⟩
  · refine ev_sw kc_20 rfl (n := 9) (t := 38) rfl rfl hb14 rfl rfl ?_
    refine ev_go kc_20 1 (i' := 39) (L' := [some (.int p0), some (.ref o1), some (.int p2), some (.int (mB (f_X11_has (M0 o1 1) p2)))]) (st' := [.ref o1]) (M' := M0) rfl ?_
    refine ev_gf kc_20 rfl (mTw0 go1) rfl ?_
    obtain rfl := Option.some.inj h
    rw [hk]
    exact ev_ret kc_20 rfl rfl rfl
  rcases o_bif h with ⟨hb15, h⟩ | ⟨hb15, h⟩
  · refine ev_sw kc_20 rfl (n := 9) (t := 41) rfl rfl hb15 rfl rfl ?_
    refine ev_go kc_20 1 (i' := 42) (L' := [some (.int p0), some (.ref o1), some (.int p2), some (.int (mB (f_X11_has (M0 o1 1) p2)))]) (st' := [.ref o1]) (M' := M0) rfl ?_
    refine ev_gf kc_20 rfl (mTw0 go1) rfl ?_
    refine ev_go kc_20 1 (i' := 44) (L' := [some (.int p0), some (.ref o1), some (.int p2), some (.int (mB (f_X11_has (M0 o1 1) p2)))]) (st' := [.int p2, .int (M0 o1 2)]) (M' := M0) rfl ?_
    refine ev_cl0 (ins := .invokestatic 61) kc_20 rfl rfl (a := 178) (as := [.int (M0 o1 2), .int p2]) (rest := []) rfl rfl (Cs.deep (c_X11_has (M0 := M0)) (by decide)) ?_
    rcases o_bif h with ⟨hb17, h⟩ | ⟨hb17, h⟩
    · refine ev_goF kc_20 1 (t := 48) (e := 46) (L' := [some (.int p0), some (.ref o1), some (.int p2), some (.int (mB (f_X11_has (M0 o1 1) p2)))]) (st' := []) rfl (mB_e0f hb17) ?_
      refine ev_go kc_20 2 (i' := 49) (L' := [some (.int p0), some (.ref o1), some (.int p2), some (.int (mB (f_X11_has (M0 o1 1) p2)))]) (st' := [.int (1 : Int32)]) (M' := M0) rfl ?_
      obtain rfl := Option.some.inj h
      rw [hk]
      exact ev_ret kc_20 rfl rfl rfl
    · refine ev_goT kc_20 1 (t := 48) (e := 46) (L' := [some (.int p0), some (.ref o1), some (.int p2), some (.int (mB (f_X11_has (M0 o1 1) p2)))]) (st' := []) rfl (mB_e0t hb17) ?_
      refine ev_go kc_20 1 (i' := 49) (L' := [some (.int p0), some (.ref o1), some (.int p2), some (.int (mB (f_X11_has (M0 o1 1) p2)))]) (st' := [.int (0 : Int32)]) (M' := M0) rfl ?_
      obtain rfl := Option.some.inj h
      rw [hk]
      exact ev_ret kc_20 rfl rfl rfl
  rcases o_bif h with ⟨hb18, h⟩ | ⟨hb18, h⟩
  · refine ev_sw kc_20 rfl (n := 9) (t := 50) rfl rfl hb18 rfl rfl ?_
    rcases o_bif h with ⟨hb19, h⟩ | ⟨hb19, h⟩
    · refine ev_goF kc_20 2 (t := 54) (e := 52) (L' := [some (.int p0), some (.ref o1), some (.int p2), some (.int (mB (f_X11_has (M0 o1 1) p2)))]) (st' := []) rfl (mB_e0f hb19) ?_
      refine ev_go kc_20 2 (i' := 55) (L' := [some (.int p0), some (.ref o1), some (.int p2), some (.int (mB (f_X11_has (M0 o1 1) p2)))]) (st' := [.int (0 : Int32)]) (M' := M0) rfl ?_
      obtain rfl := Option.some.inj h
      rw [hk]
      exact ev_ret kc_20 rfl rfl rfl
    · refine ev_goT kc_20 2 (t := 54) (e := 52) (L' := [some (.int p0), some (.ref o1), some (.int p2), some (.int (mB (f_X11_has (M0 o1 1) p2)))]) (st' := []) rfl (mB_e0t hb19) ?_
      refine ev_go kc_20 1 (i' := 55) (L' := [some (.int p0), some (.ref o1), some (.int p2), some (.int (mB (f_X11_has (M0 o1 1) p2)))]) (st' := [.int (1 : Int32)]) (M' := M0) rfl ?_
      obtain rfl := Option.some.inj h
      rw [hk]
      exact ev_ret kc_20 rfl rfl rfl
  have hsw : swN p0 (1000) 9 = 9 := by
    have := swN_le p0 (1000) 9
    have hb2 := of_decide_eq_false hb2
    have hb3 := of_decide_eq_false hb3
    have hb6 := of_decide_eq_false hb6
    have hb8 := of_decide_eq_false hb8
    have hb10 := of_decide_eq_false hb10
    have hb12 := of_decide_eq_false hb12
    have hb14 := of_decide_eq_false hb14
    have hb15 := of_decide_eq_false hb15
    have hb18 := of_decide_eq_false hb18
    omega
  refine ev_swD kc_20 rfl (n := 9) rfl rfl hsw ?_
  refine ev_go kc_20 1 (i' := 57) (L' := [some (.int p0), some (.ref o1), some (.int p2), some (.int (mB (f_X11_has (M0 o1 1) p2)))]) (st' := [.ref o1]) (M' := M0) rfl ?_
  refine ev_gf kc_20 rfl (mTw0 go1) rfl ?_
  refine ev_go kc_20 1 (i' := 59) (L' := [some (.int p0), some (.ref o1), some (.int p2), some (.int (mB (f_X11_has (M0 o1 1) p2)))]) (st' := [.ref o1, .int (M0 o1 1)]) (M' := M0) rfl ?_
  refine ev_gf kc_20 rfl (mTw0 go1) rfl ?_
  refine ev_go kc_20 4 (i' := 64) (L' := [some (.int p0), some (.ref o1), some (.int p2), some (.int (mB (f_X11_has (M0 o1 1) p2)))]) (st' := [.int p2, .int ((M0 o1 1) &&& ((M0 o1 14) ^^^ (-1 : Int32)))]) (M' := M0) rfl ?_
  refine ev_cl0 (ins := .invokestatic 61) kc_20 rfl rfl (a := 178) (as := [.int ((M0 o1 1) &&& ((M0 o1 14) ^^^ (-1 : Int32))), .int p2]) (rest := []) rfl rfl (Cs.deep (c_X11_has (M0 := M0)) (by decide)) ?_
  rcases o_bif h with ⟨hb21, h⟩ | ⟨hb21, h⟩
  · refine ev_goF kc_20 1 (t := 68) (e := 66) (L' := [some (.int p0), some (.ref o1), some (.int p2), some (.int (mB (f_X11_has (M0 o1 1) p2)))]) (st' := []) rfl (mB_e0f hb21) ?_
    refine ev_go kc_20 2 (i' := 69) (L' := [some (.int p0), some (.ref o1), some (.int p2), some (.int (mB (f_X11_has (M0 o1 1) p2)))]) (st' := [.int (1 : Int32)]) (M' := M0) rfl ?_
    obtain rfl := Option.some.inj h
    rw [hk]
    exact ev_ret kc_20 rfl rfl rfl
  · refine ev_goT kc_20 1 (t := 68) (e := 66) (L' := [some (.int p0), some (.ref o1), some (.int p2), some (.int (mB (f_X11_has (M0 o1 1) p2)))]) (st' := []) rfl (mB_e0t hb21) ?_
    refine ev_go kc_20 1 (i' := 69) (L' := [some (.int p0), some (.ref o1), some (.int p2), some (.int (mB (f_X11_has (M0 o1 1) p2)))]) (st' := [.int (0 : Int32)]) (M' := M0) rfl ?_
    obtain rfl := Option.some.inj h
    rw [hk]
    exact ev_ret kc_20 rfl rfl rfl
/-- WakeTower$Law.holdsFor(LWakeTower$Tower;III)Z: 18, W -/
theorem kc_18 : mKc 18 = k_X0_holdsFor := rfl
def f_X0_holdsFor_89 (o0 : Nat) (o1 : Nat) (l2 : Int32) (l4 : Int32) (l5 : Int32) (l6 : Int32) (s1 : Int32) (s2 : Int32) (M0 : mM) : Option ((Bool × mM) ⊕ (Int32 × Int32 × mM)) :=
  gd (mIn s1 64) (wr (mst M0 (o0 + 5) (ix s1) s2) (fun M1 => some (.inr ((l5 + (1 : Int32)), (l6 + (1 : Int32)), M1))))
set_option maxRecDepth 8000 in
theorem e_X0_holdsFor_89 {o0 : Nat} {o1 : Nat} {l2 : Int32} {l4 : Int32} {l5 : Int32} {l6 : Int32} {s1 : Int32} {s2 : Int32} {M0 : mM} {R : mZ} {out : ((Bool × mM) ⊕ (Int32 × Int32 × mM))} (go0 : mLwB o0 = true) (go1 : mTwB o1 = true) (h : f_X0_holdsFor_89 o0 o1 l2 l4 l5 l6 s1 s2 M0 = some out) (hk : (∀ s' : Int32 × Int32 × mM, out = .inr s' → Ev (8) 18 6 [some (.ref o0), some (.ref o1), some (.int l2), none, some (.int l4), some (.int s'.1), some (.int s'.2.1), none] [] (s'.2.2) R) ∧ (∀ e1 : (Bool × mM), out = .inl e1 → R = emW eB e1)) : Ev (8) 18 89 [some (.ref o0), some (.ref o1), some (.int l2), none, some (.int l4), some (.int l5), some (.int l6), none] [.int s2, .int s1, .ref (o0 + 5)] M0 R := by
  unfold f_X0_holdsFor_89 at h
  obtain ⟨hg2, h⟩ := o_gd h
  obtain ⟨M1, hM1, h⟩ := o_wr h
  refine ev_is kc_18 rfl (mLw5 go0) hg2 hM1 ?_
  refine ev_go kc_18 3 (i' := 6) (L' := [some (.ref o0), some (.ref o1), some (.int l2), none, some (.int l4), some (.int (l5 + (1 : Int32))), some (.int (l6 + (1 : Int32))), none]) (st' := []) (M' := M1) rfl ?_
  obtain rfl := Option.some.inj h
  exact Ev.forget (mLe.kp (mLe.kp (mLe.kp (mLe.sk (mLe.kp (mLe.kp (mLe.kp (mLe.sk mLe.nl)))))))) (hk.1 ((l5 + (1 : Int32)), (l6 + (1 : Int32)), M1) rfl)
def f_X0_holdsFor_93 (o0 : Nat) (o1 : Nat) (l5 : Int32) (M0 : mM) : Option (Bool × mM) :=
  bif decide (l5 < (1 : Int32)) then (some (true, M0)) else (bif decide ((M0 (o0 + 5) (ix (0 : Int32))) = 0) then (some (false, M0)) else (some (true, M0)))
set_option maxRecDepth 8000 in
theorem e_X0_holdsFor_93 {o0 : Nat} {o1 : Nat} {l5 : Int32} {M0 : mM} {R : mZ} {out : (Bool × mM)} (go0 : mLwB o0 = true) (go1 : mTwB o1 = true) (h : f_X0_holdsFor_93 o0 o1 l5 M0 = some out) (hk : R = emW eB out) : Ev (8) 18 93 [some (.ref o0), none, none, none, none, some (.int l5), none, none] [] M0 R := by
  unfold f_X0_holdsFor_93 at h
  rcases o_bif h with ⟨hb3, h⟩ | ⟨hb3, h⟩
  · refine ev_goT kc_18 3 (t := 101) (e := 96) (L' := [some (.ref o0), none, none, none, none, some (.int l5), none, none]) (st' := []) rfl hb3 ?_
    refine ev_go kc_18 2 (i' := 104) (L' := [some (.ref o0), none, none, none, none, some (.int l5), none, none]) (st' := [.int (1 : Int32)]) (M' := M0) rfl ?_
    obtain rfl := Option.some.inj h
    rw [hk]
    exact ev_ret kc_18 rfl rfl rfl
  · refine ev_goF kc_18 3 (t := 101) (e := 96) (L' := [some (.ref o0), none, none, none, none, some (.int l5), none, none]) (st' := []) rfl hb3 ?_
    refine ev_go kc_18 1 (i' := 97) (L' := [some (.ref o0), none, none, none, none, some (.int l5), none, none]) (st' := [.ref o0]) (M' := M0) rfl ?_
    refine ev_gr kc_18 rfl (mLw0 go0) (j := 4) rfl ?_
    refine ev_go kc_18 1 (i' := 99) (L' := [some (.ref o0), none, none, none, none, some (.int l5), none, none]) (st' := [.int (0 : Int32), .ref (o0 + 5)]) (M' := M0) rfl ?_
    refine ev_ia kc_18 rfl (mLw5 go0) rfl ?_
    rcases o_bif h with ⟨hb4, h⟩ | ⟨hb4, h⟩
    · refine ev_goT kc_18 1 (t := 103) (e := 101) (L' := [some (.ref o0), none, none, none, none, some (.int l5), none, none]) (st' := []) rfl hb4 ?_
      refine ev_go kc_18 1 (i' := 104) (L' := [some (.ref o0), none, none, none, none, some (.int l5), none, none]) (st' := [.int (0 : Int32)]) (M' := M0) rfl ?_
      obtain rfl := Option.some.inj h
      rw [hk]
      exact ev_ret kc_18 rfl rfl rfl
    · refine ev_goF kc_18 1 (t := 103) (e := 101) (L' := [some (.ref o0), none, none, none, none, some (.int l5), none, none]) (st' := []) rfl hb4 ?_
      refine ev_go kc_18 2 (i' := 104) (L' := [some (.ref o0), none, none, none, none, some (.int l5), none, none]) (st' := [.int (1 : Int32)]) (M' := M0) rfl ?_
      obtain rfl := Option.some.inj h
      rw [hk]
      exact ev_ret kc_18 rfl rfl rfl
def f_X0_holdsFor_6 (o0 : Nat) (o1 : Nat) (l2 : Int32) (l4 : Int32) (l5 : Int32) (l6 : Int32) (M0 : mM) : Option ((Bool × mM) ⊕ (Int32 × Int32 × mM)) :=
  bif decide (l4 ≤ l6) then (b1 (f_X0_holdsFor_93 o0 o1 l5 M0) (fun r6 => some (.inl r6))) else (bif decide ((400 : Int32) ≤ l6) then (b1 (f_X0_holdsFor_93 o0 o1 l5 M0) (fun r8 => some (.inl r8))) else (gd (mIn l6 400) (bif decide ((M0 (o0 + 4) (ix l6)) < (1011 : Int32)) then (bif decide (¬ (M0 (o0 + 4) (ix l6)) = (1010 : Int32)) then (bif decide (l5 < 0) then (some (.inr (l5, (l6 + (1 : Int32)), M0))) else (bif decide ((64 : Int32) ≤ l5) then (some (.inr (l5, (l6 + (1 : Int32)), M0))) else (bif decide ((1000 : Int32) ≤ (M0 (o0 + 4) (ix l6))) then (b1 (f_X0_ofOne (M0 (o0 + 4) (ix l6)) o1 l2 M0) (fun v15 => f_X0_holdsFor_89 o0 o1 l2 l4 l5 l6 l5 v15 M0)) else (f_X0_holdsFor_89 o0 o1 l2 l4 l5 l6 l5 (M0 (o0 + 4) (ix l6)) M0)))) else (bif decide (l5 < (1 : Int32)) then (some (.inr (l5, (l6 + (1 : Int32)), M0))) else (bif decide ((64 : Int32) < l5) then (some (.inr (l5, (l6 + (1 : Int32)), M0))) else (gd (mIn (l5 - (1 : Int32)) 64) (gd (mIn (l5 - (1 : Int32)) 64) (wr (mst M0 (o0 + 5) (ix (l5 - (1 : Int32))) ((1 : Int32) - (M0 (o0 + 5) (ix (l5 - (1 : Int32)))))) (fun M19 => some (.inr (l5, (l6 + (1 : Int32)), M19))))))))) else (bif decide (l5 < (2 : Int32)) then (some (.inr (l5, (l6 + (1 : Int32)), M0))) else (bif decide ((64 : Int32) < l5) then (some (.inr (l5, (l6 + (1 : Int32)), M0))) else (gd (mIn (l5 - (2 : Int32)) 64) (gd (mIn (l5 - (1 : Int32)) 64) (b1 (f_X0_ofTwo (M0 (o0 + 4) (ix l6)) (M0 (o0 + 5) (ix (l5 - (2 : Int32)))) (M0 (o0 + 5) (ix (l5 - (1 : Int32))))) (fun v25 => gd (mIn (l5 - (2 : Int32)) 64) (wr (mst M0 (o0 + 5) (ix (l5 - (2 : Int32))) v25) (fun M26 => some (.inr ((l5 + (-1 : Int32)), (l6 + (1 : Int32)), M26)))))))))))))
set_option maxRecDepth 8000 in
theorem e_X0_holdsFor_6 {o0 : Nat} {o1 : Nat} {l2 : Int32} {l4 : Int32} {l5 : Int32} {l6 : Int32} {M0 : mM} {R : mZ} {out : ((Bool × mM) ⊕ (Int32 × Int32 × mM))} (go0 : mLwB o0 = true) (go1 : mTwB o1 = true) (h : f_X0_holdsFor_6 o0 o1 l2 l4 l5 l6 M0 = some out) (hk : (∀ s' : Int32 × Int32 × mM, out = .inr s' → Ev (8) 18 6 [some (.ref o0), some (.ref o1), some (.int l2), none, some (.int l4), some (.int s'.1), some (.int s'.2.1), none] [] (s'.2.2) R) ∧ (∀ e1 : (Bool × mM), out = .inl e1 → R = emW eB e1)) : Ev (8) 18 6 [some (.ref o0), some (.ref o1), some (.int l2), none, some (.int l4), some (.int l5), some (.int l6), none] [] M0 R := by
  unfold f_X0_holdsFor_6 at h
  rcases o_bif h with ⟨hb5, h⟩ | ⟨hb5, h⟩
  · refine ev_goT kc_18 3 (t := 93) (e := 9) (L' := [some (.ref o0), some (.ref o1), some (.int l2), none, some (.int l4), some (.int l5), some (.int l6), none]) (st' := []) rfl hb5 ?_
    obtain ⟨r6, hr6, h⟩ := o_b1 h
    obtain rfl := Option.some.inj h
    exact Ev.forget (mLe.kp (mLe.sk (mLe.sk (mLe.sk (mLe.sk (mLe.kp (mLe.sk (mLe.sk mLe.nl)))))))) (e_X0_holdsFor_93 go0 go1 hr6 (hk.2 _ rfl))
  · refine ev_goF kc_18 3 (t := 93) (e := 9) (L' := [some (.ref o0), some (.ref o1), some (.int l2), none, some (.int l4), some (.int l5), some (.int l6), none]) (st' := []) rfl hb5 ?_
    rcases o_bif h with ⟨hb7, h⟩ | ⟨hb7, h⟩
    · refine ev_goT kc_18 3 (t := 93) (e := 12) (L' := [some (.ref o0), some (.ref o1), some (.int l2), none, some (.int l4), some (.int l5), some (.int l6), none]) (st' := []) rfl hb7 ?_
      obtain ⟨r8, hr8, h⟩ := o_b1 h
      obtain rfl := Option.some.inj h
      exact Ev.forget (mLe.kp (mLe.sk (mLe.sk (mLe.sk (mLe.sk (mLe.kp (mLe.sk (mLe.sk mLe.nl)))))))) (e_X0_holdsFor_93 go0 go1 hr8 (hk.2 _ rfl))
    · refine ev_goF kc_18 3 (t := 93) (e := 12) (L' := [some (.ref o0), some (.ref o1), some (.int l2), none, some (.int l4), some (.int l5), some (.int l6), none]) (st' := []) rfl hb7 ?_
      refine ev_go kc_18 1 (i' := 13) (L' := [some (.ref o0), some (.ref o1), some (.int l2), none, some (.int l4), some (.int l5), some (.int l6), none]) (st' := [.ref o0]) (M' := M0) rfl ?_
      refine ev_gr kc_18 rfl (mLw0 go0) (j := 3) rfl ?_
      refine ev_go kc_18 1 (i' := 15) (L' := [some (.ref o0), some (.ref o1), some (.int l2), none, some (.int l4), some (.int l5), some (.int l6), none]) (st' := [.int l6, .ref (o0 + 4)]) (M' := M0) rfl ?_
      obtain ⟨hg9, h⟩ := o_gd h
      refine ev_ia kc_18 rfl (mLw4 go0) hg9 ?_
      rcases o_bif h with ⟨hb10, h⟩ | ⟨hb10, h⟩
      · refine ev_goT kc_18 4 (t := 48) (e := 20) (L' := [some (.ref o0), some (.ref o1), some (.int l2), none, some (.int l4), some (.int l5), some (.int l6), some (.int (M0 (o0 + 4) (ix l6)))]) (st' := []) rfl hb10 ?_
        rcases o_bif h with ⟨hb11, h⟩ | ⟨hb11, h⟩
        · refine ev_goT kc_18 3 (t := 72) (e := 51) (L' := [some (.ref o0), some (.ref o1), some (.int l2), none, some (.int l4), some (.int l5), some (.int l6), some (.int (M0 (o0 + 4) (ix l6)))]) (st' := []) rfl hb11 ?_
          rcases o_bif h with ⟨hb12, h⟩ | ⟨hb12, h⟩
          · refine ev_goT kc_18 2 (t := 91) (e := 74) (L' := [some (.ref o0), some (.ref o1), some (.int l2), none, some (.int l4), some (.int l5), some (.int l6), some (.int (M0 (o0 + 4) (ix l6)))]) (st' := []) rfl hb12 ?_
            refine ev_go kc_18 2 (i' := 6) (L' := [some (.ref o0), some (.ref o1), some (.int l2), none, some (.int l4), some (.int l5), some (.int (l6 + (1 : Int32))), some (.int (M0 (o0 + 4) (ix l6)))]) (st' := []) (M' := M0) rfl ?_
            obtain rfl := Option.some.inj h
            exact Ev.forget (mLe.kp (mLe.kp (mLe.kp (mLe.sk (mLe.kp (mLe.kp (mLe.kp (mLe.sk mLe.nl)))))))) (hk.1 (l5, (l6 + (1 : Int32)), M0) rfl)
          · refine ev_goF kc_18 2 (t := 91) (e := 74) (L' := [some (.ref o0), some (.ref o1), some (.int l2), none, some (.int l4), some (.int l5), some (.int l6), some (.int (M0 (o0 + 4) (ix l6)))]) (st' := []) rfl hb12 ?_
            rcases o_bif h with ⟨hb13, h⟩ | ⟨hb13, h⟩
            · refine ev_goT kc_18 3 (t := 91) (e := 77) (L' := [some (.ref o0), some (.ref o1), some (.int l2), none, some (.int l4), some (.int l5), some (.int l6), some (.int (M0 (o0 + 4) (ix l6)))]) (st' := []) rfl hb13 ?_
              refine ev_go kc_18 2 (i' := 6) (L' := [some (.ref o0), some (.ref o1), some (.int l2), none, some (.int l4), some (.int l5), some (.int (l6 + (1 : Int32))), some (.int (M0 (o0 + 4) (ix l6)))]) (st' := []) (M' := M0) rfl ?_
              obtain rfl := Option.some.inj h
              exact Ev.forget (mLe.kp (mLe.kp (mLe.kp (mLe.sk (mLe.kp (mLe.kp (mLe.kp (mLe.sk mLe.nl)))))))) (hk.1 (l5, (l6 + (1 : Int32)), M0) rfl)
            · refine ev_goF kc_18 3 (t := 91) (e := 77) (L' := [some (.ref o0), some (.ref o1), some (.int l2), none, some (.int l4), some (.int l5), some (.int l6), some (.int (M0 (o0 + 4) (ix l6)))]) (st' := []) rfl hb13 ?_
              refine ev_go kc_18 1 (i' := 78) (L' := [some (.ref o0), some (.ref o1), some (.int l2), none, some (.int l4), some (.int l5), some (.int l6), some (.int (M0 (o0 + 4) (ix l6)))]) (st' := [.ref o0]) (M' := M0) rfl ?_
              refine ev_gr kc_18 rfl (mLw0 go0) (j := 4) rfl ?_
              rcases o_bif h with ⟨hb14, h⟩ | ⟨hb14, h⟩
              · refine ev_goT kc_18 4 (t := 85) (e := 83) (L' := [some (.ref o0), some (.ref o1), some (.int l2), none, some (.int l4), some (.int l5), some (.int l6), some (.int (M0 (o0 + 4) (ix l6)))]) (st' := [.int l5, .ref (o0 + 5)]) rfl hb14 ?_
                refine ev_go kc_18 3 (i' := 88) (L' := [some (.ref o0), some (.ref o1), some (.int l2), none, some (.int l4), some (.int l5), some (.int l6), some (.int (M0 (o0 + 4) (ix l6)))]) (st' := [.int l2, .ref o1, .int (M0 (o0 + 4) (ix l6)), .int l5, .ref (o0 + 5)]) (M' := M0) rfl ?_
                obtain ⟨v15, hc15, h⟩ := o_b1 h
                refine ev_cl0 (ins := .invokestatic 77) kc_18 rfl rfl (a := 20) (as := [.int (M0 (o0 + 4) (ix l6)), .ref o1, .int l2]) (rest := [.int l5, .ref (o0 + 5)]) rfl rfl (Cs.deep (c_X0_ofOne (M0 := M0) hc15) (by decide)) ?_
                exact Ev.forget (mLe.kp (mLe.kp (mLe.kp (mLe.sk (mLe.kp (mLe.kp (mLe.kp (mLe.sk mLe.nl)))))))) (e_X0_holdsFor_89 go0 go1 h hk)
              · refine ev_goF kc_18 4 (t := 85) (e := 83) (L' := [some (.ref o0), some (.ref o1), some (.int l2), none, some (.int l4), some (.int l5), some (.int l6), some (.int (M0 (o0 + 4) (ix l6)))]) (st' := [.int l5, .ref (o0 + 5)]) rfl hb14 ?_
                refine ev_go kc_18 2 (i' := 89) (L' := [some (.ref o0), some (.ref o1), some (.int l2), none, some (.int l4), some (.int l5), some (.int l6), some (.int (M0 (o0 + 4) (ix l6)))]) (st' := [.int (M0 (o0 + 4) (ix l6)), .int l5, .ref (o0 + 5)]) (M' := M0) rfl ?_
                exact Ev.forget (mLe.kp (mLe.kp (mLe.kp (mLe.sk (mLe.kp (mLe.kp (mLe.kp (mLe.sk mLe.nl)))))))) (e_X0_holdsFor_89 go0 go1 h hk)
        · refine ev_goF kc_18 3 (t := 72) (e := 51) (L' := [some (.ref o0), some (.ref o1), some (.int l2), none, some (.int l4), some (.int l5), some (.int l6), some (.int (M0 (o0 + 4) (ix l6)))]) (st' := []) rfl hb11 ?_
          rcases o_bif h with ⟨hb16, h⟩ | ⟨hb16, h⟩
          · refine ev_goT kc_18 3 (t := 91) (e := 54) (L' := [some (.ref o0), some (.ref o1), some (.int l2), none, some (.int l4), some (.int l5), some (.int l6), some (.int (M0 (o0 + 4) (ix l6)))]) (st' := []) rfl hb16 ?_
            refine ev_go kc_18 2 (i' := 6) (L' := [some (.ref o0), some (.ref o1), some (.int l2), none, some (.int l4), some (.int l5), some (.int (l6 + (1 : Int32))), some (.int (M0 (o0 + 4) (ix l6)))]) (st' := []) (M' := M0) rfl ?_
            obtain rfl := Option.some.inj h
            exact Ev.forget (mLe.kp (mLe.kp (mLe.kp (mLe.sk (mLe.kp (mLe.kp (mLe.kp (mLe.sk mLe.nl)))))))) (hk.1 (l5, (l6 + (1 : Int32)), M0) rfl)
          · refine ev_goF kc_18 3 (t := 91) (e := 54) (L' := [some (.ref o0), some (.ref o1), some (.int l2), none, some (.int l4), some (.int l5), some (.int l6), some (.int (M0 (o0 + 4) (ix l6)))]) (st' := []) rfl hb16 ?_
            rcases o_bif h with ⟨hb17, h⟩ | ⟨hb17, h⟩
            · refine ev_goT kc_18 3 (t := 91) (e := 57) (L' := [some (.ref o0), some (.ref o1), some (.int l2), none, some (.int l4), some (.int l5), some (.int l6), some (.int (M0 (o0 + 4) (ix l6)))]) (st' := []) rfl hb17 ?_
              refine ev_go kc_18 2 (i' := 6) (L' := [some (.ref o0), some (.ref o1), some (.int l2), none, some (.int l4), some (.int l5), some (.int (l6 + (1 : Int32))), some (.int (M0 (o0 + 4) (ix l6)))]) (st' := []) (M' := M0) rfl ?_
              obtain rfl := Option.some.inj h
              exact Ev.forget (mLe.kp (mLe.kp (mLe.kp (mLe.sk (mLe.kp (mLe.kp (mLe.kp (mLe.sk mLe.nl)))))))) (hk.1 (l5, (l6 + (1 : Int32)), M0) rfl)
            · refine ev_goF kc_18 3 (t := 91) (e := 57) (L' := [some (.ref o0), some (.ref o1), some (.int l2), none, some (.int l4), some (.int l5), some (.int l6), some (.int (M0 (o0 + 4) (ix l6)))]) (st' := []) rfl hb17 ?_
              refine ev_go kc_18 1 (i' := 58) (L' := [some (.ref o0), some (.ref o1), some (.int l2), none, some (.int l4), some (.int l5), some (.int l6), some (.int (M0 (o0 + 4) (ix l6)))]) (st' := [.ref o0]) (M' := M0) rfl ?_
              refine ev_gr kc_18 rfl (mLw0 go0) (j := 4) rfl ?_
              refine ev_go kc_18 5 (i' := 64) (L' := [some (.ref o0), some (.ref o1), some (.int l2), none, some (.int l4), some (.int l5), some (.int l6), some (.int (M0 (o0 + 4) (ix l6)))]) (st' := [.ref o0, .int (1 : Int32), .int (l5 - (1 : Int32)), .ref (o0 + 5)]) (M' := M0) rfl ?_
              refine ev_gr kc_18 rfl (mLw0 go0) (j := 4) rfl ?_
              refine ev_go kc_18 3 (i' := 68) (L' := [some (.ref o0), some (.ref o1), some (.int l2), none, some (.int l4), some (.int l5), some (.int l6), some (.int (M0 (o0 + 4) (ix l6)))]) (st' := [.int (l5 - (1 : Int32)), .ref (o0 + 5), .int (1 : Int32), .int (l5 - (1 : Int32)), .ref (o0 + 5)]) (M' := M0) rfl ?_
              obtain ⟨hg18, h⟩ := o_gd h
              refine ev_ia kc_18 rfl (mLw5 go0) hg18 ?_
              refine ev_go kc_18 1 (i' := 70) (L' := [some (.ref o0), some (.ref o1), some (.int l2), none, some (.int l4), some (.int l5), some (.int l6), some (.int (M0 (o0 + 4) (ix l6)))]) (st' := [.int ((1 : Int32) - (M0 (o0 + 5) (ix (l5 - (1 : Int32))))), .int (l5 - (1 : Int32)), .ref (o0 + 5)]) (M' := M0) rfl ?_
              obtain ⟨hg20, h⟩ := o_gd h
              obtain ⟨M19, hM19, h⟩ := o_wr h
              refine ev_is kc_18 rfl (mLw5 go0) hg20 hM19 ?_
              refine ev_go kc_18 3 (i' := 6) (L' := [some (.ref o0), some (.ref o1), some (.int l2), none, some (.int l4), some (.int l5), some (.int (l6 + (1 : Int32))), some (.int (M0 (o0 + 4) (ix l6)))]) (st' := []) (M' := M19) rfl ?_
              obtain rfl := Option.some.inj h
              exact Ev.forget (mLe.kp (mLe.kp (mLe.kp (mLe.sk (mLe.kp (mLe.kp (mLe.kp (mLe.sk mLe.nl)))))))) (hk.1 (l5, (l6 + (1 : Int32)), M19) rfl)
      · refine ev_goF kc_18 4 (t := 48) (e := 20) (L' := [some (.ref o0), some (.ref o1), some (.int l2), none, some (.int l4), some (.int l5), some (.int l6), some (.int (M0 (o0 + 4) (ix l6)))]) (st' := []) rfl hb10 ?_
        rcases o_bif h with ⟨hb21, h⟩ | ⟨hb21, h⟩
        · refine ev_goT kc_18 3 (t := 91) (e := 23) (L' := [some (.ref o0), some (.ref o1), some (.int l2), none, some (.int l4), some (.int l5), some (.int l6), some (.int (M0 (o0 + 4) (ix l6)))]) (st' := []) rfl hb21 ?_
          refine ev_go kc_18 2 (i' := 6) (L' := [some (.ref o0), some (.ref o1), some (.int l2), none, some (.int l4), some (.int l5), some (.int (l6 + (1 : Int32))), some (.int (M0 (o0 + 4) (ix l6)))]) (st' := []) (M' := M0) rfl ?_
          obtain rfl := Option.some.inj h
          exact Ev.forget (mLe.kp (mLe.kp (mLe.kp (mLe.sk (mLe.kp (mLe.kp (mLe.kp (mLe.sk mLe.nl)))))))) (hk.1 (l5, (l6 + (1 : Int32)), M0) rfl)
        · refine ev_goF kc_18 3 (t := 91) (e := 23) (L' := [some (.ref o0), some (.ref o1), some (.int l2), none, some (.int l4), some (.int l5), some (.int l6), some (.int (M0 (o0 + 4) (ix l6)))]) (st' := []) rfl hb21 ?_
          rcases o_bif h with ⟨hb22, h⟩ | ⟨hb22, h⟩
          · refine ev_goT kc_18 3 (t := 91) (e := 26) (L' := [some (.ref o0), some (.ref o1), some (.int l2), none, some (.int l4), some (.int l5), some (.int l6), some (.int (M0 (o0 + 4) (ix l6)))]) (st' := []) rfl hb22 ?_
            refine ev_go kc_18 2 (i' := 6) (L' := [some (.ref o0), some (.ref o1), some (.int l2), none, some (.int l4), some (.int l5), some (.int (l6 + (1 : Int32))), some (.int (M0 (o0 + 4) (ix l6)))]) (st' := []) (M' := M0) rfl ?_
            obtain rfl := Option.some.inj h
            exact Ev.forget (mLe.kp (mLe.kp (mLe.kp (mLe.sk (mLe.kp (mLe.kp (mLe.kp (mLe.sk mLe.nl)))))))) (hk.1 (l5, (l6 + (1 : Int32)), M0) rfl)
          · refine ev_goF kc_18 3 (t := 91) (e := 26) (L' := [some (.ref o0), some (.ref o1), some (.int l2), none, some (.int l4), some (.int l5), some (.int l6), some (.int (M0 (o0 + 4) (ix l6)))]) (st' := []) rfl hb22 ?_
            refine ev_go kc_18 1 (i' := 27) (L' := [some (.ref o0), some (.ref o1), some (.int l2), none, some (.int l4), some (.int l5), some (.int l6), some (.int (M0 (o0 + 4) (ix l6)))]) (st' := [.ref o0]) (M' := M0) rfl ?_
            refine ev_gr kc_18 rfl (mLw0 go0) (j := 4) rfl ?_
            refine ev_go kc_18 5 (i' := 33) (L' := [some (.ref o0), some (.ref o1), some (.int l2), none, some (.int l4), some (.int l5), some (.int l6), some (.int (M0 (o0 + 4) (ix l6)))]) (st' := [.ref o0, .int (M0 (o0 + 4) (ix l6)), .int (l5 - (2 : Int32)), .ref (o0 + 5)]) (M' := M0) rfl ?_
            refine ev_gr kc_18 rfl (mLw0 go0) (j := 4) rfl ?_
            refine ev_go kc_18 3 (i' := 37) (L' := [some (.ref o0), some (.ref o1), some (.int l2), none, some (.int l4), some (.int l5), some (.int l6), some (.int (M0 (o0 + 4) (ix l6)))]) (st' := [.int (l5 - (2 : Int32)), .ref (o0 + 5), .int (M0 (o0 + 4) (ix l6)), .int (l5 - (2 : Int32)), .ref (o0 + 5)]) (M' := M0) rfl ?_
            obtain ⟨hg23, h⟩ := o_gd h
            refine ev_ia kc_18 rfl (mLw5 go0) hg23 ?_
            refine ev_go kc_18 1 (i' := 39) (L' := [some (.ref o0), some (.ref o1), some (.int l2), none, some (.int l4), some (.int l5), some (.int l6), some (.int (M0 (o0 + 4) (ix l6)))]) (st' := [.ref o0, .int (M0 (o0 + 5) (ix (l5 - (2 : Int32)))), .int (M0 (o0 + 4) (ix l6)), .int (l5 - (2 : Int32)), .ref (o0 + 5)]) (M' := M0) rfl ?_
            refine ev_gr kc_18 rfl (mLw0 go0) (j := 4) rfl ?_
            refine ev_go kc_18 3 (i' := 43) (L' := [some (.ref o0), some (.ref o1), some (.int l2), none, some (.int l4), some (.int l5), some (.int l6), some (.int (M0 (o0 + 4) (ix l6)))]) (st' := [.int (l5 - (1 : Int32)), .ref (o0 + 5), .int (M0 (o0 + 5) (ix (l5 - (2 : Int32)))), .int (M0 (o0 + 4) (ix l6)), .int (l5 - (2 : Int32)), .ref (o0 + 5)]) (M' := M0) rfl ?_
            obtain ⟨hg24, h⟩ := o_gd h
            refine ev_ia kc_18 rfl (mLw5 go0) hg24 ?_
            obtain ⟨v25, hc25, h⟩ := o_b1 h
            refine ev_cl0 (ins := .invokestatic 73) kc_18 rfl rfl (a := 19) (as := [.int (M0 (o0 + 4) (ix l6)), .int (M0 (o0 + 5) (ix (l5 - (2 : Int32)))), .int (M0 (o0 + 5) (ix (l5 - (1 : Int32))))]) (rest := [.int (l5 - (2 : Int32)), .ref (o0 + 5)]) rfl rfl (Cs.deep (c_X0_ofTwo (M0 := M0) hc25) (by decide)) ?_
            obtain ⟨hg27, h⟩ := o_gd h
            obtain ⟨M26, hM26, h⟩ := o_wr h
            refine ev_is kc_18 rfl (mLw5 go0) hg27 hM26 ?_
            refine ev_go kc_18 4 (i' := 6) (L' := [some (.ref o0), some (.ref o1), some (.int l2), none, some (.int l4), some (.int (l5 + (-1 : Int32))), some (.int (l6 + (1 : Int32))), some (.int (M0 (o0 + 4) (ix l6)))]) (st' := []) (M' := M26) rfl ?_
            obtain rfl := Option.some.inj h
            exact Ev.forget (mLe.kp (mLe.kp (mLe.kp (mLe.sk (mLe.kp (mLe.kp (mLe.kp (mLe.sk mLe.nl)))))))) (hk.1 ((l5 + (-1 : Int32)), (l6 + (1 : Int32)), M26) rfl)
def f_X0_holdsFor_l6 (o0 : Nat) (o1 : Nat) (l2 : Int32) (l4 : Int32) (l5 : Int32) (l6 : Int32) (M0 : mM) : Option (Bool × mM) :=
  wh 100000 (fun s : Int32 × Int32 × mM => f_X0_holdsFor_6 o0 o1 l2 l4 s.1 s.2.1 s.2.2) (l5, l6, M0)
theorem e_X0_holdsFor_l6 {o0 : Nat} {o1 : Nat} {l2 : Int32} {l4 : Int32} {l5 : Int32} {l6 : Int32} {M0 : mM} {R : mZ} {out : (Bool × mM)} (go0 : mLwB o0 = true) (go1 : mTwB o1 = true) (h : f_X0_holdsFor_l6 o0 o1 l2 l4 l5 l6 M0 = some out) (hk : R = emW eB out) : Ev (8) 18 6 [some (.ref o0), some (.ref o1), some (.int l2), none, some (.int l4), some (.int l5), some (.int l6), none] [] M0 R := by
  unfold f_X0_holdsFor_l6 at h
  exact wh_ev (P := fun s : Int32 × Int32 × mM => Ev (8) 18 6 [some (.ref o0), some (.ref o1), some (.int l2), none, some (.int l4), some (.int s.1), some (.int s.2.1), none] [] s.2.2 R) (Q := fun e : (Bool × mM) => R = emW eB e) (fun s o hb h1 h2 => e_X0_holdsFor_6 go0 go1 hb ⟨h1, h2⟩) 100000 _ _ h hk
def f_X0_holdsFor (o0 : Nat) (o1 : Nat) (p2 : Int32) (p3 : Int32) (p4 : Int32) (M0 : mM) : Option (Bool × mM) :=
  gd (mLwB o0) (gd (mTwB o1) (f_X0_holdsFor_l6 o0 o1 p2 p4 (0 : Int32) (mMax (0 : Int32) p3) M0))
set_option maxRecDepth 8000 in
theorem c_X0_holdsFor {o0 : Nat} {o1 : Nat} {p2 : Int32} {p3 : Int32} {p4 : Int32} {M0 : mM} {out : (Bool × mM)} (h : f_X0_holdsFor o0 o1 p2 p3 p4 M0 = some out) : Cs (8) 18 [.ref o0, .ref o1, .int p2, .int p3, .int p4] M0 (emW eB out) := by
  generalize hk : emW eB out = R
  replace hk := hk.symm
  unfold f_X0_holdsFor at h
  obtain ⟨go0, h⟩ := o_gd h
  obtain ⟨go1, h⟩ := o_gd h
  show Ev (8) 18 0 [some (.ref o0), some (.ref o1), some (.int p2), some (.int p3), some (.int p4), none, none, none] [] M0 R
  refine ev_go kc_18 4 (i' := 4) (L' := [some (.ref o0), some (.ref o1), some (.int p2), some (.int p3), some (.int p4), some (.int (0 : Int32)), none, none]) (st' := [.int p3, .int (0 : Int32)]) (M' := M0) rfl ?_
  refine ev_pm kc_18 rfl rfl rfl rfl (as := [.int (0 : Int32), .int p3]) (rest := []) rfl rfl rfl (v := some (mMax (0 : Int32) p3)) rfl ?_
  refine ev_go kc_18 1 (i' := 6) (L' := [some (.ref o0), some (.ref o1), some (.int p2), some (.int p3), some (.int p4), some (.int (0 : Int32)), some (.int (mMax (0 : Int32) p3)), none]) (st' := []) (M' := M0) rfl ?_
  exact Ev.forget (mLe.kp (mLe.kp (mLe.kp (mLe.sk (mLe.kp (mLe.kp (mLe.kp (mLe.sk mLe.nl)))))))) (e_X0_holdsFor_l6 go0 go1 h hk)
/-- WakeTower$Law.amountOf(ILWakeTower$Tower;I)I: 16, W -/
theorem kc_16 : mKc 16 = k_X0_amountOf := rfl
def f_X0_amountOf_14 (o0 : Nat) (o2 : Nat) (l1 : Int32) (l3 : Int32) (l4 : Int32) (l5 : Int32) (l6 : Int32) (M0 : mM) : Option ((Int32 × mM) ⊕ (Int32 × Int32 × Int32 × mM)) :=
  bif decide ((12 : Int32) ≤ l6) then (some (.inl (l4, M0))) else (bif decide ((M0 o0 1) ≤ l6) then (some (.inl (l4, M0))) else (gd (mIn l6 12) (bif decide (¬ (M0 (o0 + 1) (ix l6)) = l1) then (gd (mIn l6 12) (some (.inr (l4, (M0 (o0 + 3) (ix l6)), (l6 + (1 : Int32)), M0)))) else (gd (mIn l6 12) (b2 (f_X0_holdsFor o0 o2 l3 l5 (M0 (o0 + 3) (ix l6)) M0) (fun v7 M7 => bif v7 then (gd (mIn l6 12) (gd (mIn l6 12) (some (.inr ((l4 + (M7 (o0 + 2) (ix l6))), (M7 (o0 + 3) (ix l6)), (l6 + (1 : Int32)), M7))))) else (gd (mIn l6 12) (some (.inr (l4, (M7 (o0 + 3) (ix l6)), (l6 + (1 : Int32)), M7))))))))))
set_option maxRecDepth 8000 in
theorem e_X0_amountOf_14 {o0 : Nat} {o2 : Nat} {l1 : Int32} {l3 : Int32} {l4 : Int32} {l5 : Int32} {l6 : Int32} {M0 : mM} {R : mZ} {out : ((Int32 × mM) ⊕ (Int32 × Int32 × Int32 × mM))} (go0 : mLwB o0 = true) (go2 : mTwB o2 = true) (h : f_X0_amountOf_14 o0 o2 l1 l3 l4 l5 l6 M0 = some out) (hk : (∀ s' : Int32 × Int32 × Int32 × mM, out = .inr s' → Ev (9) 16 14 [some (.ref o0), some (.int l1), some (.ref o2), some (.int l3), some (.int s'.1), some (.int s'.2.1), some (.int s'.2.2.1)] [] (s'.2.2.2) R) ∧ (∀ e1 : (Int32 × mM), out = .inl e1 → R = emW eI e1)) : Ev (9) 16 14 [some (.ref o0), some (.int l1), some (.ref o2), some (.int l3), some (.int l4), some (.int l5), some (.int l6)] [] M0 R := by
  unfold f_X0_amountOf_14 at h
  rcases o_bif h with ⟨hb1, h⟩ | ⟨hb1, h⟩
  · refine ev_goT kc_16 3 (t := 51) (e := 17) (L' := [some (.ref o0), some (.int l1), some (.ref o2), some (.int l3), some (.int l4), some (.int l5), some (.int l6)]) (st' := []) rfl hb1 ?_
    refine ev_go kc_16 1 (i' := 52) (L' := [some (.ref o0), some (.int l1), some (.ref o2), some (.int l3), some (.int l4), some (.int l5), some (.int l6)]) (st' := [.int l4]) (M' := M0) rfl ?_
    obtain rfl := Option.some.inj h
    rw [show _ from (hk.2 _ rfl)]
    exact ev_ret kc_16 rfl rfl rfl
  · refine ev_goF kc_16 3 (t := 51) (e := 17) (L' := [some (.ref o0), some (.int l1), some (.ref o2), some (.int l3), some (.int l4), some (.int l5), some (.int l6)]) (st' := []) rfl hb1 ?_
    refine ev_go kc_16 2 (i' := 19) (L' := [some (.ref o0), some (.int l1), some (.ref o2), some (.int l3), some (.int l4), some (.int l5), some (.int l6)]) (st' := [.ref o0, .int l6]) (M' := M0) rfl ?_
    refine ev_gf kc_16 rfl (mLw0 go0) rfl ?_
    rcases o_bif h with ⟨hb2, h⟩ | ⟨hb2, h⟩
    · refine ev_goT kc_16 1 (t := 51) (e := 21) (L' := [some (.ref o0), some (.int l1), some (.ref o2), some (.int l3), some (.int l4), some (.int l5), some (.int l6)]) (st' := []) rfl hb2 ?_
      refine ev_go kc_16 1 (i' := 52) (L' := [some (.ref o0), some (.int l1), some (.ref o2), some (.int l3), some (.int l4), some (.int l5), some (.int l6)]) (st' := [.int l4]) (M' := M0) rfl ?_
      obtain rfl := Option.some.inj h
      rw [show _ from (hk.2 _ rfl)]
      exact ev_ret kc_16 rfl rfl rfl
    · refine ev_goF kc_16 1 (t := 51) (e := 21) (L' := [some (.ref o0), some (.int l1), some (.ref o2), some (.int l3), some (.int l4), some (.int l5), some (.int l6)]) (st' := []) rfl hb2 ?_
      refine ev_go kc_16 1 (i' := 22) (L' := [some (.ref o0), some (.int l1), some (.ref o2), some (.int l3), some (.int l4), some (.int l5), some (.int l6)]) (st' := [.ref o0]) (M' := M0) rfl ?_
      refine ev_gr kc_16 rfl (mLw0 go0) (j := 0) rfl ?_
      refine ev_go kc_16 1 (i' := 24) (L' := [some (.ref o0), some (.int l1), some (.ref o2), some (.int l3), some (.int l4), some (.int l5), some (.int l6)]) (st' := [.int l6, .ref (o0 + 1)]) (M' := M0) rfl ?_
      obtain ⟨hg3, h⟩ := o_gd h
      refine ev_ia kc_16 rfl (mLw1 go0) hg3 ?_
      rcases o_bif h with ⟨hb4, h⟩ | ⟨hb4, h⟩
      · refine ev_goT kc_16 2 (t := 44) (e := 27) (L' := [some (.ref o0), some (.int l1), some (.ref o2), some (.int l3), some (.int l4), some (.int l5), some (.int l6)]) (st' := []) rfl hb4 ?_
        refine ev_go kc_16 1 (i' := 45) (L' := [some (.ref o0), some (.int l1), some (.ref o2), some (.int l3), some (.int l4), some (.int l5), some (.int l6)]) (st' := [.ref o0]) (M' := M0) rfl ?_
        refine ev_gr kc_16 rfl (mLw0 go0) (j := 2) rfl ?_
        refine ev_go kc_16 1 (i' := 47) (L' := [some (.ref o0), some (.int l1), some (.ref o2), some (.int l3), some (.int l4), some (.int l5), some (.int l6)]) (st' := [.int l6, .ref (o0 + 3)]) (M' := M0) rfl ?_
        obtain ⟨hg5, h⟩ := o_gd h
        refine ev_ia kc_16 rfl (mLw3 go0) hg5 ?_
        refine ev_go kc_16 3 (i' := 14) (L' := [some (.ref o0), some (.int l1), some (.ref o2), some (.int l3), some (.int l4), some (.int (M0 (o0 + 3) (ix l6))), some (.int (l6 + (1 : Int32)))]) (st' := []) (M' := M0) rfl ?_
        obtain rfl := Option.some.inj h
        exact Ev.forget (mLe.kp (mLe.kp (mLe.kp (mLe.kp (mLe.kp (mLe.kp (mLe.kp mLe.nl))))))) (hk.1 (l4, (M0 (o0 + 3) (ix l6)), (l6 + (1 : Int32)), M0) rfl)
      · refine ev_goF kc_16 2 (t := 44) (e := 27) (L' := [some (.ref o0), some (.int l1), some (.ref o2), some (.int l3), some (.int l4), some (.int l5), some (.int l6)]) (st' := []) rfl hb4 ?_
        refine ev_go kc_16 5 (i' := 32) (L' := [some (.ref o0), some (.int l1), some (.ref o2), some (.int l3), some (.int l4), some (.int l5), some (.int l6)]) (st' := [.ref o0, .int l5, .int l3, .ref o2, .ref o0]) (M' := M0) rfl ?_
        refine ev_gr kc_16 rfl (mLw0 go0) (j := 2) rfl ?_
        refine ev_go kc_16 1 (i' := 34) (L' := [some (.ref o0), some (.int l1), some (.ref o2), some (.int l3), some (.int l4), some (.int l5), some (.int l6)]) (st' := [.int l6, .ref (o0 + 3), .int l5, .int l3, .ref o2, .ref o0]) (M' := M0) rfl ?_
        obtain ⟨hg6, h⟩ := o_gd h
        refine ev_ia kc_16 rfl (mLw3 go0) hg6 ?_
        obtain ⟨v7, M7, hc7, h⟩ := o_b2 h
        refine ev_cl0 (ins := .invokevirtual 48) kc_16 rfl rfl (a := 18) (as := [.ref o0, .ref o2, .int l3, .int l5, .int (M0 (o0 + 3) (ix l6))]) (rest := []) rfl (m_rec (mLw0 go0)) (Cs.deep (c_X0_holdsFor hc7) (by decide)) ?_
        rcases o_bif h with ⟨hb8, h⟩ | ⟨hb8, h⟩
        · refine ev_goF kc_16 1 (t := 44) (e := 37) (L' := [some (.ref o0), some (.int l1), some (.ref o2), some (.int l3), some (.int l4), some (.int l5), some (.int l6)]) (st' := []) rfl (mB_e0f hb8) ?_
          refine ev_go kc_16 2 (i' := 39) (L' := [some (.ref o0), some (.int l1), some (.ref o2), some (.int l3), some (.int l4), some (.int l5), some (.int l6)]) (st' := [.ref o0, .int l4]) (M' := M7) rfl ?_
          refine ev_gr kc_16 rfl (mLw0 go0) (j := 1) rfl ?_
          refine ev_go kc_16 1 (i' := 41) (L' := [some (.ref o0), some (.int l1), some (.ref o2), some (.int l3), some (.int l4), some (.int l5), some (.int l6)]) (st' := [.int l6, .ref (o0 + 2), .int l4]) (M' := M7) rfl ?_
          obtain ⟨hg9, h⟩ := o_gd h
          refine ev_ia kc_16 rfl (mLw2 go0) hg9 ?_
          refine ev_go kc_16 3 (i' := 45) (L' := [some (.ref o0), some (.int l1), some (.ref o2), some (.int l3), some (.int (l4 + (M7 (o0 + 2) (ix l6)))), some (.int l5), some (.int l6)]) (st' := [.ref o0]) (M' := M7) rfl ?_
          refine ev_gr kc_16 rfl (mLw0 go0) (j := 2) rfl ?_
          refine ev_go kc_16 1 (i' := 47) (L' := [some (.ref o0), some (.int l1), some (.ref o2), some (.int l3), some (.int (l4 + (M7 (o0 + 2) (ix l6)))), some (.int l5), some (.int l6)]) (st' := [.int l6, .ref (o0 + 3)]) (M' := M7) rfl ?_
          obtain ⟨hg10, h⟩ := o_gd h
          refine ev_ia kc_16 rfl (mLw3 go0) hg10 ?_
          refine ev_go kc_16 3 (i' := 14) (L' := [some (.ref o0), some (.int l1), some (.ref o2), some (.int l3), some (.int (l4 + (M7 (o0 + 2) (ix l6)))), some (.int (M7 (o0 + 3) (ix l6))), some (.int (l6 + (1 : Int32)))]) (st' := []) (M' := M7) rfl ?_
          obtain rfl := Option.some.inj h
          exact Ev.forget (mLe.kp (mLe.kp (mLe.kp (mLe.kp (mLe.kp (mLe.kp (mLe.kp mLe.nl))))))) (hk.1 ((l4 + (M7 (o0 + 2) (ix l6))), (M7 (o0 + 3) (ix l6)), (l6 + (1 : Int32)), M7) rfl)
        · refine ev_goT kc_16 1 (t := 44) (e := 37) (L' := [some (.ref o0), some (.int l1), some (.ref o2), some (.int l3), some (.int l4), some (.int l5), some (.int l6)]) (st' := []) rfl (mB_e0t hb8) ?_
          refine ev_go kc_16 1 (i' := 45) (L' := [some (.ref o0), some (.int l1), some (.ref o2), some (.int l3), some (.int l4), some (.int l5), some (.int l6)]) (st' := [.ref o0]) (M' := M7) rfl ?_
          refine ev_gr kc_16 rfl (mLw0 go0) (j := 2) rfl ?_
          refine ev_go kc_16 1 (i' := 47) (L' := [some (.ref o0), some (.int l1), some (.ref o2), some (.int l3), some (.int l4), some (.int l5), some (.int l6)]) (st' := [.int l6, .ref (o0 + 3)]) (M' := M7) rfl ?_
          obtain ⟨hg11, h⟩ := o_gd h
          refine ev_ia kc_16 rfl (mLw3 go0) hg11 ?_
          refine ev_go kc_16 3 (i' := 14) (L' := [some (.ref o0), some (.int l1), some (.ref o2), some (.int l3), some (.int l4), some (.int (M7 (o0 + 3) (ix l6))), some (.int (l6 + (1 : Int32)))]) (st' := []) (M' := M7) rfl ?_
          obtain rfl := Option.some.inj h
          exact Ev.forget (mLe.kp (mLe.kp (mLe.kp (mLe.kp (mLe.kp (mLe.kp (mLe.kp mLe.nl))))))) (hk.1 (l4, (M7 (o0 + 3) (ix l6)), (l6 + (1 : Int32)), M7) rfl)
def f_X0_amountOf_l14 (o0 : Nat) (o2 : Nat) (l1 : Int32) (l3 : Int32) (l4 : Int32) (l5 : Int32) (l6 : Int32) (M0 : mM) : Option (Int32 × mM) :=
  wh 100000 (fun s : Int32 × Int32 × Int32 × mM => f_X0_amountOf_14 o0 o2 l1 l3 s.1 s.2.1 s.2.2.1 s.2.2.2) (l4, l5, l6, M0)
theorem e_X0_amountOf_l14 {o0 : Nat} {o2 : Nat} {l1 : Int32} {l3 : Int32} {l4 : Int32} {l5 : Int32} {l6 : Int32} {M0 : mM} {R : mZ} {out : (Int32 × mM)} (go0 : mLwB o0 = true) (go2 : mTwB o2 = true) (h : f_X0_amountOf_l14 o0 o2 l1 l3 l4 l5 l6 M0 = some out) (hk : R = emW eI out) : Ev (9) 16 14 [some (.ref o0), some (.int l1), some (.ref o2), some (.int l3), some (.int l4), some (.int l5), some (.int l6)] [] M0 R := by
  unfold f_X0_amountOf_l14 at h
  exact wh_ev (P := fun s : Int32 × Int32 × Int32 × mM => Ev (9) 16 14 [some (.ref o0), some (.int l1), some (.ref o2), some (.int l3), some (.int s.1), some (.int s.2.1), some (.int s.2.2.1)] [] s.2.2.2 R) (Q := fun e : (Int32 × mM) => R = emW eI e) (fun s o hb h1 h2 => e_X0_amountOf_14 go0 go2 hb ⟨h1, h2⟩) 100000 _ _ h hk
def f_X0_amountOf (o0 : Nat) (p1 : Int32) (o2 : Nat) (p3 : Int32) (M0 : mM) : Option (Int32 × mM) :=
  gd (mLwB o0) (gd (mTwB o2) (bif decide (¬ (M0 o0 0) = 0) then (f_X0_amountOf_l14 o0 o2 p1 p3 (0 : Int32) (0 : Int32) (0 : Int32) M0) else (b1 (f_X0_untold p1 o2 p3 M0) (fun v13 => some (v13, M0)))))
set_option maxRecDepth 8000 in
theorem c_X0_amountOf {o0 : Nat} {p1 : Int32} {o2 : Nat} {p3 : Int32} {M0 : mM} {out : (Int32 × mM)} (h : f_X0_amountOf o0 p1 o2 p3 M0 = some out) : Cs (9) 16 [.ref o0, .int p1, .ref o2, .int p3] M0 (emW eI out) := by
  generalize hk : emW eI out = R
  replace hk := hk.symm
  unfold f_X0_amountOf at h
  obtain ⟨go0, h⟩ := o_gd h
  obtain ⟨go2, h⟩ := o_gd h
  show Ev (9) 16 0 [some (.ref o0), some (.int p1), some (.ref o2), some (.int p3), none, none, none] [] M0 R
  refine ev_go kc_16 1 (i' := 1) (L' := [some (.ref o0), some (.int p1), some (.ref o2), some (.int p3), none, none, none]) (st' := [.ref o0]) (M' := M0) rfl ?_
  refine ev_gf kc_16 rfl (mLw0 go0) rfl ?_
  rcases o_bif h with ⟨hb12, h⟩ | ⟨hb12, h⟩
  · refine ev_goT kc_16 1 (t := 8) (e := 3) (L' := [some (.ref o0), some (.int p1), some (.ref o2), some (.int p3), none, none, none]) (st' := []) rfl hb12 ?_
    refine ev_go kc_16 6 (i' := 14) (L' := [some (.ref o0), some (.int p1), some (.ref o2), some (.int p3), some (.int (0 : Int32)), some (.int (0 : Int32)), some (.int (0 : Int32))]) (st' := []) (M' := M0) rfl ?_
    exact Ev.forget (mLe.kp (mLe.kp (mLe.kp (mLe.kp (mLe.kp (mLe.kp (mLe.kp mLe.nl))))))) (e_X0_amountOf_l14 go0 go2 h hk)
  · refine ev_goF kc_16 1 (t := 8) (e := 3) (L' := [some (.ref o0), some (.int p1), some (.ref o2), some (.int p3), none, none, none]) (st' := []) rfl hb12 ?_
    refine ev_go kc_16 3 (i' := 6) (L' := [some (.ref o0), some (.int p1), some (.ref o2), some (.int p3), none, none, none]) (st' := [.int p3, .ref o2, .int p1]) (M' := M0) rfl ?_
    obtain ⟨v13, hc13, h⟩ := o_b1 h
    refine ev_cl0 (ins := .invokestatic 44) kc_16 rfl rfl (a := 17) (as := [.int p1, .ref o2, .int p3]) (rest := []) rfl rfl (Cs.deep (c_X0_untold (M0 := M0) hc13) (by decide)) ?_
    obtain rfl := Option.some.inj h
    rw [hk]
    exact ev_ret kc_16 rfl rfl rfl
/-- WakeTower$Tape.moveTo(I)V: 60, W -/
theorem kc_60 : mKc 60 = k_X7_moveTo := rfl
def f_X7_moveTo_5 (l2 : Int32) (M0 : mM) : Option ((Unit × mM) ⊕ (Int32 × mM)) :=
  bif decide (l2 < 0) then (some (.inl ((), M0))) else (bif decide ((M0 1 1) ≤ l2) then (some (.inl ((), M0))) else (bif decide ((400 : Int32) ≤ l2) then (some (.inl ((), M0))) else (gd (mIn l2 400) (bif decide (¬ (M0 2 (ix l2)) = (32 : Int32)) then (some (.inl ((), M0))) else (wr (mst M0 1 2 (l2 + (1 : Int32))) (fun M6 => some (.inr ((l2 + (1 : Int32)), M6))))))))
set_option maxRecDepth 8000 in
theorem e_X7_moveTo_5 {l2 : Int32} {M0 : mM} {R : mZ} {out : ((Unit × mM) ⊕ (Int32 × mM))}  (h : f_X7_moveTo_5 l2 M0 = some out) (hk : (∀ s' : Int32 × mM, out = .inr s' → Ev (0) 60 5 [some (.ref 1), none, some (.int s'.1)] [] (s'.2) R) ∧ (∀ e1 : (Unit × mM), out = .inl e1 → R = emW eU e1)) : Ev (0) 60 5 [some (.ref 1), none, some (.int l2)] [] M0 R := by
  unfold f_X7_moveTo_5 at h
  rcases o_bif h with ⟨hb1, h⟩ | ⟨hb1, h⟩
  · refine ev_goT kc_60 2 (t := 27) (e := 7) (L' := [some (.ref 1), none, some (.int l2)]) (st' := []) rfl hb1 ?_
    obtain rfl := Option.some.inj h
    rw [show _ from (hk.2 _ rfl)]
    exact ev_vret kc_60 rfl rfl rfl
  · refine ev_goF kc_60 2 (t := 27) (e := 7) (L' := [some (.ref 1), none, some (.int l2)]) (st' := []) rfl hb1 ?_
    rcases o_bif h with ⟨hb2, h⟩ | ⟨hb2, h⟩
    · refine ev_goT kc_60 4 (t := 27) (e := 11) (L' := [some (.ref 1), none, some (.int l2)]) (st' := []) rfl hb2 ?_
      obtain rfl := Option.some.inj h
      rw [show _ from (hk.2 _ rfl)]
      exact ev_vret kc_60 rfl rfl rfl
    · refine ev_goF kc_60 4 (t := 27) (e := 11) (L' := [some (.ref 1), none, some (.int l2)]) (st' := []) rfl hb2 ?_
      rcases o_bif h with ⟨hb3, h⟩ | ⟨hb3, h⟩
      · refine ev_goT kc_60 3 (t := 27) (e := 14) (L' := [some (.ref 1), none, some (.int l2)]) (st' := []) rfl hb3 ?_
        obtain rfl := Option.some.inj h
        rw [show _ from (hk.2 _ rfl)]
        exact ev_vret kc_60 rfl rfl rfl
      · refine ev_goF kc_60 3 (t := 27) (e := 14) (L' := [some (.ref 1), none, some (.int l2)]) (st' := []) rfl hb3 ?_
        refine ev_go kc_60 3 (i' := 17) (L' := [some (.ref 1), none, some (.int l2)]) (st' := [.int l2, .ref 2]) (M' := M0) rfl ?_
        obtain ⟨hg4, h⟩ := o_gd h
        refine ev_ia kc_60 rfl rfl hg4 ?_
        rcases o_bif h with ⟨hb5, h⟩ | ⟨hb5, h⟩
        · refine ev_goT kc_60 2 (t := 27) (e := 20) (L' := [some (.ref 1), none, some (.int l2)]) (st' := []) rfl hb5 ?_
          obtain rfl := Option.some.inj h
          rw [show _ from (hk.2 _ rfl)]
          exact ev_vret kc_60 rfl rfl rfl
        · refine ev_goF kc_60 2 (t := 27) (e := 20) (L' := [some (.ref 1), none, some (.int l2)]) (st' := []) rfl hb5 ?_
          refine ev_go kc_60 4 (i' := 24) (L' := [some (.ref 1), none, some (.int l2)]) (st' := [.int (l2 + (1 : Int32)), .ref 1]) (M' := M0) rfl ?_
          obtain ⟨M6, hM6, h⟩ := o_wr h
          refine ev_pf kc_60 rfl rfl rfl rfl (fun hc => absurd hc (by decide)) hM6 ?_
          refine ev_go kc_60 2 (i' := 5) (L' := [some (.ref 1), none, some (.int (l2 + (1 : Int32)))]) (st' := []) (M' := M6) rfl ?_
          obtain rfl := Option.some.inj h
          exact Ev.forget (mLe.kp (mLe.sk (mLe.kp mLe.nl))) (hk.1 ((l2 + (1 : Int32)), M6) rfl)
def f_X7_moveTo_l5 (l2 : Int32) (M0 : mM) : Option (Unit × mM) :=
  wh 100000 (fun s : Int32 × mM => f_X7_moveTo_5 s.1 s.2) (l2, M0)
theorem e_X7_moveTo_l5 {l2 : Int32} {M0 : mM} {R : mZ} {out : (Unit × mM)}  (h : f_X7_moveTo_l5 l2 M0 = some out) (hk : R = emW eU out) : Ev (0) 60 5 [some (.ref 1), none, some (.int l2)] [] M0 R := by
  unfold f_X7_moveTo_l5 at h
  exact wh_ev (P := fun s : Int32 × mM => Ev (0) 60 5 [some (.ref 1), none, some (.int s.1)] [] s.2 R) (Q := fun e : (Unit × mM) => R = emW eU e) (fun s o hb h1 h2 => e_X7_moveTo_5  hb ⟨h1, h2⟩) 100000 _ _ h hk
def f_X7_moveTo (p1 : Int32) (M0 : mM) : Option (Unit × mM) :=
  wr (mst M0 1 2 p1) (fun M7 => f_X7_moveTo_l5 p1 M7)
set_option maxRecDepth 8000 in
theorem c_X7_moveTo {p1 : Int32} {M0 : mM} {out : (Unit × mM)} (h : f_X7_moveTo p1 M0 = some out) : Cs (0) 60 [.ref 1, .int p1] M0 (emW eU out) := by
  generalize hk : emW eU out = R
  replace hk := hk.symm
  unfold f_X7_moveTo at h
  show Ev (0) 60 0 [some (.ref 1), some (.int p1), none] [] M0 R
  refine ev_go kc_60 2 (i' := 2) (L' := [some (.ref 1), some (.int p1), none]) (st' := [.int p1, .ref 1]) (M' := M0) rfl ?_
  obtain ⟨M7, hM7, h⟩ := o_wr h
  refine ev_pf kc_60 rfl rfl rfl rfl (fun hc => absurd hc (by decide)) hM7 ?_
  refine ev_go kc_60 2 (i' := 5) (L' := [some (.ref 1), some (.int p1), some (.int p1)]) (st' := []) (M' := M7) rfl ?_
  exact Ev.forget (mLe.kp (mLe.sk (mLe.kp mLe.nl))) (e_X7_moveTo_l5  h hk)
/-- WakeTower$Tape.rewind()V: 59, W -/
theorem kc_59 : mKc 59 = k_X7_rewind := rfl
def f_X7_rewind  (M0 : mM) : Option (Unit × mM) :=
  wr (mst M0 1 3 (-1 : Int32)) (fun M1 => b2 (f_X7_moveTo (0 : Int32) M1) (fun v2 M2 => some ((), M2)))
set_option maxRecDepth 8000 in
theorem c_X7_rewind  {M0 : mM} {out : (Unit × mM)} (h : f_X7_rewind M0 = some out) : Cs (1) 59 [.ref 1] M0 (emW eU out) := by
  generalize hk : emW eU out = R
  replace hk := hk.symm
  unfold f_X7_rewind at h
  show Ev (1) 59 0 [some (.ref 1)] [] M0 R
  refine ev_go kc_59 2 (i' := 2) (L' := [some (.ref 1)]) (st' := [.int (-1 : Int32), .ref 1]) (M' := M0) rfl ?_
  obtain ⟨M1, hM1, h⟩ := o_wr h
  refine ev_pf kc_59 rfl rfl rfl rfl (fun hc => absurd hc (by decide)) hM1 ?_
  refine ev_go kc_59 2 (i' := 5) (L' := [some (.ref 1)]) (st' := [.int (0 : Int32), .ref 1]) (M' := M1) rfl ?_
  obtain ⟨v2, M2, hc2, h⟩ := o_b2 h
  refine ev_cl0 (ins := .invokevirtual 25) kc_59 rfl rfl (a := 60) (as := [.ref 1, .int (0 : Int32)]) (rest := []) rfl rfl (Cs.deep (c_X7_moveTo hc2) (by decide)) ?_
  obtain rfl := Option.some.inj h
  rw [hk]
  exact ev_vret kc_59 rfl rfl rfl
/-- WakeTower$Tape.ended()Z: 61, R -/
theorem kc_61 : mKc 61 = k_X7_ended := rfl
def f_X7_ended  (M0 : mM) : Option Bool :=
  bif decide ((M0 1 2) < (M0 1 1)) then (some false) else (some true)
set_option maxRecDepth 8000 in
theorem c_X7_ended  {M0 : mM} {out : Bool} (h : f_X7_ended M0 = some out) : Cs (0) 61 [.ref 1] M0 (emR eB M0 out) := by
  generalize hk : emR eB M0 out = R
  replace hk := hk.symm
  unfold f_X7_ended at h
  show Ev (0) 61 0 [some (.ref 1)] [] M0 R
  rcases o_bif h with ⟨hb1, h⟩ | ⟨hb1, h⟩
  · refine ev_goT kc_61 5 (t := 7) (e := 5) (L' := [some (.ref 1)]) (st' := []) rfl hb1 ?_
    refine ev_go kc_61 1 (i' := 8) (L' := [some (.ref 1)]) (st' := [.int (0 : Int32)]) (M' := M0) rfl ?_
    obtain rfl := Option.some.inj h
    rw [hk]
    exact ev_ret kc_61 rfl rfl rfl
  · refine ev_goF kc_61 5 (t := 7) (e := 5) (L' := [some (.ref 1)]) (st' := []) rfl hb1 ?_
    refine ev_go kc_61 2 (i' := 8) (L' := [some (.ref 1)]) (st' := [.int (1 : Int32)]) (M' := M0) rfl ?_
    obtain rfl := Option.some.inj h
    rw [hk]
    exact ev_ret kc_61 rfl rfl rfl
/-- WakeTower$Tape.byteAt(I)I: 58, R -/
theorem kc_58 : mKc 58 = k_X7_byteAt := rfl
def f_X7_byteAt (p1 : Int32) (M0 : mM) : Option Int32 :=
  bif decide (p1 < 0) then (some (-1 : Int32)) else (bif decide ((M0 1 1) ≤ p1) then (some (-1 : Int32)) else (bif decide ((400 : Int32) ≤ p1) then (some (-1 : Int32)) else (gd (mIn p1 400) (some (M0 2 (ix p1))))))
set_option maxRecDepth 8000 in
theorem c_X7_byteAt {p1 : Int32} {M0 : mM} {out : Int32} (h : f_X7_byteAt p1 M0 = some out) : Cs (0) 58 [.ref 1, .int p1] M0 (emR eI M0 out) := by
  generalize hk : emR eI M0 out = R
  replace hk := hk.symm
  unfold f_X7_byteAt at h
  show Ev (0) 58 0 [some (.ref 1), some (.int p1)] [] M0 R
  rcases o_bif h with ⟨hb1, h⟩ | ⟨hb1, h⟩
  · refine ev_goT kc_58 2 (t := 14) (e := 2) (L' := [some (.ref 1), some (.int p1)]) (st' := []) rfl hb1 ?_
    refine ev_go kc_58 1 (i' := 15) (L' := [some (.ref 1), some (.int p1)]) (st' := [.int (-1 : Int32)]) (M' := M0) rfl ?_
    obtain rfl := Option.some.inj h
    rw [hk]
    exact ev_ret kc_58 rfl rfl rfl
  · refine ev_goF kc_58 2 (t := 14) (e := 2) (L' := [some (.ref 1), some (.int p1)]) (st' := []) rfl hb1 ?_
    rcases o_bif h with ⟨hb2, h⟩ | ⟨hb2, h⟩
    · refine ev_goT kc_58 4 (t := 14) (e := 6) (L' := [some (.ref 1), some (.int p1)]) (st' := []) rfl hb2 ?_
      refine ev_go kc_58 1 (i' := 15) (L' := [some (.ref 1), some (.int p1)]) (st' := [.int (-1 : Int32)]) (M' := M0) rfl ?_
      obtain rfl := Option.some.inj h
      rw [hk]
      exact ev_ret kc_58 rfl rfl rfl
    · refine ev_goF kc_58 4 (t := 14) (e := 6) (L' := [some (.ref 1), some (.int p1)]) (st' := []) rfl hb2 ?_
      rcases o_bif h with ⟨hb3, h⟩ | ⟨hb3, h⟩
      · refine ev_goT kc_58 3 (t := 14) (e := 9) (L' := [some (.ref 1), some (.int p1)]) (st' := []) rfl hb3 ?_
        refine ev_go kc_58 1 (i' := 15) (L' := [some (.ref 1), some (.int p1)]) (st' := [.int (-1 : Int32)]) (M' := M0) rfl ?_
        obtain rfl := Option.some.inj h
        rw [hk]
        exact ev_ret kc_58 rfl rfl rfl
      · refine ev_goF kc_58 3 (t := 14) (e := 9) (L' := [some (.ref 1), some (.int p1)]) (st' := []) rfl hb3 ?_
        refine ev_go kc_58 3 (i' := 12) (L' := [some (.ref 1), some (.int p1)]) (st' := [.int p1, .ref 2]) (M' := M0) rfl ?_
        obtain ⟨hg4, h⟩ := o_gd h
        refine ev_ia kc_58 rfl rfl hg4 ?_
        refine ev_go kc_58 1 (i' := 15) (L' := [some (.ref 1), some (.int p1)]) (st' := [.int (M0 2 (ix p1))]) (M' := M0) rfl ?_
        obtain rfl := Option.some.inj h
        rw [hk]
        exact ev_ret kc_58 rfl rfl rfl
/-- WakeTower$Tape.takes(Ljava/lang/String;)Z: 64, W -/
theorem kc_64 : mKc 64 = k_X7_takes := rfl
def f_X7_takes_37 (o1 : Nat) (l2 : Int32) (M0 : mM) : Option (Bool × mM) :=
  b2 (f_X7_moveTo ((M0 1 2) + l2) M0) (fun v1 M1 => some (true, M1))
set_option maxRecDepth 8000 in
theorem e_X7_takes_37 {o1 : Nat} {l2 : Int32} {M0 : mM} {R : mZ} {out : (Bool × mM)} (go1 : mTxB o1 = true) (h : f_X7_takes_37 o1 l2 M0 = some out) (hk : R = emW eB out) : Ev (8) 64 37 [some (.ref 1), none, some (.int l2), none] [] M0 R := by
  unfold f_X7_takes_37 at h
  refine ev_go kc_64 5 (i' := 42) (L' := [some (.ref 1), none, some (.int l2), none]) (st' := [.int ((M0 1 2) + l2), .ref 1]) (M' := M0) rfl ?_
  obtain ⟨v1, M1, hc1, h⟩ := o_b2 h
  refine ev_cl0 (ins := .invokevirtual 25) kc_64 rfl rfl (a := 60) (as := [.ref 1, .int ((M0 1 2) + l2)]) (rest := []) rfl rfl (Cs.deep (c_X7_moveTo hc1) (by decide)) ?_
  refine ev_go kc_64 1 (i' := 44) (L' := [some (.ref 1), none, some (.int l2), none]) (st' := [.int (1 : Int32)]) (M' := M1) rfl ?_
  obtain rfl := Option.some.inj h
  rw [hk]
  exact ev_ret kc_64 rfl rfl rfl
def f_X7_takes_5 (o1 : Nat) (l2 : Int32) (l3 : Int32) (M0 : mM) : Option ((Bool × mM) ⊕ (Int32)) :=
  bif decide (l2 ≤ l3) then (b1 (f_X7_byteAt ((M0 1 2) + l2) M0) (fun v3 => bif decide (v3 < (97 : Int32)) then (b1 (f_X7_takes_37 o1 l2 M0) (fun r5 => some (.inl r5))) else (bif decide ((122 : Int32) < v3) then (b1 (f_X7_takes_37 o1 l2 M0) (fun r7 => some (.inl r7))) else (some (.inl (false, M0)))))) else (b1 (f_X7_byteAt ((M0 1 2) + l3) M0) (fun v8 => gd (mIn l3 (mTt o1).length) (bif decide (v8 = (nI ((mTt o1).getD (ix l3) 0))) then (some (.inr (l3 + (1 : Int32)))) else (some (.inl (false, M0))))))
set_option maxRecDepth 8000 in
theorem e_X7_takes_5 {o1 : Nat} {l2 : Int32} {l3 : Int32} {M0 : mM} {R : mZ} {out : ((Bool × mM) ⊕ (Int32))} (go1 : mTxB o1 = true) (h : f_X7_takes_5 o1 l2 l3 M0 = some out) (hk : (∀ s' : Int32, out = .inr s' → Ev (8) 64 5 [some (.ref 1), some (.ref o1), some (.int l2), some (.int s')] [] M0 R) ∧ (∀ e1 : (Bool × mM), out = .inl e1 → R = emW eB e1)) : Ev (8) 64 5 [some (.ref 1), some (.ref o1), some (.int l2), some (.int l3)] [] M0 R := by
  unfold f_X7_takes_5 at h
  rcases o_bif h with ⟨hb2, h⟩ | ⟨hb2, h⟩
  · refine ev_goT kc_64 3 (t := 22) (e := 8) (L' := [some (.ref 1), some (.ref o1), some (.int l2), some (.int l3)]) (st' := []) rfl hb2 ?_
    refine ev_go kc_64 5 (i' := 27) (L' := [some (.ref 1), some (.ref o1), some (.int l2), some (.int l3)]) (st' := [.int ((M0 1 2) + l2), .ref 1]) (M' := M0) rfl ?_
    obtain ⟨v3, hc3, h⟩ := o_b1 h
    refine ev_cl0 (ins := .invokevirtual 29) kc_64 rfl rfl (a := 58) (as := [.ref 1, .int ((M0 1 2) + l2)]) (rest := []) rfl rfl (Cs.deep (c_X7_byteAt (M0 := M0) hc3) (by decide)) ?_
    rcases o_bif h with ⟨hb4, h⟩ | ⟨hb4, h⟩
    · refine ev_goT kc_64 4 (t := 37) (e := 32) (L' := [some (.ref 1), some (.ref o1), some (.int l2), some (.int v3)]) (st' := []) rfl hb4 ?_
      obtain ⟨r5, hr5, h⟩ := o_b1 h
      obtain rfl := Option.some.inj h
      exact Ev.forget (mLe.kp (mLe.sk (mLe.kp (mLe.sk mLe.nl)))) (e_X7_takes_37 go1 hr5 (hk.2 _ rfl))
    · refine ev_goF kc_64 4 (t := 37) (e := 32) (L' := [some (.ref 1), some (.ref o1), some (.int l2), some (.int v3)]) (st' := []) rfl hb4 ?_
      rcases o_bif h with ⟨hb6, h⟩ | ⟨hb6, h⟩
      · refine ev_goT kc_64 3 (t := 37) (e := 35) (L' := [some (.ref 1), some (.ref o1), some (.int l2), some (.int v3)]) (st' := []) rfl hb6 ?_
        obtain ⟨r7, hr7, h⟩ := o_b1 h
        obtain rfl := Option.some.inj h
        exact Ev.forget (mLe.kp (mLe.sk (mLe.kp (mLe.sk mLe.nl)))) (e_X7_takes_37 go1 hr7 (hk.2 _ rfl))
      · refine ev_goF kc_64 3 (t := 37) (e := 35) (L' := [some (.ref 1), some (.ref o1), some (.int l2), some (.int v3)]) (st' := []) rfl hb6 ?_
        refine ev_go kc_64 1 (i' := 36) (L' := [some (.ref 1), some (.ref o1), some (.int l2), some (.int v3)]) (st' := [.int (0 : Int32)]) (M' := M0) rfl ?_
        obtain rfl := Option.some.inj h
        rw [show _ from (hk.2 _ rfl)]
        exact ev_ret kc_64 rfl rfl rfl
  · refine ev_goF kc_64 3 (t := 22) (e := 8) (L' := [some (.ref 1), some (.ref o1), some (.int l2), some (.int l3)]) (st' := []) rfl hb2 ?_
    refine ev_go kc_64 5 (i' := 13) (L' := [some (.ref 1), some (.ref o1), some (.int l2), some (.int l3)]) (st' := [.int ((M0 1 2) + l3), .ref 1]) (M' := M0) rfl ?_
    obtain ⟨v8, hc8, h⟩ := o_b1 h
    refine ev_cl0 (ins := .invokevirtual 29) kc_64 rfl rfl (a := 58) (as := [.ref 1, .int ((M0 1 2) + l3)]) (rest := []) rfl rfl (Cs.deep (c_X7_byteAt (M0 := M0) hc8) (by decide)) ?_
    refine ev_go kc_64 2 (i' := 16) (L' := [some (.ref 1), some (.ref o1), some (.int l2), some (.int l3)]) (st' := [.int l3, .ref o1, .int v8]) (M' := M0) rfl ?_
    obtain ⟨hg9, h⟩ := o_gd h
    refine ev_tc kc_64 rfl rfl rfl rfl go1 hg9 ?_
    rcases o_bif h with ⟨hb10, h⟩ | ⟨hb10, h⟩
    · refine ev_goT kc_64 1 (t := 20) (e := 18) (L' := [some (.ref 1), some (.ref o1), some (.int l2), some (.int l3)]) (st' := []) rfl hb10 ?_
      refine ev_go kc_64 2 (i' := 5) (L' := [some (.ref 1), some (.ref o1), some (.int l2), some (.int (l3 + (1 : Int32)))]) (st' := []) (M' := M0) rfl ?_
      obtain rfl := Option.some.inj h
      exact Ev.forget (mLe.kp (mLe.kp (mLe.kp (mLe.kp mLe.nl)))) (hk.1 (l3 + (1 : Int32)) rfl)
    · refine ev_goF kc_64 1 (t := 20) (e := 18) (L' := [some (.ref 1), some (.ref o1), some (.int l2), some (.int l3)]) (st' := []) rfl hb10 ?_
      refine ev_go kc_64 1 (i' := 19) (L' := [some (.ref 1), some (.ref o1), some (.int l2), some (.int l3)]) (st' := [.int (0 : Int32)]) (M' := M0) rfl ?_
      obtain rfl := Option.some.inj h
      rw [show _ from (hk.2 _ rfl)]
      exact ev_ret kc_64 rfl rfl rfl
def f_X7_takes_l5 (o1 : Nat) (l2 : Int32) (l3 : Int32) (M0 : mM) : Option (Bool × mM) :=
  wh 100000 (fun s : Int32 => f_X7_takes_5 o1 l2 s M0) l3
theorem e_X7_takes_l5 {o1 : Nat} {l2 : Int32} {l3 : Int32} {M0 : mM} {R : mZ} {out : (Bool × mM)} (go1 : mTxB o1 = true) (h : f_X7_takes_l5 o1 l2 l3 M0 = some out) (hk : R = emW eB out) : Ev (8) 64 5 [some (.ref 1), some (.ref o1), some (.int l2), some (.int l3)] [] M0 R := by
  unfold f_X7_takes_l5 at h
  exact wh_ev (P := fun s : Int32 => Ev (8) 64 5 [some (.ref 1), some (.ref o1), some (.int l2), some (.int s)] [] M0 R) (Q := fun e : (Bool × mM) => R = emW eB e) (fun s o hb h1 h2 => e_X7_takes_5 go1 hb ⟨h1, h2⟩) 100000 _ _ h hk
def f_X7_takes (o1 : Nat) (M0 : mM) : Option (Bool × mM) :=
  gd (mTxB o1) (f_X7_takes_l5 o1 (nI (mTt o1).length) (0 : Int32) M0)
set_option maxRecDepth 8000 in
theorem c_X7_takes {o1 : Nat} {M0 : mM} {out : (Bool × mM)} (h : f_X7_takes o1 M0 = some out) : Cs (8) 64 [.ref 1, .ref o1] M0 (emW eB out) := by
  generalize hk : emW eB out = R
  replace hk := hk.symm
  unfold f_X7_takes at h
  obtain ⟨go1, h⟩ := o_gd h
  show Ev (8) 64 0 [some (.ref 1), some (.ref o1), none, none] [] M0 R
  refine ev_go kc_64 1 (i' := 1) (L' := [some (.ref 1), some (.ref o1), none, none]) (st' := [.ref o1]) (M' := M0) rfl ?_
  refine ev_tl kc_64 rfl rfl rfl rfl go1 ?_
  refine ev_go kc_64 3 (i' := 5) (L' := [some (.ref 1), some (.ref o1), some (.int (nI (mTt o1).length)), some (.int (0 : Int32))]) (st' := []) (M' := M0) rfl ?_
  exact Ev.forget (mLe.kp (mLe.kp (mLe.kp (mLe.kp mLe.nl)))) (e_X7_takes_l5 go1 h hk)
/-- WakeTower$Tape.wrong(I)Z: 62, W -/
theorem kc_62 : mKc 62 = k_X7_wrong := rfl
def f_X7_wrong (p1 : Int32) (M0 : mM) : Option (Bool × mM) :=
  bif decide (¬ (M0 1 3) = (-1 : Int32)) then (some (false, M0)) else (wr (mst M0 1 3 p1) (fun M2 => some (false, M2)))
set_option maxRecDepth 8000 in
theorem c_X7_wrong {p1 : Int32} {M0 : mM} {out : (Bool × mM)} (h : f_X7_wrong p1 M0 = some out) : Cs (0) 62 [.ref 1, .int p1] M0 (emW eB out) := by
  generalize hk : emW eB out = R
  replace hk := hk.symm
  unfold f_X7_wrong at h
  show Ev (0) 62 0 [some (.ref 1), some (.int p1)] [] M0 R
  rcases o_bif h with ⟨hb1, h⟩ | ⟨hb1, h⟩
  · refine ev_goT kc_62 4 (t := 7) (e := 4) (L' := [some (.ref 1), some (.int p1)]) (st' := []) rfl hb1 ?_
    refine ev_go kc_62 1 (i' := 8) (L' := [some (.ref 1), some (.int p1)]) (st' := [.int (0 : Int32)]) (M' := M0) rfl ?_
    obtain rfl := Option.some.inj h
    rw [hk]
    exact ev_ret kc_62 rfl rfl rfl
  · refine ev_goF kc_62 4 (t := 7) (e := 4) (L' := [some (.ref 1), some (.int p1)]) (st' := []) rfl hb1 ?_
    refine ev_go kc_62 2 (i' := 6) (L' := [some (.ref 1), some (.int p1)]) (st' := [.int p1, .ref 1]) (M' := M0) rfl ?_
    obtain ⟨M2, hM2, h⟩ := o_wr h
    refine ev_pf kc_62 rfl rfl rfl rfl (fun hc => absurd hc (by decide)) hM2 ?_
    refine ev_go kc_62 1 (i' := 8) (L' := [some (.ref 1), some (.int p1)]) (st' := [.int (0 : Int32)]) (M' := M2) rfl ?_
    obtain rfl := Option.some.inj h
    rw [hk]
    exact ev_ret kc_62 rfl rfl rfl
/-- WakeTower$Tape.number(II)I: 68, W -/
theorem kc_68 : mKc 68 = k_X7_number := rfl
def f_X7_number_54 (M0 : mM) : Option (Int32 × mM) :=
  b2 (f_X7_wrong (M0 1 2) M0) (fun v1 M1 => some ((-1 : Int32), M1))
set_option maxRecDepth 8000 in
theorem e_X7_number_54 {M0 : mM} {R : mZ} {out : (Int32 × mM)}  (h : f_X7_number_54 M0 = some out) (hk : R = emW eI out) : Ev (1) 68 54 [some (.ref 1), none, none, none, none, none, none] [] M0 R := by
  unfold f_X7_number_54 at h
  refine ev_go kc_68 3 (i' := 57) (L' := [some (.ref 1), none, none, none, none, none, none]) (st' := [.int (M0 1 2), .ref 1]) (M' := M0) rfl ?_
  obtain ⟨v1, M1, hc1, h⟩ := o_b2 h
  refine ev_cl0 (ins := .invokevirtual 46) kc_68 rfl rfl (a := 62) (as := [.ref 1, .int (M0 1 2)]) (rest := []) rfl rfl (Cs.deep (c_X7_wrong hc1) (by decide)) ?_
  refine ev_go kc_68 2 (i' := 60) (L' := [some (.ref 1), none, none, none, none, none, none]) (st' := [.int (-1 : Int32)]) (M' := M1) rfl ?_
  obtain rfl := Option.some.inj h
  rw [hk]
  exact ev_ret kc_68 rfl rfl rfl
def f_X7_number_38 (l1 : Int32) (l2 : Int32) (l3 : Int32) (l4 : Int32) (M0 : mM) : Option (Int32 × mM) :=
  bif decide (l3 = (M0 1 2)) then (f_X7_number_54 M0) else (bif decide (((M0 1 2) + (3 : Int32)) < l3) then (f_X7_number_54 M0) else (bif decide (l4 < l1) then (f_X7_number_54 M0) else (bif decide (l4 ≤ l2) then (b2 (f_X7_moveTo l3 M0) (fun v6 M6 => some (l4, M6))) else (f_X7_number_54 M0))))
set_option maxRecDepth 8000 in
theorem e_X7_number_38 {l1 : Int32} {l2 : Int32} {l3 : Int32} {l4 : Int32} {M0 : mM} {R : mZ} {out : (Int32 × mM)}  (h : f_X7_number_38 l1 l2 l3 l4 M0 = some out) (hk : R = emW eI out) : Ev (1) 68 38 [some (.ref 1), some (.int l1), some (.int l2), some (.int l3), some (.int l4), none, none] [] M0 R := by
  unfold f_X7_number_38 at h
  rcases o_bif h with ⟨hb2, h⟩ | ⟨hb2, h⟩
  · refine ev_goT kc_68 4 (t := 54) (e := 42) (L' := [some (.ref 1), some (.int l1), some (.int l2), some (.int l3), some (.int l4), none, none]) (st' := []) rfl hb2 ?_
    exact Ev.forget (mLe.kp (mLe.sk (mLe.sk (mLe.sk (mLe.sk (mLe.sk (mLe.sk mLe.nl))))))) (e_X7_number_54  h hk)
  · refine ev_goF kc_68 4 (t := 54) (e := 42) (L' := [some (.ref 1), some (.int l1), some (.int l2), some (.int l3), some (.int l4), none, none]) (st' := []) rfl hb2 ?_
    rcases o_bif h with ⟨hb3, h⟩ | ⟨hb3, h⟩
    · refine ev_goT kc_68 6 (t := 54) (e := 48) (L' := [some (.ref 1), some (.int l1), some (.int l2), some (.int l3), some (.int l4), none, none]) (st' := []) rfl hb3 ?_
      exact Ev.forget (mLe.kp (mLe.sk (mLe.sk (mLe.sk (mLe.sk (mLe.sk (mLe.sk mLe.nl))))))) (e_X7_number_54  h hk)
    · refine ev_goF kc_68 6 (t := 54) (e := 48) (L' := [some (.ref 1), some (.int l1), some (.int l2), some (.int l3), some (.int l4), none, none]) (st' := []) rfl hb3 ?_
      rcases o_bif h with ⟨hb4, h⟩ | ⟨hb4, h⟩
      · refine ev_goT kc_68 3 (t := 54) (e := 51) (L' := [some (.ref 1), some (.int l1), some (.int l2), some (.int l3), some (.int l4), none, none]) (st' := []) rfl hb4 ?_
        exact Ev.forget (mLe.kp (mLe.sk (mLe.sk (mLe.sk (mLe.sk (mLe.sk (mLe.sk mLe.nl))))))) (e_X7_number_54  h hk)
      · refine ev_goF kc_68 3 (t := 54) (e := 51) (L' := [some (.ref 1), some (.int l1), some (.int l2), some (.int l3), some (.int l4), none, none]) (st' := []) rfl hb4 ?_
        rcases o_bif h with ⟨hb5, h⟩ | ⟨hb5, h⟩
        · refine ev_goT kc_68 3 (t := 61) (e := 54) (L' := [some (.ref 1), some (.int l1), some (.int l2), some (.int l3), some (.int l4), none, none]) (st' := []) rfl hb5 ?_
          refine ev_go kc_68 2 (i' := 63) (L' := [some (.ref 1), some (.int l1), some (.int l2), some (.int l3), some (.int l4), none, none]) (st' := [.int l3, .ref 1]) (M' := M0) rfl ?_
          obtain ⟨v6, M6, hc6, h⟩ := o_b2 h
          refine ev_cl0 (ins := .invokevirtual 25) kc_68 rfl rfl (a := 60) (as := [.ref 1, .int l3]) (rest := []) rfl rfl (Cs.deep (c_X7_moveTo hc6) (by decide)) ?_
          refine ev_go kc_68 1 (i' := 65) (L' := [some (.ref 1), some (.int l1), some (.int l2), some (.int l3), some (.int l4), none, none]) (st' := [.int l4]) (M' := M6) rfl ?_
          obtain rfl := Option.some.inj h
          rw [hk]
          exact ev_ret kc_68 rfl rfl rfl
        · refine ev_goF kc_68 3 (t := 61) (e := 54) (L' := [some (.ref 1), some (.int l1), some (.int l2), some (.int l3), some (.int l4), none, none]) (st' := []) rfl hb5 ?_
          exact Ev.forget (mLe.kp (mLe.sk (mLe.sk (mLe.sk (mLe.sk (mLe.sk (mLe.sk mLe.nl))))))) (e_X7_number_54  h hk)
def f_X7_number_8 (l1 : Int32) (l2 : Int32) (l3 : Int32) (l4 : Int32) (l5 : Int32) (M0 : mM) : Option ((Int32 × mM) ⊕ (Int32 × Int32 × Int32)) :=
  bif decide (((M0 1 2) + (3 : Int32)) < l5) then (b1 (f_X7_number_38 l1 l2 l3 l4 M0) (fun r8 => some (.inl r8))) else (b1 (f_X7_byteAt l5 M0) (fun v9 => bif decide ((v9 - (48 : Int32)) < 0) then (b1 (f_X7_number_38 l1 l2 l3 l4 M0) (fun r11 => some (.inl r11))) else (bif decide ((v9 - (48 : Int32)) ≤ (9 : Int32)) then (some (.inr ((l5 + (1 : Int32)), ((l4 * (10 : Int32)) + (v9 - (48 : Int32))), (l5 + (1 : Int32))))) else (b1 (f_X7_number_38 l1 l2 l3 l4 M0) (fun r13 => some (.inl r13))))))
set_option maxRecDepth 8000 in
theorem e_X7_number_8 {l1 : Int32} {l2 : Int32} {l3 : Int32} {l4 : Int32} {l5 : Int32} {M0 : mM} {R : mZ} {out : ((Int32 × mM) ⊕ (Int32 × Int32 × Int32))}  (h : f_X7_number_8 l1 l2 l3 l4 l5 M0 = some out) (hk : (∀ s' : Int32 × Int32 × Int32, out = .inr s' → Ev (1) 68 8 [some (.ref 1), some (.int l1), some (.int l2), some (.int s'.1), some (.int s'.2.1), some (.int s'.2.2), none] [] M0 R) ∧ (∀ e1 : (Int32 × mM), out = .inl e1 → R = emW eI e1)) : Ev (1) 68 8 [some (.ref 1), some (.int l1), some (.int l2), some (.int l3), some (.int l4), some (.int l5), none] [] M0 R := by
  unfold f_X7_number_8 at h
  rcases o_bif h with ⟨hb7, h⟩ | ⟨hb7, h⟩
  · refine ev_goT kc_68 6 (t := 38) (e := 14) (L' := [some (.ref 1), some (.int l1), some (.int l2), some (.int l3), some (.int l4), some (.int l5), none]) (st' := []) rfl hb7 ?_
    obtain ⟨r8, hr8, h⟩ := o_b1 h
    obtain rfl := Option.some.inj h
    exact Ev.forget (mLe.kp (mLe.kp (mLe.kp (mLe.kp (mLe.kp (mLe.sk (mLe.sk mLe.nl))))))) (e_X7_number_38  hr8 (hk.2 _ rfl))
  · refine ev_goF kc_68 6 (t := 38) (e := 14) (L' := [some (.ref 1), some (.int l1), some (.int l2), some (.int l3), some (.int l4), some (.int l5), none]) (st' := []) rfl hb7 ?_
    refine ev_go kc_68 2 (i' := 16) (L' := [some (.ref 1), some (.int l1), some (.int l2), some (.int l3), some (.int l4), some (.int l5), none]) (st' := [.int l5, .ref 1]) (M' := M0) rfl ?_
    obtain ⟨v9, hc9, h⟩ := o_b1 h
    refine ev_cl0 (ins := .invokevirtual 29) kc_68 rfl rfl (a := 58) (as := [.ref 1, .int l5]) (rest := []) rfl rfl (Cs.deep (c_X7_byteAt (M0 := M0) hc9) (by decide)) ?_
    rcases o_bif h with ⟨hb10, h⟩ | ⟨hb10, h⟩
    · refine ev_goT kc_68 5 (t := 38) (e := 22) (L' := [some (.ref 1), some (.int l1), some (.int l2), some (.int l3), some (.int l4), some (.int l5), some (.int (v9 - (48 : Int32)))]) (st' := []) rfl hb10 ?_
      obtain ⟨r11, hr11, h⟩ := o_b1 h
      obtain rfl := Option.some.inj h
      exact Ev.forget (mLe.kp (mLe.kp (mLe.kp (mLe.kp (mLe.kp (mLe.sk (mLe.sk mLe.nl))))))) (e_X7_number_38  hr11 (hk.2 _ rfl))
    · refine ev_goF kc_68 5 (t := 38) (e := 22) (L' := [some (.ref 1), some (.int l1), some (.int l2), some (.int l3), some (.int l4), some (.int l5), some (.int (v9 - (48 : Int32)))]) (st' := []) rfl hb10 ?_
      rcases o_bif h with ⟨hb12, h⟩ | ⟨hb12, h⟩
      · refine ev_goT kc_68 3 (t := 26) (e := 25) (L' := [some (.ref 1), some (.int l1), some (.int l2), some (.int l3), some (.int l4), some (.int l5), some (.int (v9 - (48 : Int32)))]) (st' := []) rfl hb12 ?_
        refine ev_go kc_68 12 (i' := 8) (L' := [some (.ref 1), some (.int l1), some (.int l2), some (.int (l5 + (1 : Int32))), some (.int ((l4 * (10 : Int32)) + (v9 - (48 : Int32)))), some (.int (l5 + (1 : Int32))), some (.int (v9 - (48 : Int32)))]) (st' := []) (M' := M0) rfl ?_
        obtain rfl := Option.some.inj h
        exact Ev.forget (mLe.kp (mLe.kp (mLe.kp (mLe.kp (mLe.kp (mLe.kp (mLe.sk mLe.nl))))))) (hk.1 ((l5 + (1 : Int32)), ((l4 * (10 : Int32)) + (v9 - (48 : Int32))), (l5 + (1 : Int32))) rfl)
      · refine ev_goF kc_68 3 (t := 26) (e := 25) (L' := [some (.ref 1), some (.int l1), some (.int l2), some (.int l3), some (.int l4), some (.int l5), some (.int (v9 - (48 : Int32)))]) (st' := []) rfl hb12 ?_
        refine ev_go kc_68 1 (i' := 38) (L' := [some (.ref 1), some (.int l1), some (.int l2), some (.int l3), some (.int l4), some (.int l5), some (.int (v9 - (48 : Int32)))]) (st' := []) (M' := M0) rfl ?_
        obtain ⟨r13, hr13, h⟩ := o_b1 h
        obtain rfl := Option.some.inj h
        exact Ev.forget (mLe.kp (mLe.kp (mLe.kp (mLe.kp (mLe.kp (mLe.sk (mLe.sk mLe.nl))))))) (e_X7_number_38  hr13 (hk.2 _ rfl))
def f_X7_number_l8 (l1 : Int32) (l2 : Int32) (l3 : Int32) (l4 : Int32) (l5 : Int32) (M0 : mM) : Option (Int32 × mM) :=
  wh 100000 (fun s : Int32 × Int32 × Int32 => f_X7_number_8 l1 l2 s.1 s.2.1 s.2.2 M0) (l3, l4, l5)
theorem e_X7_number_l8 {l1 : Int32} {l2 : Int32} {l3 : Int32} {l4 : Int32} {l5 : Int32} {M0 : mM} {R : mZ} {out : (Int32 × mM)}  (h : f_X7_number_l8 l1 l2 l3 l4 l5 M0 = some out) (hk : R = emW eI out) : Ev (1) 68 8 [some (.ref 1), some (.int l1), some (.int l2), some (.int l3), some (.int l4), some (.int l5), none] [] M0 R := by
  unfold f_X7_number_l8 at h
  exact wh_ev (P := fun s : Int32 × Int32 × Int32 => Ev (1) 68 8 [some (.ref 1), some (.int l1), some (.int l2), some (.int s.1), some (.int s.2.1), some (.int s.2.2), none] [] M0 R) (Q := fun e : (Int32 × mM) => R = emW eI e) (fun s o hb h1 h2 => e_X7_number_8  hb ⟨h1, h2⟩) 100000 _ _ h hk
def f_X7_number (p1 : Int32) (p2 : Int32) (M0 : mM) : Option (Int32 × mM) :=
  f_X7_number_l8 p1 p2 (M0 1 2) (0 : Int32) (M0 1 2) M0
set_option maxRecDepth 8000 in
theorem c_X7_number {p1 : Int32} {p2 : Int32} {M0 : mM} {out : (Int32 × mM)} (h : f_X7_number p1 p2 M0 = some out) : Cs (1) 68 [.ref 1, .int p1, .int p2] M0 (emW eI out) := by
  generalize hk : emW eI out = R
  replace hk := hk.symm
  unfold f_X7_number at h
  show Ev (1) 68 0 [some (.ref 1), some (.int p1), some (.int p2), none, none, none, none] [] M0 R
  refine ev_go kc_68 8 (i' := 8) (L' := [some (.ref 1), some (.int p1), some (.int p2), some (.int (M0 1 2)), some (.int (0 : Int32)), some (.int (M0 1 2)), none]) (st' := []) (M' := M0) rfl ?_
  exact Ev.forget (mLe.kp (mLe.kp (mLe.kp (mLe.kp (mLe.kp (mLe.kp (mLe.sk mLe.nl))))))) (e_X7_number_l8  h hk)
/-- WakeTower$Tape.takesSign(C)Z: 66, W -/
theorem kc_66 : mKc 66 = k_X7_takesSign := rfl
def f_X7_takesSign (p1 : Int32) (M0 : mM) : Option (Bool × mM) :=
  b1 (f_X7_byteAt (M0 1 2) M0) (fun v1 => bif decide (v1 = p1) then (b2 (f_X7_moveTo ((M0 1 2) + (1 : Int32)) M0) (fun v3 M3 => some (true, M3))) else (some (false, M0)))
set_option maxRecDepth 8000 in
theorem c_X7_takesSign {p1 : Int32} {M0 : mM} {out : (Bool × mM)} (h : f_X7_takesSign p1 M0 = some out) : Cs (1) 66 [.ref 1, .int p1] M0 (emW eB out) := by
  generalize hk : emW eB out = R
  replace hk := hk.symm
  unfold f_X7_takesSign at h
  show Ev (1) 66 0 [some (.ref 1), some (.int p1)] [] M0 R
  refine ev_go kc_66 3 (i' := 3) (L' := [some (.ref 1), some (.int p1)]) (st' := [.int (M0 1 2), .ref 1]) (M' := M0) rfl ?_
  obtain ⟨v1, hc1, h⟩ := o_b1 h
  refine ev_cl0 (ins := .invokevirtual 29) kc_66 rfl rfl (a := 58) (as := [.ref 1, .int (M0 1 2)]) (rest := []) rfl rfl (Cs.deep (c_X7_byteAt (M0 := M0) hc1) (by decide)) ?_
  rcases o_bif h with ⟨hb2, h⟩ | ⟨hb2, h⟩
  · refine ev_goT kc_66 2 (t := 8) (e := 6) (L' := [some (.ref 1), some (.int p1)]) (st' := []) rfl hb2 ?_
    refine ev_go kc_66 5 (i' := 13) (L' := [some (.ref 1), some (.int p1)]) (st' := [.int ((M0 1 2) + (1 : Int32)), .ref 1]) (M' := M0) rfl ?_
    obtain ⟨v3, M3, hc3, h⟩ := o_b2 h
    refine ev_cl0 (ins := .invokevirtual 25) kc_66 rfl rfl (a := 60) (as := [.ref 1, .int ((M0 1 2) + (1 : Int32))]) (rest := []) rfl rfl (Cs.deep (c_X7_moveTo hc3) (by decide)) ?_
    refine ev_go kc_66 1 (i' := 15) (L' := [some (.ref 1), some (.int p1)]) (st' := [.int (1 : Int32)]) (M' := M3) rfl ?_
    obtain rfl := Option.some.inj h
    rw [hk]
    exact ev_ret kc_66 rfl rfl rfl
  · refine ev_goF kc_66 2 (t := 8) (e := 6) (L' := [some (.ref 1), some (.int p1)]) (st' := []) rfl hb2 ?_
    refine ev_go kc_66 1 (i' := 7) (L' := [some (.ref 1), some (.int p1)]) (st' := [.int (0 : Int32)]) (M' := M0) rfl ?_
    obtain rfl := Option.some.inj h
    rw [hk]
    exact ev_ret kc_66 rfl rfl rfl
/-- WakeTower$Tape.mustSign(C)Z: 67, W -/
theorem kc_67 : mKc 67 = k_X7_mustSign := rfl
def f_X7_mustSign (p1 : Int32) (M0 : mM) : Option (Bool × mM) :=
  b2 (f_X7_takesSign p1 M0) (fun v1 M1 => bif v1 then (some (true, M1)) else (b2 (f_X7_wrong (M1 1 2) M1) (fun v3 M3 => bif v3 then (some (true, M3)) else (some (false, M3)))))
set_option maxRecDepth 8000 in
theorem c_X7_mustSign {p1 : Int32} {M0 : mM} {out : (Bool × mM)} (h : f_X7_mustSign p1 M0 = some out) : Cs (2) 67 [.ref 1, .int p1] M0 (emW eB out) := by
  generalize hk : emW eB out = R
  replace hk := hk.symm
  unfold f_X7_mustSign at h
  show Ev (2) 67 0 [some (.ref 1), some (.int p1)] [] M0 R
  refine ev_go kc_67 2 (i' := 2) (L' := [some (.ref 1), some (.int p1)]) (st' := [.int p1, .ref 1]) (M' := M0) rfl ?_
  obtain ⟨v1, M1, hc1, h⟩ := o_b2 h
  refine ev_cl0 (ins := .invokevirtual 50) kc_67 rfl rfl (a := 66) (as := [.ref 1, .int p1]) (rest := []) rfl rfl (Cs.deep (c_X7_takesSign hc1) (by decide)) ?_
  rcases o_bif h with ⟨hb2, h⟩ | ⟨hb2, h⟩
  · refine ev_goT kc_67 1 (t := 9) (e := 4) (L' := [some (.ref 1), some (.int p1)]) (st' := []) rfl (mB_n0t hb2) ?_
    refine ev_go kc_67 2 (i' := 12) (L' := [some (.ref 1), some (.int p1)]) (st' := [.int (1 : Int32)]) (M' := M1) rfl ?_
    obtain rfl := Option.some.inj h
    rw [hk]
    exact ev_ret kc_67 rfl rfl rfl
  · refine ev_goF kc_67 1 (t := 9) (e := 4) (L' := [some (.ref 1), some (.int p1)]) (st' := []) rfl (mB_n0f hb2) ?_
    refine ev_go kc_67 3 (i' := 7) (L' := [some (.ref 1), some (.int p1)]) (st' := [.int (M1 1 2), .ref 1]) (M' := M1) rfl ?_
    obtain ⟨v3, M3, hc3, h⟩ := o_b2 h
    refine ev_cl0 (ins := .invokevirtual 46) kc_67 rfl rfl (a := 62) (as := [.ref 1, .int (M1 1 2)]) (rest := []) rfl rfl (Cs.deep (c_X7_wrong hc3) (by decide)) ?_
    rcases o_bif h with ⟨hb4, h⟩ | ⟨hb4, h⟩
    · refine ev_goF kc_67 1 (t := 11) (e := 9) (L' := [some (.ref 1), some (.int p1)]) (st' := []) rfl (mB_e0f hb4) ?_
      refine ev_go kc_67 2 (i' := 12) (L' := [some (.ref 1), some (.int p1)]) (st' := [.int (1 : Int32)]) (M' := M3) rfl ?_
      obtain rfl := Option.some.inj h
      rw [hk]
      exact ev_ret kc_67 rfl rfl rfl
    · refine ev_goT kc_67 1 (t := 11) (e := 9) (L' := [some (.ref 1), some (.int p1)]) (st' := []) rfl (mB_e0t hb4) ?_
      refine ev_go kc_67 1 (i' := 12) (L' := [some (.ref 1), some (.int p1)]) (st' := [.int (0 : Int32)]) (M' := M3) rfl ?_
      obtain rfl := Option.some.inj h
      rw [hk]
      exact ev_ret kc_67 rfl rfl rfl
/-- WakeTower$LawText.readPart(LWakeTower$Tape;LWakeTower$Law;)Z: 27, W -/
theorem kc_27 : mKc 27 = k_X1_readPart := rfl
def f_X1_readPart_46 (o1 : Nat) (s0 : Int32) (M0 : mM) : Option (Bool × mM) :=
  b2 (f_X0_addStep o1 s0 M0) (fun v1 M1 => bif decide (s0 = (-1 : Int32)) then (some (false, M1)) else (some (true, M1)))
set_option maxRecDepth 8000 in
theorem e_X1_readPart_46 {o1 : Nat} {s0 : Int32} {M0 : mM} {R : mZ} {out : (Bool × mM)} (go1 : mLwB o1 = true) (h : f_X1_readPart_46 o1 s0 M0 = some out) (hk : R = emW eB out) : Ev (9) 27 46 [none, some (.ref o1), none] [.int s0] M0 R := by
  unfold f_X1_readPart_46 at h
  refine ev_go kc_27 3 (i' := 49) (L' := [none, some (.ref o1), some (.int s0)]) (st' := [.int s0, .ref o1]) (M' := M0) rfl ?_
  obtain ⟨v1, M1, hc1, h⟩ := o_b2 h
  refine ev_cl0 (ins := .invokevirtual 70) kc_27 rfl rfl (a := 14) (as := [.ref o1, .int s0]) (rest := []) rfl (m_rec (mLw0 go1)) (Cs.deep (c_X0_addStep hc1) (by decide)) ?_
  rcases o_bif h with ⟨hb2, h⟩ | ⟨hb2, h⟩
  · refine ev_goT kc_27 3 (t := 55) (e := 53) (L' := [none, some (.ref o1), some (.int s0)]) (st' := []) rfl hb2 ?_
    refine ev_go kc_27 1 (i' := 56) (L' := [none, some (.ref o1), some (.int s0)]) (st' := [.int (0 : Int32)]) (M' := M1) rfl ?_
    obtain rfl := Option.some.inj h
    rw [hk]
    exact ev_ret kc_27 rfl rfl rfl
  · refine ev_goF kc_27 3 (t := 55) (e := 53) (L' := [none, some (.ref o1), some (.int s0)]) (st' := []) rfl hb2 ?_
    refine ev_go kc_27 2 (i' := 56) (L' := [none, some (.ref o1), some (.int s0)]) (st' := [.int (1 : Int32)]) (M' := M1) rfl ?_
    obtain rfl := Option.some.inj h
    rw [hk]
    exact ev_ret kc_27 rfl rfl rfl
def f_X1_readPart (o1 : Nat) (M0 : mM) : Option (Bool × mM) :=
  gd (mLwB o1) (b2 (f_X7_takes 400 M0) (fun v3 M3 => bif v3 then (f_X1_readPart_46 o1 (1000 : Int32) M3) else (b2 (f_X7_takes 404 M3) (fun v5 M5 => bif v5 then (f_X1_readPart_46 o1 (1001 : Int32) M5) else (b2 (f_X7_takes 419 M5) (fun v7 M7 => bif v7 then (f_X1_readPart_46 o1 (1002 : Int32) M7) else (b2 (f_X7_takes 420 M7) (fun v9 M9 => bif v9 then (f_X1_readPart_46 o1 (1003 : Int32) M9) else (b2 (f_X7_takes 401 M9) (fun v11 M11 => bif v11 then (f_X1_readPart_46 o1 (1004 : Int32) M11) else (b2 (f_X7_takes 421 M11) (fun v13 M13 => bif v13 then (f_X1_readPart_46 o1 (1005 : Int32) M13) else (b2 (f_X7_takes 408 M13) (fun v15 M15 => bif v15 then (f_X1_readPart_46 o1 (1006 : Int32) M15) else (b2 (f_X7_number (0 : Int32) (999 : Int32) M15) (fun v17 M17 => f_X1_readPart_46 o1 v17 M17))))))))))))))))
set_option maxRecDepth 8000 in
theorem c_X1_readPart {o1 : Nat} {M0 : mM} {out : (Bool × mM)} (h : f_X1_readPart o1 M0 = some out) : Cs (9) 27 [.ref 1, .ref o1] M0 (emW eB out) := by
  generalize hk : emW eB out = R
  replace hk := hk.symm
  unfold f_X1_readPart at h
  obtain ⟨go1, h⟩ := o_gd h
  show Ev (9) 27 0 [some (.ref 1), some (.ref o1), none] [] M0 R
  refine ev_go kc_27 2 (i' := 2) (L' := [some (.ref 1), some (.ref o1), none]) (st' := [.ref 400, .ref 1]) (M' := M0) rfl ?_
  obtain ⟨v3, M3, hc3, h⟩ := o_b2 h
  refine ev_cl0 (ins := .invokevirtual 43) kc_27 rfl rfl (a := 64) (as := [.ref 1, .ref 400]) (rest := []) rfl rfl (Cs.deep (c_X7_takes hc3) (by decide)) ?_
  rcases o_bif h with ⟨hb4, h⟩ | ⟨hb4, h⟩
  · refine ev_goF kc_27 1 (t := 6) (e := 4) (L' := [some (.ref 1), some (.ref o1), none]) (st' := []) rfl (mB_e0f hb4) ?_
    refine ev_go kc_27 2 (i' := 46) (L' := [some (.ref 1), some (.ref o1), none]) (st' := [.int (1000 : Int32)]) (M' := M3) rfl ?_
    exact Ev.forget (mLe.sk (mLe.kp (mLe.sk mLe.nl))) (e_X1_readPart_46 go1 h hk)
  · refine ev_goT kc_27 1 (t := 6) (e := 4) (L' := [some (.ref 1), some (.ref o1), none]) (st' := []) rfl (mB_e0t hb4) ?_
    refine ev_go kc_27 2 (i' := 8) (L' := [some (.ref 1), some (.ref o1), none]) (st' := [.ref 404, .ref 1]) (M' := M3) rfl ?_
    obtain ⟨v5, M5, hc5, h⟩ := o_b2 h
    refine ev_cl0 (ins := .invokevirtual 43) kc_27 rfl rfl (a := 64) (as := [.ref 1, .ref 404]) (rest := []) rfl rfl (Cs.deep (c_X7_takes hc5) (by decide)) ?_
    rcases o_bif h with ⟨hb6, h⟩ | ⟨hb6, h⟩
    · refine ev_goF kc_27 1 (t := 12) (e := 10) (L' := [some (.ref 1), some (.ref o1), none]) (st' := []) rfl (mB_e0f hb6) ?_
      refine ev_go kc_27 2 (i' := 46) (L' := [some (.ref 1), some (.ref o1), none]) (st' := [.int (1001 : Int32)]) (M' := M5) rfl ?_
      exact Ev.forget (mLe.sk (mLe.kp (mLe.sk mLe.nl))) (e_X1_readPart_46 go1 h hk)
    · refine ev_goT kc_27 1 (t := 12) (e := 10) (L' := [some (.ref 1), some (.ref o1), none]) (st' := []) rfl (mB_e0t hb6) ?_
      refine ev_go kc_27 2 (i' := 14) (L' := [some (.ref 1), some (.ref o1), none]) (st' := [.ref 419, .ref 1]) (M' := M5) rfl ?_
      obtain ⟨v7, M7, hc7, h⟩ := o_b2 h
      refine ev_cl0 (ins := .invokevirtual 43) kc_27 rfl rfl (a := 64) (as := [.ref 1, .ref 419]) (rest := []) rfl rfl (Cs.deep (c_X7_takes hc7) (by decide)) ?_
      rcases o_bif h with ⟨hb8, h⟩ | ⟨hb8, h⟩
      · refine ev_goF kc_27 1 (t := 18) (e := 16) (L' := [some (.ref 1), some (.ref o1), none]) (st' := []) rfl (mB_e0f hb8) ?_
        refine ev_go kc_27 2 (i' := 46) (L' := [some (.ref 1), some (.ref o1), none]) (st' := [.int (1002 : Int32)]) (M' := M7) rfl ?_
        exact Ev.forget (mLe.sk (mLe.kp (mLe.sk mLe.nl))) (e_X1_readPart_46 go1 h hk)
      · refine ev_goT kc_27 1 (t := 18) (e := 16) (L' := [some (.ref 1), some (.ref o1), none]) (st' := []) rfl (mB_e0t hb8) ?_
        refine ev_go kc_27 2 (i' := 20) (L' := [some (.ref 1), some (.ref o1), none]) (st' := [.ref 420, .ref 1]) (M' := M7) rfl ?_
        obtain ⟨v9, M9, hc9, h⟩ := o_b2 h
        refine ev_cl0 (ins := .invokevirtual 43) kc_27 rfl rfl (a := 64) (as := [.ref 1, .ref 420]) (rest := []) rfl rfl (Cs.deep (c_X7_takes hc9) (by decide)) ?_
        rcases o_bif h with ⟨hb10, h⟩ | ⟨hb10, h⟩
        · refine ev_goF kc_27 1 (t := 24) (e := 22) (L' := [some (.ref 1), some (.ref o1), none]) (st' := []) rfl (mB_e0f hb10) ?_
          refine ev_go kc_27 2 (i' := 46) (L' := [some (.ref 1), some (.ref o1), none]) (st' := [.int (1003 : Int32)]) (M' := M9) rfl ?_
          exact Ev.forget (mLe.sk (mLe.kp (mLe.sk mLe.nl))) (e_X1_readPart_46 go1 h hk)
        · refine ev_goT kc_27 1 (t := 24) (e := 22) (L' := [some (.ref 1), some (.ref o1), none]) (st' := []) rfl (mB_e0t hb10) ?_
          refine ev_go kc_27 2 (i' := 26) (L' := [some (.ref 1), some (.ref o1), none]) (st' := [.ref 401, .ref 1]) (M' := M9) rfl ?_
          obtain ⟨v11, M11, hc11, h⟩ := o_b2 h
          refine ev_cl0 (ins := .invokevirtual 43) kc_27 rfl rfl (a := 64) (as := [.ref 1, .ref 401]) (rest := []) rfl rfl (Cs.deep (c_X7_takes hc11) (by decide)) ?_
          rcases o_bif h with ⟨hb12, h⟩ | ⟨hb12, h⟩
          · refine ev_goF kc_27 1 (t := 30) (e := 28) (L' := [some (.ref 1), some (.ref o1), none]) (st' := []) rfl (mB_e0f hb12) ?_
            refine ev_go kc_27 2 (i' := 46) (L' := [some (.ref 1), some (.ref o1), none]) (st' := [.int (1004 : Int32)]) (M' := M11) rfl ?_
            exact Ev.forget (mLe.sk (mLe.kp (mLe.sk mLe.nl))) (e_X1_readPart_46 go1 h hk)
          · refine ev_goT kc_27 1 (t := 30) (e := 28) (L' := [some (.ref 1), some (.ref o1), none]) (st' := []) rfl (mB_e0t hb12) ?_
            refine ev_go kc_27 2 (i' := 32) (L' := [some (.ref 1), some (.ref o1), none]) (st' := [.ref 421, .ref 1]) (M' := M11) rfl ?_
            obtain ⟨v13, M13, hc13, h⟩ := o_b2 h
            refine ev_cl0 (ins := .invokevirtual 43) kc_27 rfl rfl (a := 64) (as := [.ref 1, .ref 421]) (rest := []) rfl rfl (Cs.deep (c_X7_takes hc13) (by decide)) ?_
            rcases o_bif h with ⟨hb14, h⟩ | ⟨hb14, h⟩
            · refine ev_goF kc_27 1 (t := 36) (e := 34) (L' := [some (.ref 1), some (.ref o1), none]) (st' := []) rfl (mB_e0f hb14) ?_
              refine ev_go kc_27 2 (i' := 46) (L' := [some (.ref 1), some (.ref o1), none]) (st' := [.int (1005 : Int32)]) (M' := M13) rfl ?_
              exact Ev.forget (mLe.sk (mLe.kp (mLe.sk mLe.nl))) (e_X1_readPart_46 go1 h hk)
            · refine ev_goT kc_27 1 (t := 36) (e := 34) (L' := [some (.ref 1), some (.ref o1), none]) (st' := []) rfl (mB_e0t hb14) ?_
              refine ev_go kc_27 2 (i' := 38) (L' := [some (.ref 1), some (.ref o1), none]) (st' := [.ref 408, .ref 1]) (M' := M13) rfl ?_
              obtain ⟨v15, M15, hc15, h⟩ := o_b2 h
              refine ev_cl0 (ins := .invokevirtual 43) kc_27 rfl rfl (a := 64) (as := [.ref 1, .ref 408]) (rest := []) rfl rfl (Cs.deep (c_X7_takes hc15) (by decide)) ?_
              rcases o_bif h with ⟨hb16, h⟩ | ⟨hb16, h⟩
              · refine ev_goF kc_27 1 (t := 42) (e := 40) (L' := [some (.ref 1), some (.ref o1), none]) (st' := []) rfl (mB_e0f hb16) ?_
                refine ev_go kc_27 2 (i' := 46) (L' := [some (.ref 1), some (.ref o1), none]) (st' := [.int (1006 : Int32)]) (M' := M15) rfl ?_
                exact Ev.forget (mLe.sk (mLe.kp (mLe.sk mLe.nl))) (e_X1_readPart_46 go1 h hk)
              · refine ev_goT kc_27 1 (t := 42) (e := 40) (L' := [some (.ref 1), some (.ref o1), none]) (st' := []) rfl (mB_e0t hb16) ?_
                refine ev_go kc_27 3 (i' := 45) (L' := [some (.ref 1), some (.ref o1), none]) (st' := [.int (999 : Int32), .int (0 : Int32), .ref 1]) (M' := M15) rfl ?_
                obtain ⟨v17, M17, hc17, h⟩ := o_b2 h
                refine ev_cl0 (ins := .invokevirtual 51) kc_27 rfl rfl (a := 68) (as := [.ref 1, .int (0 : Int32), .int (999 : Int32)]) (rest := []) rfl rfl (Cs.deep (c_X7_number hc17) (by decide)) ?_
                exact Ev.forget (mLe.sk (mLe.kp (mLe.sk mLe.nl))) (e_X1_readPart_46 go1 h hk)
/-- WakeTower$LawText.readSum(LWakeTower$Tape;LWakeTower$Law;)Z: 26, W -/
theorem kc_26 : mKc 26 = k_X1_readSum := rfl
def f_X1_readSum_8 (o1 : Nat) (l2 : Int32) (M0 : mM) : Option ((Bool × mM) ⊕ (Int32 × mM)) :=
  bif decide ((400 : Int32) ≤ l2) then (some (.inl (true, M0))) else (b2 (f_X7_takesSign (43 : Int32) M0) (fun v2 M2 => bif v2 then (b2 (f_X1_readPart o1 M2) (fun v4 M4 => bif v4 then (b2 (f_X0_addStep o1 (1013 : Int32) M4) (fun v6 M6 => some (.inr ((l2 + (1 : Int32)), M6)))) else (some (.inl (false, M4))))) else (some (.inl (true, M2)))))
set_option maxRecDepth 8000 in
theorem e_X1_readSum_8 {o1 : Nat} {l2 : Int32} {M0 : mM} {R : mZ} {out : ((Bool × mM) ⊕ (Int32 × mM))} (go1 : mLwB o1 = true) (h : f_X1_readSum_8 o1 l2 M0 = some out) (hk : (∀ s' : Int32 × mM, out = .inr s' → Ev (10) 26 8 [some (.ref 1), some (.ref o1), some (.int s'.1)] [] (s'.2) R) ∧ (∀ e1 : (Bool × mM), out = .inl e1 → R = emW eB e1)) : Ev (10) 26 8 [some (.ref 1), some (.ref o1), some (.int l2)] [] M0 R := by
  unfold f_X1_readSum_8 at h
  rcases o_bif h with ⟨hb1, h⟩ | ⟨hb1, h⟩
  · refine ev_goT kc_26 3 (t := 26) (e := 11) (L' := [some (.ref 1), some (.ref o1), some (.int l2)]) (st' := []) rfl hb1 ?_
    refine ev_go kc_26 1 (i' := 27) (L' := [some (.ref 1), some (.ref o1), some (.int l2)]) (st' := [.int (1 : Int32)]) (M' := M0) rfl ?_
    obtain rfl := Option.some.inj h
    rw [show _ from (hk.2 _ rfl)]
    exact ev_ret kc_26 rfl rfl rfl
  · refine ev_goF kc_26 3 (t := 26) (e := 11) (L' := [some (.ref 1), some (.ref o1), some (.int l2)]) (st' := []) rfl hb1 ?_
    refine ev_go kc_26 2 (i' := 13) (L' := [some (.ref 1), some (.ref o1), some (.int l2)]) (st' := [.int (43 : Int32), .ref 1]) (M' := M0) rfl ?_
    obtain ⟨v2, M2, hc2, h⟩ := o_b2 h
    refine ev_cl0 (ins := .invokevirtual 81) kc_26 rfl rfl (a := 66) (as := [.ref 1, .int (43 : Int32)]) (rest := []) rfl rfl (Cs.deep (c_X7_takesSign hc2) (by decide)) ?_
    rcases o_bif h with ⟨hb3, h⟩ | ⟨hb3, h⟩
    · refine ev_goF kc_26 1 (t := 26) (e := 15) (L' := [some (.ref 1), some (.ref o1), some (.int l2)]) (st' := []) rfl (mB_e0f hb3) ?_
      refine ev_go kc_26 2 (i' := 17) (L' := [some (.ref 1), some (.ref o1), some (.int l2)]) (st' := [.ref o1, .ref 1]) (M' := M2) rfl ?_
      obtain ⟨v4, M4, hc4, h⟩ := o_b2 h
      refine ev_cl0 (ins := .invokestatic 93) kc_26 rfl rfl (a := 27) (as := [.ref 1, .ref o1]) (rest := []) rfl rfl (Cs.deep (c_X1_readPart hc4) (by decide)) ?_
      rcases o_bif h with ⟨hb5, h⟩ | ⟨hb5, h⟩
      · refine ev_goT kc_26 1 (t := 21) (e := 19) (L' := [some (.ref 1), some (.ref o1), some (.int l2)]) (st' := []) rfl (mB_n0t hb5) ?_
        refine ev_go kc_26 2 (i' := 23) (L' := [some (.ref 1), some (.ref o1), some (.int l2)]) (st' := [.int (1013 : Int32), .ref o1]) (M' := M4) rfl ?_
        obtain ⟨v6, M6, hc6, h⟩ := o_b2 h
        refine ev_cl0 (ins := .invokevirtual 70) kc_26 rfl rfl (a := 14) (as := [.ref o1, .int (1013 : Int32)]) (rest := []) rfl (m_rec (mLw0 go1)) (Cs.deep (c_X0_addStep hc6) (by decide)) ?_
        refine ev_go kc_26 2 (i' := 8) (L' := [some (.ref 1), some (.ref o1), some (.int (l2 + (1 : Int32)))]) (st' := []) (M' := M6) rfl ?_
        obtain rfl := Option.some.inj h
        exact Ev.forget (mLe.kp (mLe.kp (mLe.kp mLe.nl))) (hk.1 ((l2 + (1 : Int32)), M6) rfl)
      · refine ev_goF kc_26 1 (t := 21) (e := 19) (L' := [some (.ref 1), some (.ref o1), some (.int l2)]) (st' := []) rfl (mB_n0f hb5) ?_
        refine ev_go kc_26 1 (i' := 20) (L' := [some (.ref 1), some (.ref o1), some (.int l2)]) (st' := [.int (0 : Int32)]) (M' := M4) rfl ?_
        obtain rfl := Option.some.inj h
        rw [show _ from (hk.2 _ rfl)]
        exact ev_ret kc_26 rfl rfl rfl
    · refine ev_goT kc_26 1 (t := 26) (e := 15) (L' := [some (.ref 1), some (.ref o1), some (.int l2)]) (st' := []) rfl (mB_e0t hb3) ?_
      refine ev_go kc_26 1 (i' := 27) (L' := [some (.ref 1), some (.ref o1), some (.int l2)]) (st' := [.int (1 : Int32)]) (M' := M2) rfl ?_
      obtain rfl := Option.some.inj h
      rw [show _ from (hk.2 _ rfl)]
      exact ev_ret kc_26 rfl rfl rfl
def f_X1_readSum_l8 (o1 : Nat) (l2 : Int32) (M0 : mM) : Option (Bool × mM) :=
  wh 100000 (fun s : Int32 × mM => f_X1_readSum_8 o1 s.1 s.2) (l2, M0)
theorem e_X1_readSum_l8 {o1 : Nat} {l2 : Int32} {M0 : mM} {R : mZ} {out : (Bool × mM)} (go1 : mLwB o1 = true) (h : f_X1_readSum_l8 o1 l2 M0 = some out) (hk : R = emW eB out) : Ev (10) 26 8 [some (.ref 1), some (.ref o1), some (.int l2)] [] M0 R := by
  unfold f_X1_readSum_l8 at h
  exact wh_ev (P := fun s : Int32 × mM => Ev (10) 26 8 [some (.ref 1), some (.ref o1), some (.int s.1)] [] s.2 R) (Q := fun e : (Bool × mM) => R = emW eB e) (fun s o hb h1 h2 => e_X1_readSum_8 go1 hb ⟨h1, h2⟩) 100000 _ _ h hk
def f_X1_readSum (o1 : Nat) (M0 : mM) : Option (Bool × mM) :=
  gd (mLwB o1) (b2 (f_X1_readPart o1 M0) (fun v7 M7 => bif v7 then (f_X1_readSum_l8 o1 (0 : Int32) M7) else (some (false, M7))))
set_option maxRecDepth 8000 in
theorem c_X1_readSum {o1 : Nat} {M0 : mM} {out : (Bool × mM)} (h : f_X1_readSum o1 M0 = some out) : Cs (10) 26 [.ref 1, .ref o1] M0 (emW eB out) := by
  generalize hk : emW eB out = R
  replace hk := hk.symm
  unfold f_X1_readSum at h
  obtain ⟨go1, h⟩ := o_gd h
  show Ev (10) 26 0 [some (.ref 1), some (.ref o1), none] [] M0 R
  refine ev_go kc_26 2 (i' := 2) (L' := [some (.ref 1), some (.ref o1), none]) (st' := [.ref o1, .ref 1]) (M' := M0) rfl ?_
  obtain ⟨v7, M7, hc7, h⟩ := o_b2 h
  refine ev_cl0 (ins := .invokestatic 93) kc_26 rfl rfl (a := 27) (as := [.ref 1, .ref o1]) (rest := []) rfl rfl (Cs.deep (c_X1_readPart hc7) (by decide)) ?_
  rcases o_bif h with ⟨hb8, h⟩ | ⟨hb8, h⟩
  · refine ev_goT kc_26 1 (t := 6) (e := 4) (L' := [some (.ref 1), some (.ref o1), none]) (st' := []) rfl (mB_n0t hb8) ?_
    refine ev_go kc_26 2 (i' := 8) (L' := [some (.ref 1), some (.ref o1), some (.int (0 : Int32))]) (st' := []) (M' := M7) rfl ?_
    exact Ev.forget (mLe.kp (mLe.kp (mLe.kp mLe.nl))) (e_X1_readSum_l8 go1 h hk)
  · refine ev_goF kc_26 1 (t := 6) (e := 4) (L' := [some (.ref 1), some (.ref o1), none]) (st' := []) rfl (mB_n0f hb8) ?_
    refine ev_go kc_26 1 (i' := 5) (L' := [some (.ref 1), some (.ref o1), none]) (st' := [.int (0 : Int32)]) (M' := M7) rfl ?_
    obtain rfl := Option.some.inj h
    rw [hk]
    exact ev_ret kc_26 rfl rfl rfl
/-- WakeTower$Log.copyFrom(LWakeTower$Log;)V: 28, W -/
theorem kc_28 : mKc 28 = k_X2_copyFrom := rfl
def f_X2_copyFrom (o0 : Nat) (o1 : Nat) (M0 : mM) : Option (Unit × mM) :=
  gd (mLgB o0) (gd (mLgB o1) (gd (mAcB (o1 + 1) (o0 + 1) (0 : Int32) (0 : Int32) (360 : Int32)) (wr (mAc (o1 + 1) (o0 + 1) (0 : Int32) (0 : Int32) (360 : Int32) M0) (fun M1 => wr (mst M1 o0 1 (M1 o1 1)) (fun M3 => wr (mst M3 o0 2 (M3 o1 2)) (fun M4 => some ((), M4)))))))
set_option maxRecDepth 8000 in
theorem c_X2_copyFrom {o0 : Nat} {o1 : Nat} {M0 : mM} {out : (Unit × mM)} (h : f_X2_copyFrom o0 o1 M0 = some out) : Cs (8) 28 [.ref o0, .ref o1] M0 (emW eU out) := by
  generalize hk : emW eU out = R
  replace hk := hk.symm
  unfold f_X2_copyFrom at h
  obtain ⟨go0, h⟩ := o_gd h
  obtain ⟨go1, h⟩ := o_gd h
  show Ev (8) 28 0 [some (.ref o0), some (.ref o1)] [] M0 R
  refine ev_go kc_28 1 (i' := 1) (L' := [some (.ref o0), some (.ref o1)]) (st' := [.ref o1]) (M' := M0) rfl ?_
  refine ev_gr kc_28 rfl (mLgB0 go1) (j := 0) rfl ?_
  refine ev_go kc_28 2 (i' := 4) (L' := [some (.ref o0), some (.ref o1)]) (st' := [.ref o0, .int (0 : Int32), .ref (o1 + 1)]) (M' := M0) rfl ?_
  refine ev_gr kc_28 rfl (mLgB0 go0) (j := 0) rfl ?_
  refine ev_go kc_28 2 (i' := 7) (L' := [some (.ref o0), some (.ref o1)]) (st' := [.int (360 : Int32), .int (0 : Int32), .ref (o0 + 1), .int (0 : Int32), .ref (o1 + 1)]) (M' := M0) rfl ?_
  obtain ⟨hg2, h⟩ := o_gd h
  obtain ⟨M1, hM1, h⟩ := o_wr h
  refine ev_ac kc_28 rfl rfl rfl rfl hg2 hM1 ?_
  refine ev_go kc_28 2 (i' := 10) (L' := [some (.ref o0), some (.ref o1)]) (st' := [.ref o1, .ref o0]) (M' := M1) rfl ?_
  refine ev_gf kc_28 rfl (mLgB0 go1) rfl ?_
  obtain ⟨M3, hM3, h⟩ := o_wr h
  refine ev_pf kc_28 rfl (mLgB0 go0) rfl rfl (fun hc => absurd hc (by decide)) hM3 ?_
  refine ev_go kc_28 2 (i' := 14) (L' := [some (.ref o0), some (.ref o1)]) (st' := [.ref o1, .ref o0]) (M' := M3) rfl ?_
  refine ev_gf kc_28 rfl (mLgB0 go1) rfl ?_
  obtain ⟨M4, hM4, h⟩ := o_wr h
  refine ev_pf kc_28 rfl (mLgB0 go0) rfl rfl (fun hc => absurd hc (by decide)) hM4 ?_
  obtain rfl := Option.some.inj h
  rw [hk]
  exact ev_vret kc_28 rfl rfl rfl
/-- WakeTower$Log.add(IIIIII)V: 29, W -/
theorem kc_29 : mKc 29 = k_X2_add := rfl
def f_X2_add_68 (o0 : Nat) (s1 : Int32) (M0 : mM) : Option (Unit × mM) :=
  wr (mst M0 o0 1 s1) (fun M1 => wr (mst M1 o0 2 (mMin (60 : Int32) ((M1 o0 2) + (1 : Int32)))) (fun M2 => some ((), M2)))
set_option maxRecDepth 8000 in
theorem e_X2_add_68 {o0 : Nat} {s1 : Int32} {M0 : mM} {R : mZ} {out : (Unit × mM)} (go0 : mLgB o0 = true) (h : f_X2_add_68 o0 s1 M0 = some out) (hk : R = emW eU out) : Ev (8) 29 68 [some (.ref o0), none, none, none, none, none, none, none] [.int s1, .ref o0] M0 R := by
  unfold f_X2_add_68 at h
  obtain ⟨M1, hM1, h⟩ := o_wr h
  refine ev_pf kc_29 rfl (mLgB0 go0) rfl rfl (fun hc => absurd hc (by decide)) hM1 ?_
  refine ev_go kc_29 3 (i' := 72) (L' := [some (.ref o0), none, none, none, none, none, none, none]) (st' := [.ref o0, .int (60 : Int32), .ref o0]) (M' := M1) rfl ?_
  refine ev_gf kc_29 rfl (mLgB0 go0) rfl ?_
  refine ev_go kc_29 2 (i' := 75) (L' := [some (.ref o0), none, none, none, none, none, none, none]) (st' := [.int ((M1 o0 2) + (1 : Int32)), .int (60 : Int32), .ref o0]) (M' := M1) rfl ?_
  refine ev_pm kc_29 rfl rfl rfl rfl (as := [.int (60 : Int32), .int ((M1 o0 2) + (1 : Int32))]) (rest := [.ref o0]) rfl rfl rfl (v := some (mMin (60 : Int32) ((M1 o0 2) + (1 : Int32)))) rfl ?_
  obtain ⟨M2, hM2, h⟩ := o_wr h
  refine ev_pf kc_29 rfl (mLgB0 go0) rfl rfl (fun hc => absurd hc (by decide)) hM2 ?_
  obtain rfl := Option.some.inj h
  rw [hk]
  exact ev_vret kc_29 rfl rfl rfl
def f_X2_add (o0 : Nat) (p1 : Int32) (p2 : Int32) (p3 : Int32) (p4 : Int32) (p5 : Int32) (p6 : Int32) (M0 : mM) : Option (Unit × mM) :=
  gd (mLgB o0) (bif decide (((M0 o0 1) * (6 : Int32)) < 0) then (some ((), M0)) else (bif decide (((M0 o0 1) * (6 : Int32)) ≤ ((nI 360) - (6 : Int32))) then (gd (mIn ((M0 o0 1) * (6 : Int32)) 360) (wr (mst M0 (o0 + 1) (ix ((M0 o0 1) * (6 : Int32))) p1) (fun M5 => gd (mIn (((M0 o0 1) * (6 : Int32)) + (1 : Int32)) 360) (wr (mst M5 (o0 + 1) (ix (((M0 o0 1) * (6 : Int32)) + (1 : Int32))) p2) (fun M7 => gd (mIn (((M0 o0 1) * (6 : Int32)) + (2 : Int32)) 360) (wr (mst M7 (o0 + 1) (ix (((M0 o0 1) * (6 : Int32)) + (2 : Int32))) p3) (fun M9 => gd (mIn (((M0 o0 1) * (6 : Int32)) + (3 : Int32)) 360) (wr (mst M9 (o0 + 1) (ix (((M0 o0 1) * (6 : Int32)) + (3 : Int32))) p4) (fun M11 => gd (mIn (((M0 o0 1) * (6 : Int32)) + (4 : Int32)) 360) (wr (mst M11 (o0 + 1) (ix (((M0 o0 1) * (6 : Int32)) + (4 : Int32))) p5) (fun M13 => gd (mIn (((M0 o0 1) * (6 : Int32)) + (5 : Int32)) 360) (wr (mst M13 (o0 + 1) (ix (((M0 o0 1) * (6 : Int32)) + (5 : Int32))) p6) (fun M15 => bif decide ((60 : Int32) ≤ ((M15 o0 1) + (1 : Int32))) then (f_X2_add_68 o0 (0 : Int32) M15) else (f_X2_add_68 o0 ((M15 o0 1) + (1 : Int32)) M15)))))))))))))) else (some ((), M0))))
set_option maxRecDepth 8000 in
theorem c_X2_add {o0 : Nat} {p1 : Int32} {p2 : Int32} {p3 : Int32} {p4 : Int32} {p5 : Int32} {p6 : Int32} {M0 : mM} {out : (Unit × mM)} (h : f_X2_add o0 p1 p2 p3 p4 p5 p6 M0 = some out) : Cs (8) 29 [.ref o0, .int p1, .int p2, .int p3, .int p4, .int p5, .int p6] M0 (emW eU out) := by
  generalize hk : emW eU out = R
  replace hk := hk.symm
  unfold f_X2_add at h
  obtain ⟨go0, h⟩ := o_gd h
  show Ev (8) 29 0 [some (.ref o0), some (.int p1), some (.int p2), some (.int p3), some (.int p4), some (.int p5), some (.int p6), none] [] M0 R
  refine ev_go kc_29 1 (i' := 1) (L' := [some (.ref o0), some (.int p1), some (.int p2), some (.int p3), some (.int p4), some (.int p5), some (.int p6), none]) (st' := [.ref o0]) (M' := M0) rfl ?_
  refine ev_gf kc_29 rfl (mLgB0 go0) rfl ?_
  rcases o_bif h with ⟨hb3, h⟩ | ⟨hb3, h⟩
  · refine ev_goT kc_29 5 (t := 14) (e := 7) (L' := [some (.ref o0), some (.int p1), some (.int p2), some (.int p3), some (.int p4), some (.int p5), some (.int p6), some (.int ((M0 o0 1) * (6 : Int32)))]) (st' := []) rfl hb3 ?_
    obtain rfl := Option.some.inj h
    rw [hk]
    exact ev_vret kc_29 rfl rfl rfl
  · refine ev_goF kc_29 5 (t := 14) (e := 7) (L' := [some (.ref o0), some (.int p1), some (.int p2), some (.int p3), some (.int p4), some (.int p5), some (.int p6), some (.int ((M0 o0 1) * (6 : Int32)))]) (st' := []) rfl hb3 ?_
    refine ev_go kc_29 2 (i' := 9) (L' := [some (.ref o0), some (.int p1), some (.int p2), some (.int p3), some (.int p4), some (.int p5), some (.int p6), some (.int ((M0 o0 1) * (6 : Int32)))]) (st' := [.ref o0, .int ((M0 o0 1) * (6 : Int32))]) (M' := M0) rfl ?_
    refine ev_gr kc_29 rfl (mLgB0 go0) (j := 0) rfl ?_
    refine ev_al kc_29 rfl (mLgB1 go0) rfl ?_
    rcases o_bif h with ⟨hb4, h⟩ | ⟨hb4, h⟩
    · refine ev_goT kc_29 3 (t := 15) (e := 14) (L' := [some (.ref o0), some (.int p1), some (.int p2), some (.int p3), some (.int p4), some (.int p5), some (.int p6), some (.int ((M0 o0 1) * (6 : Int32)))]) (st' := []) rfl hb4 ?_
      refine ev_go kc_29 1 (i' := 16) (L' := [some (.ref o0), some (.int p1), some (.int p2), some (.int p3), some (.int p4), some (.int p5), some (.int p6), some (.int ((M0 o0 1) * (6 : Int32)))]) (st' := [.ref o0]) (M' := M0) rfl ?_
      refine ev_gr kc_29 rfl (mLgB0 go0) (j := 0) rfl ?_
      refine ev_go kc_29 2 (i' := 19) (L' := [some (.ref o0), some (.int p1), some (.int p2), some (.int p3), some (.int p4), some (.int p5), some (.int p6), some (.int ((M0 o0 1) * (6 : Int32)))]) (st' := [.int p1, .int ((M0 o0 1) * (6 : Int32)), .ref (o0 + 1)]) (M' := M0) rfl ?_
      obtain ⟨hg6, h⟩ := o_gd h
      obtain ⟨M5, hM5, h⟩ := o_wr h
      refine ev_is kc_29 rfl (mLgB1 go0) hg6 hM5 ?_
      refine ev_go kc_29 1 (i' := 21) (L' := [some (.ref o0), some (.int p1), some (.int p2), some (.int p3), some (.int p4), some (.int p5), some (.int p6), some (.int ((M0 o0 1) * (6 : Int32)))]) (st' := [.ref o0]) (M' := M5) rfl ?_
      refine ev_gr kc_29 rfl (mLgB0 go0) (j := 0) rfl ?_
      refine ev_go kc_29 4 (i' := 26) (L' := [some (.ref o0), some (.int p1), some (.int p2), some (.int p3), some (.int p4), some (.int p5), some (.int p6), some (.int ((M0 o0 1) * (6 : Int32)))]) (st' := [.int p2, .int (((M0 o0 1) * (6 : Int32)) + (1 : Int32)), .ref (o0 + 1)]) (M' := M5) rfl ?_
      obtain ⟨hg8, h⟩ := o_gd h
      obtain ⟨M7, hM7, h⟩ := o_wr h
      refine ev_is kc_29 rfl (mLgB1 go0) hg8 hM7 ?_
      refine ev_go kc_29 1 (i' := 28) (L' := [some (.ref o0), some (.int p1), some (.int p2), some (.int p3), some (.int p4), some (.int p5), some (.int p6), some (.int ((M0 o0 1) * (6 : Int32)))]) (st' := [.ref o0]) (M' := M7) rfl ?_
      refine ev_gr kc_29 rfl (mLgB0 go0) (j := 0) rfl ?_
      refine ev_go kc_29 4 (i' := 33) (L' := [some (.ref o0), some (.int p1), some (.int p2), some (.int p3), some (.int p4), some (.int p5), some (.int p6), some (.int ((M0 o0 1) * (6 : Int32)))]) (st' := [.int p3, .int (((M0 o0 1) * (6 : Int32)) + (2 : Int32)), .ref (o0 + 1)]) (M' := M7) rfl ?_
      obtain ⟨hg10, h⟩ := o_gd h
      obtain ⟨M9, hM9, h⟩ := o_wr h
      refine ev_is kc_29 rfl (mLgB1 go0) hg10 hM9 ?_
      refine ev_go kc_29 1 (i' := 35) (L' := [some (.ref o0), some (.int p1), some (.int p2), some (.int p3), some (.int p4), some (.int p5), some (.int p6), some (.int ((M0 o0 1) * (6 : Int32)))]) (st' := [.ref o0]) (M' := M9) rfl ?_
      refine ev_gr kc_29 rfl (mLgB0 go0) (j := 0) rfl ?_
      refine ev_go kc_29 4 (i' := 40) (L' := [some (.ref o0), some (.int p1), some (.int p2), some (.int p3), some (.int p4), some (.int p5), some (.int p6), some (.int ((M0 o0 1) * (6 : Int32)))]) (st' := [.int p4, .int (((M0 o0 1) * (6 : Int32)) + (3 : Int32)), .ref (o0 + 1)]) (M' := M9) rfl ?_
      obtain ⟨hg12, h⟩ := o_gd h
      obtain ⟨M11, hM11, h⟩ := o_wr h
      refine ev_is kc_29 rfl (mLgB1 go0) hg12 hM11 ?_
      refine ev_go kc_29 1 (i' := 42) (L' := [some (.ref o0), some (.int p1), some (.int p2), some (.int p3), some (.int p4), some (.int p5), some (.int p6), some (.int ((M0 o0 1) * (6 : Int32)))]) (st' := [.ref o0]) (M' := M11) rfl ?_
      refine ev_gr kc_29 rfl (mLgB0 go0) (j := 0) rfl ?_
      refine ev_go kc_29 4 (i' := 47) (L' := [some (.ref o0), some (.int p1), some (.int p2), some (.int p3), some (.int p4), some (.int p5), some (.int p6), some (.int ((M0 o0 1) * (6 : Int32)))]) (st' := [.int p5, .int (((M0 o0 1) * (6 : Int32)) + (4 : Int32)), .ref (o0 + 1)]) (M' := M11) rfl ?_
      obtain ⟨hg14, h⟩ := o_gd h
      obtain ⟨M13, hM13, h⟩ := o_wr h
      refine ev_is kc_29 rfl (mLgB1 go0) hg14 hM13 ?_
      refine ev_go kc_29 1 (i' := 49) (L' := [some (.ref o0), some (.int p1), some (.int p2), some (.int p3), some (.int p4), some (.int p5), some (.int p6), some (.int ((M0 o0 1) * (6 : Int32)))]) (st' := [.ref o0]) (M' := M13) rfl ?_
      refine ev_gr kc_29 rfl (mLgB0 go0) (j := 0) rfl ?_
      refine ev_go kc_29 4 (i' := 54) (L' := [some (.ref o0), some (.int p1), some (.int p2), some (.int p3), some (.int p4), some (.int p5), some (.int p6), some (.int ((M0 o0 1) * (6 : Int32)))]) (st' := [.int p6, .int (((M0 o0 1) * (6 : Int32)) + (5 : Int32)), .ref (o0 + 1)]) (M' := M13) rfl ?_
      obtain ⟨hg16, h⟩ := o_gd h
      obtain ⟨M15, hM15, h⟩ := o_wr h
      refine ev_is kc_29 rfl (mLgB1 go0) hg16 hM15 ?_
      refine ev_go kc_29 2 (i' := 57) (L' := [some (.ref o0), some (.int p1), some (.int p2), some (.int p3), some (.int p4), some (.int p5), some (.int p6), some (.int ((M0 o0 1) * (6 : Int32)))]) (st' := [.ref o0, .ref o0]) (M' := M15) rfl ?_
      refine ev_gf kc_29 rfl (mLgB0 go0) rfl ?_
      rcases o_bif h with ⟨hb17, h⟩ | ⟨hb17, h⟩
      · refine ev_goT kc_29 4 (t := 67) (e := 62) (L' := [some (.ref o0), some (.int p1), some (.int p2), some (.int p3), some (.int p4), some (.int p5), some (.int p6), some (.int ((M0 o0 1) * (6 : Int32)))]) (st' := [.ref o0]) rfl hb17 ?_
        refine ev_go kc_29 1 (i' := 68) (L' := [some (.ref o0), some (.int p1), some (.int p2), some (.int p3), some (.int p4), some (.int p5), some (.int p6), some (.int ((M0 o0 1) * (6 : Int32)))]) (st' := [.int (0 : Int32), .ref o0]) (M' := M15) rfl ?_
        exact Ev.forget (mLe.kp (mLe.sk (mLe.sk (mLe.sk (mLe.sk (mLe.sk (mLe.sk (mLe.sk mLe.nl)))))))) (e_X2_add_68 go0 h hk)
      · refine ev_goF kc_29 4 (t := 67) (e := 62) (L' := [some (.ref o0), some (.int p1), some (.int p2), some (.int p3), some (.int p4), some (.int p5), some (.int p6), some (.int ((M0 o0 1) * (6 : Int32)))]) (st' := [.ref o0]) rfl hb17 ?_
        refine ev_go kc_29 1 (i' := 63) (L' := [some (.ref o0), some (.int p1), some (.int p2), some (.int p3), some (.int p4), some (.int p5), some (.int p6), some (.int ((M0 o0 1) * (6 : Int32)))]) (st' := [.ref o0, .ref o0]) (M' := M15) rfl ?_
        refine ev_gf kc_29 rfl (mLgB0 go0) rfl ?_
        refine ev_go kc_29 3 (i' := 68) (L' := [some (.ref o0), some (.int p1), some (.int p2), some (.int p3), some (.int p4), some (.int p5), some (.int p6), some (.int ((M0 o0 1) * (6 : Int32)))]) (st' := [.int ((M15 o0 1) + (1 : Int32)), .ref o0]) (M' := M15) rfl ?_
        exact Ev.forget (mLe.kp (mLe.sk (mLe.sk (mLe.sk (mLe.sk (mLe.sk (mLe.sk (mLe.sk mLe.nl)))))))) (e_X2_add_68 go0 h hk)
    · refine ev_goF kc_29 3 (t := 15) (e := 14) (L' := [some (.ref o0), some (.int p1), some (.int p2), some (.int p3), some (.int p4), some (.int p5), some (.int p6), some (.int ((M0 o0 1) * (6 : Int32)))]) (st' := []) rfl hb4 ?_
      obtain rfl := Option.some.inj h
      rw [hk]
      exact ev_vret kc_29 rfl rfl rfl
