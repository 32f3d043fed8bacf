/-! texts of the tower: lines, and all of them -/
section
variable {L : Nat} {B : Nat → Nat} {n : Nat}
/-- need, hour, day -/
theorem t_num (hT : txt L B) {X Y : mM} {p c hi : Nat} (hp : p ≤ L) (hX : tC X L B (sB L B p)) (hY : tM Y L B p) (hD : DT n X Y) (hc : c = 3 ∨ c = 4 ∨ c = 5) (hhi : hi < 2 ^ 31) (hw : ∀ (Y' : mM) v, WF n (Y' 216) → v ≤ hi → WF n (upd (Y' 216) c (nI v))) : RsT L B X Y (b2 (f_X7_number (0 : Int32) (nI hi) X) (fun v M14 => wr (mst M14 47 c v) (fun M15 => bif decide ((M15 47 c) = (-1 : Int32)) then (some (false, M15)) else (some (true, M15))))) (f_X12_readNumber (nI c) (0 : Int32) (nI hi) Y) := by
  have h8 := hD.1.2.1
  obtain ⟨s1, s2⟩ := sB_le (B := B) hp
  unfold f_X12_readNumber f_X12_readNumber_16
  rcases nmB hT hp hX hY (lo := 0) (hi := nI hi) with ⟨X1, Y1, v, p1, c1, c2, -, c3, c4, c5, c6, c7, c8, c9, c10, c11⟩ | ⟨X1, Y1, c1, c2, c3, c4, c5, c6⟩
  · have hv : v ≤ hi := in_hi (by omega) hhi c9
    have hD1 : DT n X1 Y1 := (hD.fC c10).fM c11
    rw [c1, b2_s, wr_e, mst_oo, nm1 (by omega), cond_false, c2, b2_s, i_0le (by omega), cond_true, gd_t (i_in (by omega) (by decide)), wr_e, i_ix (by omega), decide_eq_false (nI_pos (show v < 2 ^ 31 by omega)), cond_false, mst_rs Y1]
    refine RsT.yes (n' := n) rfl rfl c3 (c4.cg (mst_no (by decide)) (mst_no (by decide))) (c5.cg (rs_ne (by decide)) (rs_ne (by decide))) ?_ (c10.g.tr (hC1.of fun z hz => mst_no (by omega))) (c11.g.tr (hM1.w (fun k hk => upd_ne (by omega)) (upd_ne (by omega)) (upd_ne (by omega))))
    unfold DT
    rw [rs_at]
    have eP : eqP (Y1 216) (upd (Y1 216) c (nI v)) := fun q d hq hd => pv_uo hq hd (by omega)
    obtain ⟨-, a1, a2, a3, a4, a5, a6, a7, -⟩ := id hD1.2
    refine ⟨hw Y1 v hD1.1 hv, hD1.2.hd h8 eP (mst_nk (by omega)) (mst_nk (by omega)) (mst_nk (by omega)) ?_ ?_ ?_ ?_ ?_ (fun z z1 _ => mst_no (by omega)) (upd_ne (by omega)) (fun k k1 _ => upd_ne (by omega))⟩
    · by_cases h : c = 3
      · rw [h, mst_oo, upd_at]
      · rw [mst_nk (by omega), upd_ne (by omega)]; exact a3
    · by_cases h : c = 4
      · rw [h, mst_oo, upd_at]
      · rw [mst_nk (by omega), upd_ne (by omega)]; exact a4
    · by_cases h : c = 5
      · rw [h, mst_oo, upd_at]
      · rw [mst_nk (by omega), upd_ne (by omega)]; exact a5
    · rw [mst_nk (by omega), upd_ne (by omega)]; exact a6
    · rw [mst_nk (by omega), upd_ne (by omega)]; exact a7
  · rw [c1, b2_s, wr_e, mst_oo, show decide ((-1 : Int32) = (-1 : Int32)) = true from rfl, cond_true, c2, b2_s, show decide ((0 : Int32) ≤ (-1 : Int32)) = false from rfl, cond_false, gd_t (i_in (by omega) (by decide)), gd_t (i_in (by omega) (by decide)), wr_e, i_ix (by omega), show decide ((-1 : Int32) < 0) = true from rfl, cond_true, mst_sf]
    exact RsT.no rfl rfl s2 (by rw [mst_no (by decide)]; exact c3) c4 (c5.g.tr (hC1.of fun z hz => mst_no (by omega))) c6.g
/-- one line -/
theorem t_line (hT : txt L B) {X Y : mM} {p l : Nat} (hl : l < 14) (hp : p ≤ L) (hX : tC X L B (sB L B p)) (hY : tM Y L B p) (hD : DT n X Y) : RsT L B X Y (f_X10_readLine 47 X) (f_X12_readLine true (nI l) Y) := by
  have h8 := hD.1.2.1
  obtain ⟨s1, s2⟩ := sB_le (B := B) hp
  obtain ⟨Y1, y1, y2, y3, y4⟩ := M_letters hT hY hp
  have k0 := okw (o := 400) (by decide) (by decide) (by decide)
  have k3 := okw (o := 403) (by decide) (by decide) (by decide)
  have k6 := okw (o := 406) (by decide) (by decide) (by decide)
  have k7 := okw (o := 407) (by decide) (by decide) (by decide)
  have k8 := okw (o := 408) (by decide) (by decide) (by decide)
  have k9 := okw (o := 409) (by decide) (by decide) (by decide)
  have hm : f_X12_readLine true (nI l) Y = f_X12_readTowerLine Y1 := by
    unfold f_X12_readLine f_X12_readLine_8
    rw [y1, b2_s, cond_true, show decide ((14 : Int32) ≤ nI l) = false from i_lit (a := 14) (by decide) hl, cond_false, cond_true]
    cases f_X12_readTowerLine Y1 with
    | none => rfl
    | some r => obtain ⟨b, Z⟩ := r; cases b <;> rfl
  rw [hm]
  have id2 : ∀ r : Option (Bool × mM), b2 r (fun v M => some (v, M)) = r := fun r => by
    cases r with
    | none => rfl
    | some r => rfl
  have id3 : ∀ r : Option (Bool × mM), b2 r (fun v M => bif v then some (true, M) else some (false, M)) = r := fun r => by
    cases r with
    | none => rfl
    | some r => obtain ⟨b, Z⟩ := r; cases b <;> rfl
  unfold f_X10_readLine f_X12_readTowerLine
  rw [gd_t T47, hX.2.2.1, M_isWord hT hp y2 y3 k0.1 k0.2, b1_s]
  have hD1 : DT n X Y1 := hD.fM y4
  obtain ⟨w0, v0⟩ := C_takes hT hX s2 k0.1 k0.2
  cases c0 : isW L B (sB L B p) (mTt 400)
  · rw [v0 c0, b2_s, cond_false, cond_false, M_isWord hT hp y2 y3 k3.1 k3.2, b1_s]
    obtain ⟨w3, v3⟩ := C_takes hT hX s2 k3.1 k3.2
    cases c3 : isW L B (sB L B p) (mTt 403)
    · rw [v3 c3, b2_s, cond_false, cond_false, M_isWord hT hp y2 y3 k6.1 k6.2, b1_s]
      obtain ⟨w6, v6⟩ := C_takes hT hX s2 k6.1 k6.2
      cases c6 : isW L B (sB L B p) (mTt 406)
      · rw [v6 c6, b2_s, cond_false, cond_false, M_isWord hT hp y2 y3 k7.1 k7.2, b1_s]
        obtain ⟨w7, v7⟩ := C_takes hT hX s2 k7.1 k7.2
        cases c7 : isW L B (sB L B p) (mTt 407)
        · rw [v7 c7, b2_s, cond_false, cond_false, M_isWord hT hp y2 y3 k8.1 k8.2, b1_s]
          obtain ⟨w8, v8⟩ := C_takes hT hX s2 k8.1 k8.2
          cases c8 : isW L B (sB L B p) (mTt 408)
          · rw [v8 c8, b2_s, cond_false, cond_false, M_isWord hT hp y2 y3 k9.1 k9.2, b1_s]
            obtain ⟨w9, v9⟩ := C_takes hT hX s2 k9.1 k9.2
            cases c9 : isW L B (sB L B p) (mTt 409)
            · rw [v9 c9, b2_s, cond_false, cond_false, C_wrong hX.2.2.2, b2_s]
              exact RsT.no rfl rfl s2 (mst_oo _ _ _ _) y3 (fC.st (by decide)).g y4.g
            · obtain ⟨l1, X', x1, x2, x3⟩ := w9 c9
              rw [wL_of c9] at y2
              rw [x1, b2_s, cond_true, cond_true, id3]
              exact (t_num hT (c := 4) (hi := 999) l1 x2 y2 (hD1.fC x3) (by decide) (by decide) fun Z v hZ hv => hZ.hd (fun q d hq hd => pv_uo hq hd (by decide)) (upd_ne (by decide)) hZ.2.2.2.2.1 hZ.2.2.2.2.2.1 ⟨v, by omega, upd_at _ _ _⟩ hZ.2.2.2.2.2.2.2).mv x3.g y4.g
          · obtain ⟨l1, X', x1, x2, x3⟩ := w8 c8
            rw [wL_of c8] at y2
            rw [x1, b2_s, cond_true, cond_true, id2]
            exact (t_num hT (c := 3) (hi := 23) l1 x2 y2 (hD1.fC x3) (by decide) (by decide) fun Z v hZ hv => hZ.hd (fun q d hq hd => pv_uo hq hd (by decide)) (upd_ne (by decide)) hZ.2.2.2.2.1 ⟨v, by omega, upd_at _ _ _⟩ hZ.2.2.2.2.2.2.1 hZ.2.2.2.2.2.2.2).mv x3.g y4.g
        · obtain ⟨l1, X', x1, x2, x3⟩ := w7 c7
          rw [wL_of c7] at y2
          rw [x1, b2_s, cond_true, cond_true, id2]
          exact (t_num hT (c := 5) (hi := 8) l1 x2 y2 (hD1.fC x3) (by decide) (by decide) fun Z v hZ hv => hZ.hd (fun q d hq hd => pv_uo hq hd (by decide)) (upd_ne (by decide)) hZ.2.2.2.2.1 hZ.2.2.2.2.2.1 hZ.2.2.2.2.2.2.1 ⟨v, by omega, upd_at _ _ _⟩).mv x3.g y4.g
      · obtain ⟨l1, X', x1, x2, x3⟩ := w6 c6
        rw [wL_of c6] at y2
        rw [x1, b2_s, cond_true, cond_true, id2, id2]
        exact (t_asleep hT l1 x2 y2 (hD1.fC x3)).mv x3.g y4.g
    · obtain ⟨l1, X', x1, x2, x3⟩ := w3 c3
      rw [wL_of c3] at y2
      rw [x1, b2_s, cond_true, cond_true, id2, id2]
      exact (t_up hT l1 x2 y2 (hD1.fC x3)).mv x3.g y4.g
  · obtain ⟨l1, X', x1, x2, x3⟩ := w0 c0
    rw [wL_of c0] at y2
    have hD2 : DT n X' Y1 := hD1.fC x3
    rw [x1, b2_s, cond_true, cond_true, hD2.2.1, show decide ((8 : Int32) ≤ nI n) = decide (8 ≤ n) from i_le (a := 8) (by decide) (by omega)]
    by_cases hn : n < 8
    · rw [decide_eq_false (by omega), cond_false, id2, id2]
      exact (t_person hT l1 x2 y2 hD2 hn).mv x3.g y4.g
    · rw [decide_eq_true (by omega), cond_true, C_wrong x2.2.2.2, b2_s, id2]
      have hm8 : f_X12_readPerson Y1 = some (false, Y1) := by
        unfold f_X12_readPerson
        rw [m_ppl hD2.1.1, b1_s, show n = 8 by omega]
        rfl
      exact RsT.no rfl hm8 s2 (mst_oo _ _ _ _) y3 (x3.tr (fC.st (by decide))).g y4.g
end
