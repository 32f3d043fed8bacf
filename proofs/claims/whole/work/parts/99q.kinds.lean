/-! the 60 kinds of call, each in the law's method -/
theorem zS0 : zS [] := fun v hv => by cases hv
theorem ev_ll {d i : Nat} {L : List (Option Value)} {st : List Value} {M : mM} {r : (Option Int32 ⊕ Nat) × mM × Nat} {p l a b w : Nat} (he : k_L_law_[i]? = some (.laload, p, l, a, b, w)) (hE : Ev d 372 (i + 1) L (.long (M 231 0).toInt64 :: st) M r) : Ev d 372 i L (.int (Int32.ofInt 0) :: .ref 231 :: st) M r := by
  refine ev_1 kc_372 he rfl (i' := i + 1) (L' := L) (st' := .long (M 231 0).toInt64 :: st) (M1 := M) ?_ hE
  show mLdl i L (.int (Int32.ofInt 0) :: .ref 231 :: st) M = _
  unfold mLdl
  dsimp only
  rw [if_pos ⟨rfl, by decide⟩]
  rfl
theorem ev_tai {t : Nat} {x k v : Int32} {M2 : mM} {R : (Option Int32 ⊕ Nat) × mM × Nat} {m1 : Nat} {m3 m7 m14 m17 : Int} {p0 l0 a0 b0 w0 p1 l1 w1 p2 l2 a2 b2 w2 p3 l3 b3 w3 p6 l6 a6 b6 w6 p7 l7 b7 w7 p8 l8 a8 b8 w8 p9 l9 a9 b9 w9 p10 l10 a10 b10 w10 p11 l11 a11 b11 w11 p12 l12 a12 b12 w12 p13 l13 a13 b13 w13 p14 l14 b14 w14 p17 l17 b17 w17 : Nat}
    (e0 : k_L_law_[t]? = some (.aload_n 2, p0, l0, a0, b0, w0)) (e1 : k_L_law_[t + 1]? = some (.invokevirtual m1, p1, l1, 180, 0, w1)) (e2 : k_L_law_[t + 2]? = some (.iload 5, p2, l2, a2, b2, w2)) (e3 : k_L_law_[t + 3]? = some (.if_icmp .eq m3, p3, l3, t + 6, b3, w3)) (e6 : k_L_law_[t + 6]? = some (.iload 5, p6, l6, a6, b6, w6)) (e7 : k_L_law_[t + 7]? = some (.ifCond .ne m7, p7, l7, t + 17, b7, w7)) (e8 : k_L_law_[t + 8]? = some (.aload_n 3, p8, l8, a8, b8, w8)) (e9 : k_L_law_[t + 9]? = some (.iconst 0, p9, l9, a9, b9, w9)) (e10 : k_L_law_[t + 10]? = some (.laload, p10, l10, a10, b10, w10)) (e11 : k_L_law_[t + 11]? = some (.iload 6, p11, l11, a11, b11, w11)) (e12 : k_L_law_[t + 12]? = some (.i2l, p12, l12, a12, b12, w12)) (e13 : k_L_law_[t + 13]? = some (.lcmp, p13, l13, a13, b13, w13)) (e14 : k_L_law_[t + 14]? = some (.ifCond .eq m14, p14, l14, t + 17, b14, w14)) (e17 : k_L_law_[t + 17]? = some (.goto m17, p17, l17, 1667, b17, w17))
    (hth : M2 215 0 = k) (hv : k = 0 → M2 231 0 = v) (hE : Ev 100 372 1667 (Lw x (some (.int k)) (some (.int v))) [] M2 R) : Ev 100 372 t (Lw x (some (.int k)) (some (.int v))) [] M2 R := by
  refine ev_1 kc_372 e0 rfl (i' := t + 1) (L' := (Lw x (some (.int k)) (some (.int v)))) (st' := [.ref 215]) (M1 := M2) rfl ?_
  refine ev_cl0 (d := 99) kc_372 e1 rfl (as := [.ref 215]) (rest := []) rfl rfl (Cs.deep (c_X12_thrown (M0 := M2) (out := M2 215 0) rfl) (by decide)) ?_
  refine ev_1 kc_372 e2 rfl (i' := t + 3) (L' := (Lw x (some (.int k)) (some (.int v)))) (st' := [.int k, .int (M2 215 0)]) (M1 := M2) rfl ?_
  refine ev_b kc_372 e3 rfl (c := decide (M2 215 0 = k)) (t := t + 6) (e := t + 4) (L' := (Lw x (some (.int k)) (some (.int v)))) (st' := []) rfl (decide_eq_true hth) ?_
  refine ev_1 kc_372 e6 rfl (i' := t + 7) (L' := (Lw x (some (.int k)) (some (.int v)))) (st' := [.int k]) (M1 := M2) rfl ?_
  have hend : Ev 100 372 (t + 17) (Lw x (some (.int k)) (some (.int v))) [] M2 R := ev_1 kc_372 e17 rfl (i' := 1667) (L' := (Lw x (some (.int k)) (some (.int v)))) (st' := []) (M1 := M2) rfl hE
  by_cases hk0 : k = 0
  · refine ev_nb kc_372 e7 rfl (c := decide (¬ k = 0)) (t := t + 17) (e := t + 8) (L' := (Lw x (some (.int k)) (some (.int v)))) (st' := []) rfl (decide_eq_false fun z => z hk0) ?_
    refine ev_1 kc_372 e8 rfl (i' := t + 9) (L' := (Lw x (some (.int k)) (some (.int v)))) (st' := [.ref 231]) (M1 := M2) rfl ?_
    refine ev_1 kc_372 e9 rfl (i' := t + 10) (L' := (Lw x (some (.int k)) (some (.int v)))) (st' := [.int (Int32.ofInt 0), .ref 231]) (M1 := M2) rfl ?_
    refine ev_ll e10 ?_
    refine ev_1 kc_372 e11 rfl (i' := t + 12) (L' := (Lw x (some (.int k)) (some (.int v)))) (st' := [.int v, .long (M2 231 0).toInt64]) (M1 := M2) rfl ?_
    refine ev_1 kc_372 e12 rfl (i' := t + 13) (L' := (Lw x (some (.int k)) (some (.int v)))) (st' := [.long v.toInt64, .long (M2 231 0).toInt64]) (M1 := M2) rfl ?_
    refine ev_1 kc_372 e13 rfl (i' := t + 14) (L' := (Lw x (some (.int k)) (some (.int v)))) (st' := [.int (lg_cmp (M2 231 0).toInt64 v.toInt64)]) (M1 := M2) rfl ?_
    exact ev_b kc_372 e14 rfl (c := decide (lg_cmp (M2 231 0).toInt64 v.toInt64 = 0)) (t := t + 17) (e := t + 15) (L' := (Lw x (some (.int k)) (some (.int v)))) (st' := []) rfl (by rw [hv hk0, lg_cmp_s]; rfl) hend
  · exact ev_b kc_372 e7 rfl (c := decide (¬ k = 0)) (t := t + 17) (e := t + 8) (L' := (Lw x (some (.int k)) (some (.int v)))) (st' := []) rfl (decide_eq_true hk0) hend
theorem bk_0 {n : Nat} {M : mM} {x : Int32} {j : Nat} (h : Rl n M) (h0 : Z12 M) (hi : ∀ c : Nat, c ≤ 5 → mIn (x + Int32.ofInt c) (M 233 0).toNatClampNeg = true) (hN : ∀ n' M', Rl n' M' → Z12 M' → kpS M M' → Gd 1667 x M' j) : Gd 25 x M (j + 1) := by
  obtain ⟨a1, q1⟩ : ∃ a, a = M 232 (ix (x + Int32.ofInt 1)) := ⟨_, rfl⟩
  obtain ⟨a2, q2⟩ : ∃ a, a = M 232 (ix (x + Int32.ofInt 2)) := ⟨_, rfl⟩
  obtain ⟨a3, q3⟩ : ∃ a, a = M 232 (ix (x + Int32.ofInt 3)) := ⟨_, rfl⟩
  obtain ⟨a4, q4⟩ : ∃ a, a = M 232 (ix (x + Int32.ofInt 4)) := ⟨_, rfl⟩
  obtain ⟨a5, q5⟩ : ∃ a, a = M 232 (ix (x + Int32.ofInt 5)) := ⟨_, rfl⟩
  obtain ⟨v, M1, M2, hc, hm, n', hr⟩ := Op_feed h (p1 := a1) (p2 := a2) (p3 := a3) (p4 := a4) (p5 := a5)
  have cl := c_X11_feed hc
  have cm := c_X12_feed hm
  have z1 : Z12 M1 := cl.z12 (by decide +kernel) ((((((zS0.int).int).int).int).int).ref (by decide)) h0
  have kp1 : kpS M M1 := cl.kp
  have z2 : Z12 M2 := cm.z12 (by decide +kernel) ((((((zS0.int).int).int).int).int).ref (by decide)) z1
  have hi1 : ∀ c : Nat, c ≤ 5 → mIn (x + Int32.ofInt c) (M1 233 0).toNatClampNeg = true := fun c hc => by rw [kp1.2]; exact hi c hc
  obtain ⟨M', k'', hk'', hE⟩ := hN n' M2 hr z2 (kp1.tr cm.kp)
  refine ⟨M', k'', by omega, ?_⟩
  refine ev_1 kc_372 y25 rfl (i' := 26) (L' := Lw x none none) (st' := [.ref 0]) (M1 := M) rfl ?_
  refine ev_ar (v := a1) kc_372 y26 y27 y28 y29 y30 (hi 1 (by decide)) q1.symm ?_
  refine ev_ar (v := a2) kc_372 y31 y32 y33 y34 y35 (hi 2 (by decide)) q2.symm ?_
  refine ev_ar (v := a3) kc_372 y36 y37 y38 y39 y40 (hi 3 (by decide)) q3.symm ?_
  refine ev_ar (v := a4) kc_372 y41 y42 y43 y44 y45 (hi 4 (by decide)) q4.symm ?_
  refine ev_ar (v := a5) kc_372 y46 y47 y48 y49 y50 (hi 5 (by decide)) q5.symm ?_
  refine ev_cl0 (d := 99) kc_372 y51 rfl (as := [.ref 0, .int a1, .int a2, .int a3, .int a4, .int a5]) (rest := []) rfl rfl (Cs.deep cl (by decide)) ?_
  refine ev_1 kc_372 y52 rfl (i' := 53) (L' := Lw x none none) (st' := [.ref 215, .int v]) (M1 := M1) rfl ?_
  refine ev_ar (v := a1) kc_372 y53 y54 y55 y56 y57 (hi1 1 (by decide)) (by rw [kp1.1]; exact q1.symm) ?_
  refine ev_ar (v := a2) kc_372 y58 y59 y60 y61 y62 (hi1 2 (by decide)) (by rw [kp1.1]; exact q2.symm) ?_
  refine ev_ar (v := a3) kc_372 y63 y64 y65 y66 y67 (hi1 3 (by decide)) (by rw [kp1.1]; exact q3.symm) ?_
  refine ev_ar (v := a4) kc_372 y68 y69 y70 y71 y72 (hi1 4 (by decide)) (by rw [kp1.1]; exact q4.symm) ?_
  refine ev_ar (v := a5) kc_372 y73 y74 y75 y76 y77 (hi1 5 (by decide)) (by rw [kp1.1]; exact q5.symm) ?_
  refine ev_cl0 (d := 99) kc_372 y78 rfl (as := [.ref 215, .int a1, .int a2, .int a3, .int a4, .int a5]) (rest := [.int v]) rfl rfl (Cs.deep cm (by decide)) ?_
  refine ev_b kc_372 y79 rfl (c := decide (v = v)) (t := 1667) (e := 80) (L' := Lw x none none) (st' := []) rfl (decide_eq_true rfl) hE
theorem bk_1 {n : Nat} {M : mM} {x : Int32} {j : Nat} (h : Rl n M) (h0 : Z12 M) (hi : ∀ c : Nat, c ≤ 5 → mIn (x + Int32.ofInt c) (M 233 0).toNatClampNeg = true) (hN : ∀ n' M', Rl n' M' → Z12 M' → kpS M M' → Gd 1667 x M' j) : Gd 82 x M (j + 1) := by
  obtain ⟨a1, q1⟩ : ∃ a, a = M 232 (ix (x + Int32.ofInt 1)) := ⟨_, rfl⟩
  obtain ⟨v, M1, M2, hc, hm, n', hr⟩ := Op_end h (x := a1)
  have cl := c_X11_end hc
  have cm := c_X12_end hm
  have z1 : Z12 M1 := cl.z12 (by decide +kernel) ((zS0.int).ref (by decide)) h0
  have kp1 : kpS M M1 := cl.kp
  have z2 : Z12 M2 := cm.z12 (by decide +kernel) ((zS0.int).ref (by decide)) z1
  have hi1 : ∀ c : Nat, c ≤ 5 → mIn (x + Int32.ofInt c) (M1 233 0).toNatClampNeg = true := fun c hc => by rw [kp1.2]; exact hi c hc
  obtain ⟨M', k'', hk'', hE⟩ := hN n' M2 hr z2 (kp1.tr cm.kp)
  refine ⟨M', k'', by omega, ?_⟩
  refine ev_1 kc_372 y82 rfl (i' := 83) (L' := Lw x none none) (st' := [.ref 0]) (M1 := M) rfl ?_
  refine ev_ar (v := a1) kc_372 y83 y84 y85 y86 y87 (hi 1 (by decide)) q1.symm ?_
  refine ev_cl0 (d := 99) kc_372 y88 rfl (as := [.ref 0, .int a1]) (rest := []) rfl rfl (Cs.deep cl (by decide)) ?_
  refine ev_1 kc_372 y89 rfl (i' := 90) (L' := Lw x none none) (st' := [.ref 215, .int (mB v)]) (M1 := M1) rfl ?_
  refine ev_ar (v := a1) kc_372 y90 y91 y92 y93 y94 (hi1 1 (by decide)) (by rw [kp1.1]; exact q1.symm) ?_
  refine ev_cl0 (d := 99) kc_372 y95 rfl (as := [.ref 215, .int a1]) (rest := [.int (mB v)]) rfl rfl (Cs.deep cm (by decide)) ?_
  refine ev_b kc_372 y96 rfl (c := decide (mB v = mB v)) (t := 1667) (e := 97) (L' := Lw x none none) (st' := []) rfl (decide_eq_true rfl) hE
theorem bk_2 {n : Nat} {M : mM} {x : Int32} {j : Nat} (h : Rl n M) (h0 : Z12 M) (hi : ∀ c : Nat, c ≤ 5 → mIn (x + Int32.ofInt c) (M 233 0).toNatClampNeg = true) (hN : ∀ n' M', Rl n' M' → Z12 M' → kpS M M' → Gd 1667 x M' j) : Gd 99 x M (j + 1) := by
  obtain ⟨k, M1, kk, v, M2, n', hl, hkk, hm, hr, hth, hv, r0, M0, hc0, hz⟩ := OpT.L (Op_tower h) (fl := f_L_tower M) rfl (fun E M1 => by unfold tTo; cases Nat.beq E 0 <;> cases Nat.beq E 1 <;> first | exact fun _ => rfl | exact fun h => absurd rfl h)
  have cl := c_L_tower hl
  have cm := c_X12_tower hm
  have z1 : Z12 M1 := cl.z12 (by decide +kernel) ((zS0.ref (by decide)).ref (by decide)) h0
  have z2 : Z12 M2 := cm.z12 (by decide +kernel) (zS0.ref (by decide)) z1
  have kp1 : kpS M M1 := cl.kp
  have hi1 : ∀ c : Nat, c ≤ 5 → mIn (x + Int32.ofInt c) (M1 233 0).toNatClampNeg = true := fun c hc => by rw [kp1.2]; exact hi c hc
  obtain ⟨M', k'', hk'', hE⟩ := hN n' M2 hr z2 (kp1.tr cm.kp)
  refine ⟨M', kk + k'', by omega, ?_⟩
  refine ev_1 kc_372 y99 rfl (i' := 100) (L' := Lw x none none) (st' := [.ref 0]) (M1 := M) rfl ?_
  refine ev_1 kc_372 y100 rfl (i' := 101) (L' := Lw x none none) (st' := [.ref 231, .ref 0]) (M1 := M) rfl ?_
  refine ev_cl (d := 99) kc_372 y101 rfl (as := [.ref 0, .ref 231]) (rest := []) rfl rfl (Cs.deep cl (by decide)) ?_
  refine ev_1 kc_372 y102 rfl (i' := 103) (L' := Lw x (some (.int k)) none) (st' := []) (M1 := M1) rfl ?_
  refine ev_1 kc_372 y103 rfl (i' := 104) (L' := Lw x (some (.int k)) none) (st' := [.ref 215]) (M1 := M1) rfl ?_
  refine ev_cl0 (d := 99) kc_372 y104 rfl (as := [.ref 215]) (rest := []) rfl rfl (Cs.deep cm (by decide)) ?_
  refine ev_1 kc_372 y105 rfl (i' := 106) (L' := Lw x (some (.int k)) (some (.int v))) (st' := []) (M1 := M2) rfl ?_
  exact ev_tai y106 y107 y108 y109 y112 y113 y114 y115 y116 y117 y118 y119 y120 y123 hth hv (Gd.fg hE)
theorem bk_3 {n : Nat} {M : mM} {x : Int32} {j : Nat} (h : Rl n M) (h0 : Z12 M) (hi : ∀ c : Nat, c ≤ 5 → mIn (x + Int32.ofInt c) (M 233 0).toNatClampNeg = true) (hN : ∀ n' M', Rl n' M' → Z12 M' → kpS M M' → Gd 1667 x M' j) : Gd 124 x M (j + 1) := by
  obtain ⟨k, M1, kk, v, M2, n', hl, hkk, hm, hr, hth, hv, r0, M0, hc0, hz⟩ := OpT.L (Op_law h) (fl := f_L_law M) rfl (fun E M1 => by unfold tOne; cases Nat.beq E 0 <;> first | exact fun _ => rfl | exact fun h => absurd rfl h)
  have cl := c_L_law hl
  have cm := c_X12_law hm
  have z1 : Z12 M1 := cl.z12 (by decide +kernel) ((zS0.ref (by decide)).ref (by decide)) h0
  have z2 : Z12 M2 := cm.z12 (by decide +kernel) (zS0.ref (by decide)) z1
  have kp1 : kpS M M1 := cl.kp
  have hi1 : ∀ c : Nat, c ≤ 5 → mIn (x + Int32.ofInt c) (M1 233 0).toNatClampNeg = true := fun c hc => by rw [kp1.2]; exact hi c hc
  obtain ⟨M', k'', hk'', hE⟩ := hN n' M2 hr z2 (kp1.tr cm.kp)
  refine ⟨M', kk + k'', by omega, ?_⟩
  refine ev_1 kc_372 y124 rfl (i' := 125) (L' := Lw x none none) (st' := [.ref 0]) (M1 := M) rfl ?_
  refine ev_1 kc_372 y125 rfl (i' := 126) (L' := Lw x none none) (st' := [.ref 231, .ref 0]) (M1 := M) rfl ?_
  refine ev_cl (d := 99) kc_372 y126 rfl (as := [.ref 0, .ref 231]) (rest := []) rfl rfl (Cs.deep cl (by decide)) ?_
  refine ev_1 kc_372 y127 rfl (i' := 128) (L' := Lw x (some (.int k)) none) (st' := []) (M1 := M1) rfl ?_
  refine ev_1 kc_372 y128 rfl (i' := 129) (L' := Lw x (some (.int k)) none) (st' := [.ref 215]) (M1 := M1) rfl ?_
  refine ev_cl0 (d := 99) kc_372 y129 rfl (as := [.ref 215]) (rest := []) rfl rfl (Cs.deep cm (by decide)) ?_
  refine ev_1 kc_372 y130 rfl (i' := 131) (L' := Lw x (some (.int k)) (some (.int v))) (st' := []) (M1 := M2) rfl ?_
  exact ev_tai y131 y132 y133 y134 y137 y138 y139 y140 y141 y142 y143 y144 y145 y148 hth hv (Gd.fg hE)
theorem bk_4 {n : Nat} {M : mM} {x : Int32} {j : Nat} (h : Rl n M) (h0 : Z12 M) (hi : ∀ c : Nat, c ≤ 5 → mIn (x + Int32.ofInt c) (M 233 0).toNatClampNeg = true) (hN : ∀ n' M', Rl n' M' → Z12 M' → kpS M M' → Gd 1667 x M' j) : Gd 149 x M (j + 1) := by
  obtain ⟨v, M2, hc, hm, n', hr⟩ := Op_fault h
  have cl := c_X11_fault hc
  have cm := c_X12_fault hm
  have z1 : Z12 M := h0
  have kp1 : kpS M M := ⟨rfl, rfl⟩
  have z2 : Z12 M2 := cm.z12 (by decide +kernel) (zS0.ref (by decide)) z1
  have hi1 : ∀ c : Nat, c ≤ 5 → mIn (x + Int32.ofInt c) (M 233 0).toNatClampNeg = true := fun c hc => by rw [kp1.2]; exact hi c hc
  obtain ⟨M', k'', hk'', hE⟩ := hN n' M2 hr z2 (kp1.tr cm.kp)
  refine ⟨M', k'', by omega, ?_⟩
  refine ev_1 kc_372 y149 rfl (i' := 150) (L' := Lw x none none) (st' := [.ref 0]) (M1 := M) rfl ?_
  refine ev_cl0 (d := 99) kc_372 y150 rfl (as := [.ref 0]) (rest := []) rfl rfl (Cs.deep cl (by decide)) ?_
  refine ev_1 kc_372 y151 rfl (i' := 152) (L' := Lw x none none) (st' := [.ref 215, .int v]) (M1 := M) rfl ?_
  refine ev_cl0 (d := 99) kc_372 y152 rfl (as := [.ref 215]) (rest := [.int v]) rfl rfl (Cs.deep cm (by decide)) ?_
  refine ev_b kc_372 y153 rfl (c := decide (v = v)) (t := 1667) (e := 154) (L' := Lw x none none) (st' := []) rfl (decide_eq_true rfl) hE
theorem bk_5 {n : Nat} {M : mM} {x : Int32} {j : Nat} (h : Rl n M) (h0 : Z12 M) (hi : ∀ c : Nat, c ≤ 5 → mIn (x + Int32.ofInt c) (M 233 0).toNatClampNeg = true) (hN : ∀ n' M', Rl n' M' → Z12 M' → kpS M M' → Gd 1667 x M' j) : Gd 156 x M (j + 1) := by
  obtain ⟨a1, q1⟩ : ∃ a, a = M 232 (ix (x + Int32.ofInt 1)) := ⟨_, rfl⟩
  obtain ⟨a2, q2⟩ : ∃ a, a = M 232 (ix (x + Int32.ofInt 2)) := ⟨_, rfl⟩
  obtain ⟨k, M1, kk, v, M2, n', hl, hkk, hm, hr, hth, hv, r0, M0, hc0, hz⟩ := OpT.L (Op_person h (p := a1) (q := a2)) (fl := f_L_person a1 a2 M) rfl (fun E M1 => by unfold tPe; cases Nat.beq E 2 <;> cases Nat.beq E 3 <;> first | exact fun _ => rfl | exact fun h => absurd rfl h)
  have cl := c_L_person hl
  have cm := c_X12_person hm
  have z1 : Z12 M1 := cl.z12 (by decide +kernel) ((((zS0.ref (by decide)).int).int).ref (by decide)) h0
  have z2 : Z12 M2 := cm.z12 (by decide +kernel) (((zS0.int).int).ref (by decide)) z1
  have kp1 : kpS M M1 := cl.kp
  have hi1 : ∀ c : Nat, c ≤ 5 → mIn (x + Int32.ofInt c) (M1 233 0).toNatClampNeg = true := fun c hc => by rw [kp1.2]; exact hi c hc
  obtain ⟨M', k'', hk'', hE⟩ := hN n' M2 hr z2 (kp1.tr cm.kp)
  refine ⟨M', kk + k'', by omega, ?_⟩
  refine ev_1 kc_372 y156 rfl (i' := 157) (L' := Lw x none none) (st' := [.ref 0]) (M1 := M) rfl ?_
  refine ev_ar (v := a1) kc_372 y157 y158 y159 y160 y161 (hi 1 (by decide)) q1.symm ?_
  refine ev_ar (v := a2) kc_372 y162 y163 y164 y165 y166 (hi 2 (by decide)) q2.symm ?_
  refine ev_1 kc_372 y167 rfl (i' := 168) (L' := Lw x none none) (st' := [.ref 231, .int a2, .int a1, .ref 0]) (M1 := M) rfl ?_
  refine ev_cl (d := 99) kc_372 y168 rfl (as := [.ref 0, .int a1, .int a2, .ref 231]) (rest := []) rfl rfl (Cs.deep cl (by decide)) ?_
  refine ev_1 kc_372 y169 rfl (i' := 170) (L' := Lw x (some (.int k)) none) (st' := []) (M1 := M1) rfl ?_
  refine ev_1 kc_372 y170 rfl (i' := 171) (L' := Lw x (some (.int k)) none) (st' := [.ref 215]) (M1 := M1) rfl ?_
  refine ev_ar (v := a1) kc_372 y171 y172 y173 y174 y175 (hi1 1 (by decide)) (by rw [kp1.1]; exact q1.symm) ?_
  refine ev_ar (v := a2) kc_372 y176 y177 y178 y179 y180 (hi1 2 (by decide)) (by rw [kp1.1]; exact q2.symm) ?_
  refine ev_cl0 (d := 99) kc_372 y181 rfl (as := [.ref 215, .int a1, .int a2]) (rest := []) rfl rfl (Cs.deep cm (by decide)) ?_
  refine ev_1 kc_372 y182 rfl (i' := 183) (L' := Lw x (some (.int k)) (some (.int v))) (st' := []) (M1 := M2) rfl ?_
  exact ev_tai y183 y184 y185 y186 y189 y190 y191 y192 y193 y194 y195 y196 y197 y200 hth hv (Gd.fg hE)
theorem bk_6 {n : Nat} {M : mM} {x : Int32} {j : Nat} (h : Rl n M) (h0 : Z12 M) (hi : ∀ c : Nat, c ≤ 5 → mIn (x + Int32.ofInt c) (M 233 0).toNatClampNeg = true) (hN : ∀ n' M', Rl n' M' → Z12 M' → kpS M M' → Gd 1667 x M' j) : Gd 201 x M (j + 1) := by
  obtain ⟨a1, q1⟩ : ∃ a, a = M 232 (ix (x + Int32.ofInt 1)) := ⟨_, rfl⟩
  obtain ⟨k, M1, kk, v, M2, n', hl, hkk, hm, hr, hth, hv, r0, M0, hc0, hz⟩ := OpT.L (Op_hours h (x := a1)) (fl := f_L_hours a1 M) rfl (fun E M1 => by unfold tOne; cases Nat.beq E 0 <;> first | exact fun _ => rfl | exact fun h => absurd rfl h)
  have cl := c_L_hours hl
  have cm := c_X12_hours hm
  have z1 : Z12 M1 := cl.z12 (by decide +kernel) (((zS0.ref (by decide)).int).ref (by decide)) h0
  have z2 : Z12 M2 := cm.z12 (by decide +kernel) ((zS0.int).ref (by decide)) z1
  have kp1 : kpS M M1 := cl.kp
  have hi1 : ∀ c : Nat, c ≤ 5 → mIn (x + Int32.ofInt c) (M1 233 0).toNatClampNeg = true := fun c hc => by rw [kp1.2]; exact hi c hc
  obtain ⟨M', k'', hk'', hE⟩ := hN n' M2 hr z2 (kp1.tr cm.kp)
  refine ⟨M', kk + k'', by omega, ?_⟩
  refine ev_1 kc_372 y201 rfl (i' := 202) (L' := Lw x none none) (st' := [.ref 0]) (M1 := M) rfl ?_
  refine ev_ar (v := a1) kc_372 y202 y203 y204 y205 y206 (hi 1 (by decide)) q1.symm ?_
  refine ev_1 kc_372 y207 rfl (i' := 208) (L' := Lw x none none) (st' := [.ref 231, .int a1, .ref 0]) (M1 := M) rfl ?_
  refine ev_cl (d := 99) kc_372 y208 rfl (as := [.ref 0, .int a1, .ref 231]) (rest := []) rfl rfl (Cs.deep cl (by decide)) ?_
  refine ev_1 kc_372 y209 rfl (i' := 210) (L' := Lw x (some (.int k)) none) (st' := []) (M1 := M1) rfl ?_
  refine ev_1 kc_372 y210 rfl (i' := 211) (L' := Lw x (some (.int k)) none) (st' := [.ref 215]) (M1 := M1) rfl ?_
  refine ev_ar (v := a1) kc_372 y211 y212 y213 y214 y215 (hi1 1 (by decide)) (by rw [kp1.1]; exact q1.symm) ?_
  refine ev_cl0 (d := 99) kc_372 y216 rfl (as := [.ref 215, .int a1]) (rest := []) rfl rfl (Cs.deep cm (by decide)) ?_
  refine ev_1 kc_372 y217 rfl (i' := 218) (L' := Lw x (some (.int k)) (some (.int v))) (st' := []) (M1 := M2) rfl ?_
  exact ev_tai y218 y219 y220 y221 y224 y225 y226 y227 y228 y229 y230 y231 y232 y235 hth hv (Gd.fg hE)
theorem bk_7 {n : Nat} {M : mM} {x : Int32} {j : Nat} (h : Rl n M) (h0 : Z12 M) (hi : ∀ c : Nat, c ≤ 5 → mIn (x + Int32.ofInt c) (M 233 0).toNatClampNeg = true) (hN : ∀ n' M', Rl n' M' → Z12 M' → kpS M M' → Gd 1667 x M' j) : Gd 236 x M (j + 1) := by
  obtain ⟨a1, q1⟩ : ∃ a, a = M 232 (ix (x + Int32.ofInt 1)) := ⟨_, rfl⟩
  obtain ⟨a2, q2⟩ : ∃ a, a = M 232 (ix (x + Int32.ofInt 2)) := ⟨_, rfl⟩
  obtain ⟨a3, q3⟩ : ∃ a, a = M 232 (ix (x + Int32.ofInt 3)) := ⟨_, rfl⟩
  obtain ⟨k, M1, kk, v, M2, n', hl, hkk, hm, hr, hth, hv, r0, M0, hc0, hz⟩ := OpT.L (Op_rise h (p := a1) (r := a2) (on := a3)) (fl := f_L_rise a1 a2 a3 M) rfl (fun E M1 => by unfold tIS; cases Nat.beq E 2 <;> cases Nat.beq E 4 <;> first | exact fun _ => rfl | exact fun h => absurd rfl h)
  have cl := c_L_rise hl
  have cm := c_X12_rise hm
  have z1 : Z12 M1 := cl.z12 (by decide +kernel) (((((zS0.ref (by decide)).int).int).int).ref (by decide)) h0
  have z2 : Z12 M2 := cm.z12 (by decide +kernel) ((((zS0.int).int).int).ref (by decide)) z1
  have kp1 : kpS M M1 := cl.kp
  have hi1 : ∀ c : Nat, c ≤ 5 → mIn (x + Int32.ofInt c) (M1 233 0).toNatClampNeg = true := fun c hc => by rw [kp1.2]; exact hi c hc
  obtain ⟨M', k'', hk'', hE⟩ := hN n' M2 hr z2 (kp1.tr cm.kp)
  refine ⟨M', kk + k'', by omega, ?_⟩
  refine ev_1 kc_372 y236 rfl (i' := 237) (L' := Lw x none none) (st' := [.ref 0]) (M1 := M) rfl ?_
  refine ev_ar (v := a1) kc_372 y237 y238 y239 y240 y241 (hi 1 (by decide)) q1.symm ?_
  refine ev_ar (v := a2) kc_372 y242 y243 y244 y245 y246 (hi 2 (by decide)) q2.symm ?_
  refine ev_ar (v := a3) kc_372 y247 y248 y249 y250 y251 (hi 3 (by decide)) q3.symm ?_
  refine ev_1 kc_372 y252 rfl (i' := 253) (L' := Lw x none none) (st' := [.ref 231, .int a3, .int a2, .int a1, .ref 0]) (M1 := M) rfl ?_
  refine ev_cl (d := 99) kc_372 y253 rfl (as := [.ref 0, .int a1, .int a2, .int a3, .ref 231]) (rest := []) rfl rfl (Cs.deep cl (by decide)) ?_
  refine ev_1 kc_372 y254 rfl (i' := 255) (L' := Lw x (some (.int k)) none) (st' := []) (M1 := M1) rfl ?_
  refine ev_1 kc_372 y255 rfl (i' := 256) (L' := Lw x (some (.int k)) none) (st' := [.ref 215]) (M1 := M1) rfl ?_
  refine ev_ar (v := a1) kc_372 y256 y257 y258 y259 y260 (hi1 1 (by decide)) (by rw [kp1.1]; exact q1.symm) ?_
  refine ev_ar (v := a2) kc_372 y261 y262 y263 y264 y265 (hi1 2 (by decide)) (by rw [kp1.1]; exact q2.symm) ?_
  refine ev_ar (v := a3) kc_372 y266 y267 y268 y269 y270 (hi1 3 (by decide)) (by rw [kp1.1]; exact q3.symm) ?_
  refine ev_cl0 (d := 99) kc_372 y271 rfl (as := [.ref 215, .int a1, .int a2, .int a3]) (rest := []) rfl rfl (Cs.deep cm (by decide)) ?_
  refine ev_1 kc_372 y272 rfl (i' := 273) (L' := Lw x (some (.int k)) (some (.int v))) (st' := []) (M1 := M2) rfl ?_
  exact ev_tai y273 y274 y275 y276 y279 y280 y281 y282 y283 y284 y285 y286 y287 y290 hth hv (Gd.fg hE)
theorem bk_8 {n : Nat} {M : mM} {x : Int32} {j : Nat} (h : Rl n M) (h0 : Z12 M) (hi : ∀ c : Nat, c ≤ 5 → mIn (x + Int32.ofInt c) (M 233 0).toNatClampNeg = true) (hN : ∀ n' M', Rl n' M' → Z12 M' → kpS M M' → Gd 1667 x M' j) : Gd 291 x M (j + 1) := by
  obtain ⟨a1, q1⟩ : ∃ a, a = M 232 (ix (x + Int32.ofInt 1)) := ⟨_, rfl⟩
  obtain ⟨k, M1, kk, v, M2, n', hl, hkk, hm, hr, hth, hv, r0, M0, hc0, hz⟩ := OpT.L (Op_out h (p := a1)) (fl := f_L_out a1 M) rfl (fun E M1 => by unfold tIS; cases Nat.beq E 2 <;> cases Nat.beq E 4 <;> first | exact fun _ => rfl | exact fun h => absurd rfl h)
  have cl := c_L_out hl
  have cm := c_X12_out hm
  have z1 : Z12 M1 := cl.z12 (by decide +kernel) (((zS0.ref (by decide)).int).ref (by decide)) h0
  have z2 : Z12 M2 := cm.z12 (by decide +kernel) ((zS0.int).ref (by decide)) z1
  have kp1 : kpS M M1 := cl.kp
  have hi1 : ∀ c : Nat, c ≤ 5 → mIn (x + Int32.ofInt c) (M1 233 0).toNatClampNeg = true := fun c hc => by rw [kp1.2]; exact hi c hc
  obtain ⟨M', k'', hk'', hE⟩ := hN n' M2 hr z2 (kp1.tr cm.kp)
  refine ⟨M', kk + k'', by omega, ?_⟩
  refine ev_1 kc_372 y291 rfl (i' := 292) (L' := Lw x none none) (st' := [.ref 0]) (M1 := M) rfl ?_
  refine ev_ar (v := a1) kc_372 y292 y293 y294 y295 y296 (hi 1 (by decide)) q1.symm ?_
  refine ev_1 kc_372 y297 rfl (i' := 298) (L' := Lw x none none) (st' := [.ref 231, .int a1, .ref 0]) (M1 := M) rfl ?_
  refine ev_cl (d := 99) kc_372 y298 rfl (as := [.ref 0, .int a1, .ref 231]) (rest := []) rfl rfl (Cs.deep cl (by decide)) ?_
  refine ev_1 kc_372 y299 rfl (i' := 300) (L' := Lw x (some (.int k)) none) (st' := []) (M1 := M1) rfl ?_
  refine ev_1 kc_372 y300 rfl (i' := 301) (L' := Lw x (some (.int k)) none) (st' := [.ref 215]) (M1 := M1) rfl ?_
  refine ev_ar (v := a1) kc_372 y301 y302 y303 y304 y305 (hi1 1 (by decide)) (by rw [kp1.1]; exact q1.symm) ?_
  refine ev_cl0 (d := 99) kc_372 y306 rfl (as := [.ref 215, .int a1]) (rest := []) rfl rfl (Cs.deep cm (by decide)) ?_
  refine ev_1 kc_372 y307 rfl (i' := 308) (L' := Lw x (some (.int k)) (some (.int v))) (st' := []) (M1 := M2) rfl ?_
  exact ev_tai y308 y309 y310 y311 y314 y315 y316 y317 y318 y319 y320 y321 y322 y325 hth hv (Gd.fg hE)
theorem bk_9 {n : Nat} {M : mM} {x : Int32} {j : Nat} (h : Rl n M) (h0 : Z12 M) (hi : ∀ c : Nat, c ≤ 5 → mIn (x + Int32.ofInt c) (M 233 0).toNatClampNeg = true) (hN : ∀ n' M', Rl n' M' → Z12 M' → kpS M M' → Gd 1667 x M' j) : Gd 326 x M (j + 1) := by
  obtain ⟨a1, q1⟩ : ∃ a, a = M 232 (ix (x + Int32.ofInt 1)) := ⟨_, rfl⟩
  obtain ⟨a2, q2⟩ : ∃ a, a = M 232 (ix (x + Int32.ofInt 2)) := ⟨_, rfl⟩
  obtain ⟨k, M1, kk, v, M2, n', hl, hkk, hm, hr, hth, hv, r0, M0, hc0, hz⟩ := OpT.L (Op_relieve h (p := a1) (o := a2)) (fl := f_L_relieve a1 a2 M) rfl (fun E M1 => by unfold tRe; cases Nat.beq E 2 <;> cases Nat.beq E 0 <;> cases Nat.beq E 4 <;> first | exact fun _ => rfl | exact fun h => absurd rfl h)
  have cl := c_L_relieve hl
  have cm := c_X12_relieve hm
  have z1 : Z12 M1 := cl.z12 (by decide +kernel) ((((zS0.ref (by decide)).int).int).ref (by decide)) h0
  have z2 : Z12 M2 := cm.z12 (by decide +kernel) (((zS0.int).int).ref (by decide)) z1
  have kp1 : kpS M M1 := cl.kp
  have hi1 : ∀ c : Nat, c ≤ 5 → mIn (x + Int32.ofInt c) (M1 233 0).toNatClampNeg = true := fun c hc => by rw [kp1.2]; exact hi c hc
  obtain ⟨M', k'', hk'', hE⟩ := hN n' M2 hr z2 (kp1.tr cm.kp)
  refine ⟨M', kk + k'', by omega, ?_⟩
  refine ev_1 kc_372 y326 rfl (i' := 327) (L' := Lw x none none) (st' := [.ref 0]) (M1 := M) rfl ?_
  refine ev_ar (v := a1) kc_372 y327 y328 y329 y330 y331 (hi 1 (by decide)) q1.symm ?_
  refine ev_ar (v := a2) kc_372 y332 y333 y334 y335 y336 (hi 2 (by decide)) q2.symm ?_
  refine ev_1 kc_372 y337 rfl (i' := 338) (L' := Lw x none none) (st' := [.ref 231, .int a2, .int a1, .ref 0]) (M1 := M) rfl ?_
  refine ev_cl (d := 99) kc_372 y338 rfl (as := [.ref 0, .int a1, .int a2, .ref 231]) (rest := []) rfl rfl (Cs.deep cl (by decide)) ?_
  refine ev_1 kc_372 y339 rfl (i' := 340) (L' := Lw x (some (.int k)) none) (st' := []) (M1 := M1) rfl ?_
  refine ev_1 kc_372 y340 rfl (i' := 341) (L' := Lw x (some (.int k)) none) (st' := [.ref 215]) (M1 := M1) rfl ?_
  refine ev_ar (v := a1) kc_372 y341 y342 y343 y344 y345 (hi1 1 (by decide)) (by rw [kp1.1]; exact q1.symm) ?_
  refine ev_ar (v := a2) kc_372 y346 y347 y348 y349 y350 (hi1 2 (by decide)) (by rw [kp1.1]; exact q2.symm) ?_
  refine ev_cl0 (d := 99) kc_372 y351 rfl (as := [.ref 215, .int a1, .int a2]) (rest := []) rfl rfl (Cs.deep cm (by decide)) ?_
  refine ev_1 kc_372 y352 rfl (i' := 353) (L' := Lw x (some (.int k)) (some (.int v))) (st' := []) (M1 := M2) rfl ?_
  exact ev_tai y353 y354 y355 y356 y359 y360 y361 y362 y363 y364 y365 y366 y367 y370 hth hv (Gd.fg hE)
theorem bk_10 {n : Nat} {M : mM} {x : Int32} {j : Nat} (h : Rl n M) (h0 : Z12 M) (hi : ∀ c : Nat, c ≤ 5 → mIn (x + Int32.ofInt c) (M 233 0).toNatClampNeg = true) (hN : ∀ n' M', Rl n' M' → Z12 M' → kpS M M' → Gd 1667 x M' j) : Gd 371 x M (j + 1) := by
  obtain ⟨a1, q1⟩ : ∃ a, a = M 232 (ix (x + Int32.ofInt 1)) := ⟨_, rfl⟩
  obtain ⟨a2, q2⟩ : ∃ a, a = M 232 (ix (x + Int32.ofInt 2)) := ⟨_, rfl⟩
  obtain ⟨k, M1, kk, v, M2, n', hl, hkk, hm, hr, hth, hv, r0, M0, hc0, hz⟩ := OpT.L (Op_lean h (p := a1) (on := a2)) (fl := f_L_lean a1 a2 M) rfl (fun E M1 => by unfold tIS; cases Nat.beq E 2 <;> cases Nat.beq E 4 <;> first | exact fun _ => rfl | exact fun h => absurd rfl h)
  have cl := c_L_lean hl
  have cm := c_X12_lean hm
  have z1 : Z12 M1 := cl.z12 (by decide +kernel) ((((zS0.ref (by decide)).int).int).ref (by decide)) h0
  have z2 : Z12 M2 := cm.z12 (by decide +kernel) (((zS0.int).int).ref (by decide)) z1
  have kp1 : kpS M M1 := cl.kp
  have hi1 : ∀ c : Nat, c ≤ 5 → mIn (x + Int32.ofInt c) (M1 233 0).toNatClampNeg = true := fun c hc => by rw [kp1.2]; exact hi c hc
  obtain ⟨M', k'', hk'', hE⟩ := hN n' M2 hr z2 (kp1.tr cm.kp)
  refine ⟨M', kk + k'', by omega, ?_⟩
  refine ev_1 kc_372 y371 rfl (i' := 372) (L' := Lw x none none) (st' := [.ref 0]) (M1 := M) rfl ?_
  refine ev_ar (v := a1) kc_372 y372 y373 y374 y375 y376 (hi 1 (by decide)) q1.symm ?_
  refine ev_ar (v := a2) kc_372 y377 y378 y379 y380 y381 (hi 2 (by decide)) q2.symm ?_
  refine ev_1 kc_372 y382 rfl (i' := 383) (L' := Lw x none none) (st' := [.ref 231, .int a2, .int a1, .ref 0]) (M1 := M) rfl ?_
  refine ev_cl (d := 99) kc_372 y383 rfl (as := [.ref 0, .int a1, .int a2, .ref 231]) (rest := []) rfl rfl (Cs.deep cl (by decide)) ?_
  refine ev_1 kc_372 y384 rfl (i' := 385) (L' := Lw x (some (.int k)) none) (st' := []) (M1 := M1) rfl ?_
  refine ev_1 kc_372 y385 rfl (i' := 386) (L' := Lw x (some (.int k)) none) (st' := [.ref 215]) (M1 := M1) rfl ?_
  refine ev_ar (v := a1) kc_372 y386 y387 y388 y389 y390 (hi1 1 (by decide)) (by rw [kp1.1]; exact q1.symm) ?_
  refine ev_ar (v := a2) kc_372 y391 y392 y393 y394 y395 (hi1 2 (by decide)) (by rw [kp1.1]; exact q2.symm) ?_
  refine ev_cl0 (d := 99) kc_372 y396 rfl (as := [.ref 215, .int a1, .int a2]) (rest := []) rfl rfl (Cs.deep cm (by decide)) ?_
  refine ev_1 kc_372 y397 rfl (i' := 398) (L' := Lw x (some (.int k)) (some (.int v))) (st' := []) (M1 := M2) rfl ?_
  exact ev_tai y398 y399 y400 y401 y404 y405 y406 y407 y408 y409 y410 y411 y412 y415 hth hv (Gd.fg hE)
theorem bk_11 {n : Nat} {M : mM} {x : Int32} {j : Nat} (h : Rl n M) (h0 : Z12 M) (hi : ∀ c : Nat, c ≤ 5 → mIn (x + Int32.ofInt c) (M 233 0).toNatClampNeg = true) (hN : ∀ n' M', Rl n' M' → Z12 M' → kpS M M' → Gd 1667 x M' j) : Gd 416 x M (j + 1) := by
  obtain ⟨a1, q1⟩ : ∃ a, a = M 232 (ix (x + Int32.ofInt 1)) := ⟨_, rfl⟩
  obtain ⟨k, M1, kk, v, M2, n', hl, hkk, hm, hr, hth, hv, r0, M0, hc0, hz⟩ := OpT.L (Op_wake h (p := a1)) (fl := f_L_wake a1 M) rfl (fun E M1 => by unfold tIS; cases Nat.beq E 2 <;> cases Nat.beq E 4 <;> first | exact fun _ => rfl | exact fun h => absurd rfl h)
  have cl := c_L_wake hl
  have cm := c_X12_wake hm
  have z1 : Z12 M1 := cl.z12 (by decide +kernel) (((zS0.ref (by decide)).int).ref (by decide)) h0
  have z2 : Z12 M2 := cm.z12 (by decide +kernel) ((zS0.int).ref (by decide)) z1
  have kp1 : kpS M M1 := cl.kp
  have hi1 : ∀ c : Nat, c ≤ 5 → mIn (x + Int32.ofInt c) (M1 233 0).toNatClampNeg = true := fun c hc => by rw [kp1.2]; exact hi c hc
  obtain ⟨M', k'', hk'', hE⟩ := hN n' M2 hr z2 (kp1.tr cm.kp)
  refine ⟨M', kk + k'', by omega, ?_⟩
  refine ev_1 kc_372 y416 rfl (i' := 417) (L' := Lw x none none) (st' := [.ref 0]) (M1 := M) rfl ?_
  refine ev_ar (v := a1) kc_372 y417 y418 y419 y420 y421 (hi 1 (by decide)) q1.symm ?_
  refine ev_1 kc_372 y422 rfl (i' := 423) (L' := Lw x none none) (st' := [.ref 231, .int a1, .ref 0]) (M1 := M) rfl ?_
  refine ev_cl (d := 99) kc_372 y423 rfl (as := [.ref 0, .int a1, .ref 231]) (rest := []) rfl rfl (Cs.deep cl (by decide)) ?_
  refine ev_1 kc_372 y424 rfl (i' := 425) (L' := Lw x (some (.int k)) none) (st' := []) (M1 := M1) rfl ?_
  refine ev_1 kc_372 y425 rfl (i' := 426) (L' := Lw x (some (.int k)) none) (st' := [.ref 215]) (M1 := M1) rfl ?_
  refine ev_ar (v := a1) kc_372 y426 y427 y428 y429 y430 (hi1 1 (by decide)) (by rw [kp1.1]; exact q1.symm) ?_
  refine ev_cl0 (d := 99) kc_372 y431 rfl (as := [.ref 215, .int a1]) (rest := []) rfl rfl (Cs.deep cm (by decide)) ?_
  refine ev_1 kc_372 y432 rfl (i' := 433) (L' := Lw x (some (.int k)) (some (.int v))) (st' := []) (M1 := M2) rfl ?_
  exact ev_tai y433 y434 y435 y436 y439 y440 y441 y442 y443 y444 y445 y446 y447 y450 hth hv (Gd.fg hE)
theorem bk_12 {n : Nat} {M : mM} {x : Int32} {j : Nat} (h : Rl n M) (h0 : Z12 M) (hi : ∀ c : Nat, c ≤ 5 → mIn (x + Int32.ofInt c) (M 233 0).toNatClampNeg = true) (hN : ∀ n' M', Rl n' M' → Z12 M' → kpS M M' → Gd 1667 x M' j) : Gd 451 x M (j + 1) := by
  obtain ⟨a1, q1⟩ : ∃ a, a = M 232 (ix (x + Int32.ofInt 1)) := ⟨_, rfl⟩
  obtain ⟨k, M1, kk, v, M2, n', hl, hkk, hm, hr, hth, hv, r0, M0, hc0, hz⟩ := OpT.L (Op_sleep h (p := a1)) (fl := f_L_sleep a1 M) rfl (fun E M1 => by unfold tIS; cases Nat.beq E 2 <;> cases Nat.beq E 4 <;> first | exact fun _ => rfl | exact fun h => absurd rfl h)
  have cl := c_L_sleep hl
  have cm := c_X12_sleep hm
  have z1 : Z12 M1 := cl.z12 (by decide +kernel) (((zS0.ref (by decide)).int).ref (by decide)) h0
  have z2 : Z12 M2 := cm.z12 (by decide +kernel) ((zS0.int).ref (by decide)) z1
  have kp1 : kpS M M1 := cl.kp
  have hi1 : ∀ c : Nat, c ≤ 5 → mIn (x + Int32.ofInt c) (M1 233 0).toNatClampNeg = true := fun c hc => by rw [kp1.2]; exact hi c hc
  obtain ⟨M', k'', hk'', hE⟩ := hN n' M2 hr z2 (kp1.tr cm.kp)
  refine ⟨M', kk + k'', by omega, ?_⟩
  refine ev_1 kc_372 y451 rfl (i' := 452) (L' := Lw x none none) (st' := [.ref 0]) (M1 := M) rfl ?_
  refine ev_ar (v := a1) kc_372 y452 y453 y454 y455 y456 (hi 1 (by decide)) q1.symm ?_
  refine ev_1 kc_372 y457 rfl (i' := 458) (L' := Lw x none none) (st' := [.ref 231, .int a1, .ref 0]) (M1 := M) rfl ?_
  refine ev_cl (d := 99) kc_372 y458 rfl (as := [.ref 0, .int a1, .ref 231]) (rest := []) rfl rfl (Cs.deep cl (by decide)) ?_
  refine ev_1 kc_372 y459 rfl (i' := 460) (L' := Lw x (some (.int k)) none) (st' := []) (M1 := M1) rfl ?_
  refine ev_1 kc_372 y460 rfl (i' := 461) (L' := Lw x (some (.int k)) none) (st' := [.ref 215]) (M1 := M1) rfl ?_
  refine ev_ar (v := a1) kc_372 y461 y462 y463 y464 y465 (hi1 1 (by decide)) (by rw [kp1.1]; exact q1.symm) ?_
  refine ev_cl0 (d := 99) kc_372 y466 rfl (as := [.ref 215, .int a1]) (rest := []) rfl rfl (Cs.deep cm (by decide)) ?_
  refine ev_1 kc_372 y467 rfl (i' := 468) (L' := Lw x (some (.int k)) (some (.int v))) (st' := []) (M1 := M2) rfl ?_
  exact ev_tai y468 y469 y470 y471 y474 y475 y476 y477 y478 y479 y480 y481 y482 y485 hth hv (Gd.fg hE)
theorem bk_13 {n : Nat} {M : mM} {x : Int32} {j : Nat} (h : Rl n M) (h0 : Z12 M) (hi : ∀ c : Nat, c ≤ 5 → mIn (x + Int32.ofInt c) (M 233 0).toNatClampNeg = true) (hN : ∀ n' M', Rl n' M' → Z12 M' → kpS M M' → Gd 1667 x M' j) : Gd 486 x M (j + 1) := by
  obtain ⟨a1, q1⟩ : ∃ a, a = M 232 (ix (x + Int32.ofInt 1)) := ⟨_, rfl⟩
  obtain ⟨k, M1, kk, v, M2, n', hl, hkk, hm, hr, hth, hv, r0, M0, hc0, hz⟩ := OpT.L (Op_need h (v := a1)) (fl := f_L_need a1 M) rfl (fun E M1 => by unfold tOne; cases Nat.beq E 0 <;> first | exact fun _ => rfl | exact fun h => absurd rfl h)
  have cl := c_L_need hl
  have cm := c_X12_need hm
  have z1 : Z12 M1 := cl.z12 (by decide +kernel) (((zS0.ref (by decide)).int).ref (by decide)) h0
  have z2 : Z12 M2 := cm.z12 (by decide +kernel) ((zS0.int).ref (by decide)) z1
  have kp1 : kpS M M1 := cl.kp
  have hi1 : ∀ c : Nat, c ≤ 5 → mIn (x + Int32.ofInt c) (M1 233 0).toNatClampNeg = true := fun c hc => by rw [kp1.2]; exact hi c hc
  obtain ⟨M', k'', hk'', hE⟩ := hN n' M2 hr z2 (kp1.tr cm.kp)
  refine ⟨M', kk + k'', by omega, ?_⟩
  refine ev_1 kc_372 y486 rfl (i' := 487) (L' := Lw x none none) (st' := [.ref 0]) (M1 := M) rfl ?_
  refine ev_ar (v := a1) kc_372 y487 y488 y489 y490 y491 (hi 1 (by decide)) q1.symm ?_
  refine ev_1 kc_372 y492 rfl (i' := 493) (L' := Lw x none none) (st' := [.ref 231, .int a1, .ref 0]) (M1 := M) rfl ?_
  refine ev_cl (d := 99) kc_372 y493 rfl (as := [.ref 0, .int a1, .ref 231]) (rest := []) rfl rfl (Cs.deep cl (by decide)) ?_
  refine ev_1 kc_372 y494 rfl (i' := 495) (L' := Lw x (some (.int k)) none) (st' := []) (M1 := M1) rfl ?_
  refine ev_1 kc_372 y495 rfl (i' := 496) (L' := Lw x (some (.int k)) none) (st' := [.ref 215]) (M1 := M1) rfl ?_
  refine ev_ar (v := a1) kc_372 y496 y497 y498 y499 y500 (hi1 1 (by decide)) (by rw [kp1.1]; exact q1.symm) ?_
  refine ev_cl0 (d := 99) kc_372 y501 rfl (as := [.ref 215, .int a1]) (rest := []) rfl rfl (Cs.deep cm (by decide)) ?_
  refine ev_1 kc_372 y502 rfl (i' := 503) (L' := Lw x (some (.int k)) (some (.int v))) (st' := []) (M1 := M2) rfl ?_
  exact ev_tai y503 y504 y505 y506 y509 y510 y511 y512 y513 y514 y515 y516 y517 y520 hth hv (Gd.fg hE)
theorem bk_14 {n : Nat} {M : mM} {x : Int32} {j : Nat} (h : Rl n M) (h0 : Z12 M) (hi : ∀ c : Nat, c ≤ 5 → mIn (x + Int32.ofInt c) (M 233 0).toNatClampNeg = true) (hN : ∀ n' M', Rl n' M' → Z12 M' → kpS M M' → Gd 1667 x M' j) : Gd 521 x M (j + 1) := by
  obtain ⟨v, M2, hc, hm, n', hr⟩ := Op_total h
  have cl := c_X11_total hc
  have cm := c_X12_total hm
  have z1 : Z12 M := h0
  have kp1 : kpS M M := ⟨rfl, rfl⟩
  have z2 : Z12 M2 := cm.z12 (by decide +kernel) (zS0.ref (by decide)) z1
  have hi1 : ∀ c : Nat, c ≤ 5 → mIn (x + Int32.ofInt c) (M 233 0).toNatClampNeg = true := fun c hc => by rw [kp1.2]; exact hi c hc
  obtain ⟨M', k'', hk'', hE⟩ := hN n' M2 hr z2 (kp1.tr cm.kp)
  refine ⟨M', k'', by omega, ?_⟩
  refine ev_1 kc_372 y521 rfl (i' := 522) (L' := Lw x none none) (st' := [.ref 0]) (M1 := M) rfl ?_
  refine ev_cl0 (d := 99) kc_372 y522 rfl (as := [.ref 0]) (rest := []) rfl rfl (Cs.deep cl (by decide)) ?_
  refine ev_1 kc_372 y523 rfl (i' := 524) (L' := Lw x none none) (st' := [.ref 215, .int v]) (M1 := M) rfl ?_
  refine ev_cl0 (d := 99) kc_372 y524 rfl (as := [.ref 215]) (rest := [.int v]) rfl rfl (Cs.deep cm (by decide)) ?_
  refine ev_b kc_372 y525 rfl (c := decide (v = v)) (t := 1667) (e := 526) (L' := Lw x none none) (st' := []) rfl (decide_eq_true rfl) hE
theorem bk_15 {n : Nat} {M : mM} {x : Int32} {j : Nat} (h : Rl n M) (h0 : Z12 M) (hi : ∀ c : Nat, c ≤ 5 → mIn (x + Int32.ofInt c) (M 233 0).toNatClampNeg = true) (hN : ∀ n' M', Rl n' M' → Z12 M' → kpS M M' → Gd 1667 x M' j) : Gd 528 x M (j + 1) := by
  obtain ⟨v, M2, hc, hm, n', hr⟩ := Op_ground h
  have cl := c_X11_ground hc
  have cm := c_X12_ground hm
  have z1 : Z12 M := h0
  have kp1 : kpS M M := ⟨rfl, rfl⟩
  have z2 : Z12 M2 := cm.z12 (by decide +kernel) (zS0.ref (by decide)) z1
  have hi1 : ∀ c : Nat, c ≤ 5 → mIn (x + Int32.ofInt c) (M 233 0).toNatClampNeg = true := fun c hc => by rw [kp1.2]; exact hi c hc
  obtain ⟨M', k'', hk'', hE⟩ := hN n' M2 hr z2 (kp1.tr cm.kp)
  refine ⟨M', k'', by omega, ?_⟩
  refine ev_1 kc_372 y528 rfl (i' := 529) (L' := Lw x none none) (st' := [.ref 0]) (M1 := M) rfl ?_
  refine ev_cl0 (d := 99) kc_372 y529 rfl (as := [.ref 0]) (rest := []) rfl rfl (Cs.deep cl (by decide)) ?_
  refine ev_1 kc_372 y530 rfl (i' := 531) (L' := Lw x none none) (st' := [.ref 215, .int v]) (M1 := M) rfl ?_
  refine ev_cl0 (d := 99) kc_372 y531 rfl (as := [.ref 215]) (rest := [.int v]) rfl rfl (Cs.deep cm (by decide)) ?_
  refine ev_b kc_372 y532 rfl (c := decide (v = v)) (t := 1667) (e := 533) (L' := Lw x none none) (st' := []) rfl (decide_eq_true rfl) hE
theorem bk_16 {n : Nat} {M : mM} {x : Int32} {j : Nat} (h : Rl n M) (h0 : Z12 M) (hi : ∀ c : Nat, c ≤ 5 → mIn (x + Int32.ofInt c) (M 233 0).toNatClampNeg = true) (hN : ∀ n' M', Rl n' M' → Z12 M' → kpS M M' → Gd 1667 x M' j) : Gd 535 x M (j + 1) := by
  obtain ⟨v, M2, hc, hm, n', hr⟩ := Op_height h
  have cl := c_X11_height hc
  have cm := c_X12_height hm
  have z1 : Z12 M := h0
  have kp1 : kpS M M := ⟨rfl, rfl⟩
  have z2 : Z12 M2 := cm.z12 (by decide +kernel) (zS0.ref (by decide)) z1
  have hi1 : ∀ c : Nat, c ≤ 5 → mIn (x + Int32.ofInt c) (M 233 0).toNatClampNeg = true := fun c hc => by rw [kp1.2]; exact hi c hc
  obtain ⟨M', k'', hk'', hE⟩ := hN n' M2 hr z2 (kp1.tr cm.kp)
  refine ⟨M', k'', by omega, ?_⟩
  refine ev_1 kc_372 y535 rfl (i' := 536) (L' := Lw x none none) (st' := [.ref 0]) (M1 := M) rfl ?_
  refine ev_cl0 (d := 99) kc_372 y536 rfl (as := [.ref 0]) (rest := []) rfl rfl (Cs.deep cl (by decide)) ?_
  refine ev_1 kc_372 y537 rfl (i' := 538) (L' := Lw x none none) (st' := [.ref 215, .int v]) (M1 := M) rfl ?_
  refine ev_cl0 (d := 99) kc_372 y538 rfl (as := [.ref 215]) (rest := [.int v]) rfl rfl (Cs.deep cm (by decide)) ?_
  refine ev_b kc_372 y539 rfl (c := decide (v = v)) (t := 1667) (e := 540) (L' := Lw x none none) (st' := []) rfl (decide_eq_true rfl) hE
theorem bk_17 {n : Nat} {M : mM} {x : Int32} {j : Nat} (h : Rl n M) (h0 : Z12 M) (hi : ∀ c : Nat, c ≤ 5 → mIn (x + Int32.ofInt c) (M 233 0).toNatClampNeg = true) (hN : ∀ n' M', Rl n' M' → Z12 M' → kpS M M' → Gd 1667 x M' j) : Gd 542 x M (j + 1) := by
  obtain ⟨v, M2, hc, hm, n', hr⟩ := Op_weakest h
  have cl := c_X11_weakest hc
  have cm := c_X12_weakest hm
  have z1 : Z12 M := h0
  have kp1 : kpS M M := ⟨rfl, rfl⟩
  have z2 : Z12 M2 := cm.z12 (by decide +kernel) (zS0.ref (by decide)) z1
  have hi1 : ∀ c : Nat, c ≤ 5 → mIn (x + Int32.ofInt c) (M 233 0).toNatClampNeg = true := fun c hc => by rw [kp1.2]; exact hi c hc
  obtain ⟨M', k'', hk'', hE⟩ := hN n' M2 hr z2 (kp1.tr cm.kp)
  refine ⟨M', k'', by omega, ?_⟩
  refine ev_1 kc_372 y542 rfl (i' := 543) (L' := Lw x none none) (st' := [.ref 0]) (M1 := M) rfl ?_
  refine ev_cl0 (d := 99) kc_372 y543 rfl (as := [.ref 0]) (rest := []) rfl rfl (Cs.deep cl (by decide)) ?_
  refine ev_1 kc_372 y544 rfl (i' := 545) (L' := Lw x none none) (st' := [.ref 215, .int v]) (M1 := M) rfl ?_
  refine ev_cl0 (d := 99) kc_372 y545 rfl (as := [.ref 215]) (rest := [.int v]) rfl rfl (Cs.deep cm (by decide)) ?_
  refine ev_b kc_372 y546 rfl (c := decide (v = v)) (t := 1667) (e := 547) (L' := Lw x none none) (st' := []) rfl (decide_eq_true rfl) hE
theorem bk_18 {n : Nat} {M : mM} {x : Int32} {j : Nat} (h : Rl n M) (h0 : Z12 M) (hi : ∀ c : Nat, c ≤ 5 → mIn (x + Int32.ofInt c) (M 233 0).toNatClampNeg = true) (hN : ∀ n' M', Rl n' M' → Z12 M' → kpS M M' → Gd 1667 x M' j) : Gd 549 x M (j + 1) := by
  obtain ⟨a1, q1⟩ : ∃ a, a = M 232 (ix (x + Int32.ofInt 1)) := ⟨_, rfl⟩
  obtain ⟨k, M1, kk, v, M2, n', hl, hkk, hm, hr, hth, hv, r0, M0, hc0, hz⟩ := OpT.L (Op_more h (p := a1)) (fl := f_L_more a1 M) rfl (fun E M1 => by unfold tIS; cases Nat.beq E 2 <;> cases Nat.beq E 4 <;> first | exact fun _ => rfl | exact fun h => absurd rfl h)
  have cl := c_L_more hl
  have cm := c_X12_more hm
  have z1 : Z12 M1 := cl.z12 (by decide +kernel) (((zS0.ref (by decide)).int).ref (by decide)) h0
  have z2 : Z12 M2 := cm.z12 (by decide +kernel) ((zS0.int).ref (by decide)) z1
  have kp1 : kpS M M1 := cl.kp
  have hi1 : ∀ c : Nat, c ≤ 5 → mIn (x + Int32.ofInt c) (M1 233 0).toNatClampNeg = true := fun c hc => by rw [kp1.2]; exact hi c hc
  obtain ⟨M', k'', hk'', hE⟩ := hN n' M2 hr z2 (kp1.tr cm.kp)
  refine ⟨M', kk + k'', by omega, ?_⟩
  refine ev_1 kc_372 y549 rfl (i' := 550) (L' := Lw x none none) (st' := [.ref 0]) (M1 := M) rfl ?_
  refine ev_ar (v := a1) kc_372 y550 y551 y552 y553 y554 (hi 1 (by decide)) q1.symm ?_
  refine ev_1 kc_372 y555 rfl (i' := 556) (L' := Lw x none none) (st' := [.ref 231, .int a1, .ref 0]) (M1 := M) rfl ?_
  refine ev_cl (d := 99) kc_372 y556 rfl (as := [.ref 0, .int a1, .ref 231]) (rest := []) rfl rfl (Cs.deep cl (by decide)) ?_
  refine ev_1 kc_372 y557 rfl (i' := 558) (L' := Lw x (some (.int k)) none) (st' := []) (M1 := M1) rfl ?_
  refine ev_1 kc_372 y558 rfl (i' := 559) (L' := Lw x (some (.int k)) none) (st' := [.ref 215]) (M1 := M1) rfl ?_
  refine ev_ar (v := a1) kc_372 y559 y560 y561 y562 y563 (hi1 1 (by decide)) (by rw [kp1.1]; exact q1.symm) ?_
  refine ev_cl0 (d := 99) kc_372 y564 rfl (as := [.ref 215, .int a1]) (rest := []) rfl rfl (Cs.deep cm (by decide)) ?_
  refine ev_1 kc_372 y565 rfl (i' := 566) (L' := Lw x (some (.int k)) (some (.int v))) (st' := []) (M1 := M2) rfl ?_
  exact ev_tai y566 y567 y568 y569 y572 y573 y574 y575 y576 y577 y578 y579 y580 y583 hth hv (Gd.fg hE)
theorem bk_19 {n : Nat} {M : mM} {x : Int32} {j : Nat} (h : Rl n M) (h0 : Z12 M) (hi : ∀ c : Nat, c ≤ 5 → mIn (x + Int32.ofInt c) (M 233 0).toNatClampNeg = true) (hN : ∀ n' M', Rl n' M' → Z12 M' → kpS M M' → Gd 1667 x M' j) : Gd 584 x M (j + 1) := by
  obtain ⟨v, M1, M2, hc, hm, n', hr⟩ := Op_outs h
  have cl := c_X11_outs hc
  have cm := c_X12_outs hm
  have z1 : Z12 M1 := cl.z12 (by decide +kernel) (zS0.ref (by decide)) h0
  have kp1 : kpS M M1 := cl.kp
  have z2 : Z12 M2 := cm.z12 (by decide +kernel) (zS0.ref (by decide)) z1
  have hi1 : ∀ c : Nat, c ≤ 5 → mIn (x + Int32.ofInt c) (M1 233 0).toNatClampNeg = true := fun c hc => by rw [kp1.2]; exact hi c hc
  obtain ⟨M', k'', hk'', hE⟩ := hN n' M2 hr z2 (kp1.tr cm.kp)
  refine ⟨M', k'', by omega, ?_⟩
  refine ev_1 kc_372 y584 rfl (i' := 585) (L' := Lw x none none) (st' := [.ref 0]) (M1 := M) rfl ?_
  refine ev_cl0 (d := 99) kc_372 y585 rfl (as := [.ref 0]) (rest := []) rfl rfl (Cs.deep cl (by decide)) ?_
  refine ev_1 kc_372 y586 rfl (i' := 587) (L' := Lw x none none) (st' := [.ref 215, .int v]) (M1 := M1) rfl ?_
  refine ev_cl0 (d := 99) kc_372 y587 rfl (as := [.ref 215]) (rest := [.int v]) rfl rfl (Cs.deep cm (by decide)) ?_
  refine ev_b kc_372 y588 rfl (c := decide (v = v)) (t := 1667) (e := 589) (L' := Lw x none none) (st' := []) rfl (decide_eq_true rfl) hE
theorem bk_20 {n : Nat} {M : mM} {x : Int32} {j : Nat} (h : Rl n M) (h0 : Z12 M) (hi : ∀ c : Nat, c ≤ 5 → mIn (x + Int32.ofInt c) (M 233 0).toNatClampNeg = true) (hN : ∀ n' M', Rl n' M' → Z12 M' → kpS M M' → Gd 1667 x M' j) : Gd 591 x M (j + 1) := by
  obtain ⟨v, M1, M2, hc, hm, n', hr⟩ := Op_sleeps h
  have cl := c_X11_sleeps hc
  have cm := c_X12_sleeps hm
  have z1 : Z12 M1 := cl.z12 (by decide +kernel) (zS0.ref (by decide)) h0
  have kp1 : kpS M M1 := cl.kp
  have z2 : Z12 M2 := cm.z12 (by decide +kernel) (zS0.ref (by decide)) z1
  have hi1 : ∀ c : Nat, c ≤ 5 → mIn (x + Int32.ofInt c) (M1 233 0).toNatClampNeg = true := fun c hc => by rw [kp1.2]; exact hi c hc
  obtain ⟨M', k'', hk'', hE⟩ := hN n' M2 hr z2 (kp1.tr cm.kp)
  refine ⟨M', k'', by omega, ?_⟩
  refine ev_1 kc_372 y591 rfl (i' := 592) (L' := Lw x none none) (st' := [.ref 0]) (M1 := M) rfl ?_
  refine ev_cl0 (d := 99) kc_372 y592 rfl (as := [.ref 0]) (rest := []) rfl rfl (Cs.deep cl (by decide)) ?_
  refine ev_1 kc_372 y593 rfl (i' := 594) (L' := Lw x none none) (st' := [.ref 215, .int v]) (M1 := M1) rfl ?_
  refine ev_cl0 (d := 99) kc_372 y594 rfl (as := [.ref 215]) (rest := [.int v]) rfl rfl (Cs.deep cm (by decide)) ?_
  refine ev_b kc_372 y595 rfl (c := decide (v = v)) (t := 1667) (e := 596) (L' := Lw x none none) (st' := []) rfl (decide_eq_true rfl) hE
theorem bk_21 {n : Nat} {M : mM} {x : Int32} {j : Nat} (h : Rl n M) (h0 : Z12 M) (hi : ∀ c : Nat, c ≤ 5 → mIn (x + Int32.ofInt c) (M 233 0).toNatClampNeg = true) (hN : ∀ n' M', Rl n' M' → Z12 M' → kpS M M' → Gd 1667 x M' j) : Gd 598 x M (j + 1) := by
  obtain ⟨a1, q1⟩ : ∃ a, a = M 232 (ix (x + Int32.ofInt 1)) := ⟨_, rfl⟩
  obtain ⟨k, M1, kk, v, M2, n', hl, hkk, hm, hr, hth, hv, r0, M0, hc0, hz⟩ := OpT.L (Op_falls h (p := a1)) (fl := f_L_falls a1 M) rfl (fun E M1 => by unfold tIS; cases Nat.beq E 2 <;> cases Nat.beq E 4 <;> first | exact fun _ => rfl | exact fun h => absurd rfl h)
  have cl := c_L_falls hl
  have cm := c_X12_falls hm
  have z1 : Z12 M1 := cl.z12 (by decide +kernel) (((zS0.ref (by decide)).int).ref (by decide)) h0
  have z2 : Z12 M2 := cm.z12 (by decide +kernel) ((zS0.int).ref (by decide)) z1
  have kp1 : kpS M M1 := cl.kp
  have hi1 : ∀ c : Nat, c ≤ 5 → mIn (x + Int32.ofInt c) (M1 233 0).toNatClampNeg = true := fun c hc => by rw [kp1.2]; exact hi c hc
  obtain ⟨M', k'', hk'', hE⟩ := hN n' M2 hr z2 (kp1.tr cm.kp)
  refine ⟨M', kk + k'', by omega, ?_⟩
  refine ev_1 kc_372 y598 rfl (i' := 599) (L' := Lw x none none) (st' := [.ref 0]) (M1 := M) rfl ?_
  refine ev_ar (v := a1) kc_372 y599 y600 y601 y602 y603 (hi 1 (by decide)) q1.symm ?_
  refine ev_1 kc_372 y604 rfl (i' := 605) (L' := Lw x none none) (st' := [.ref 231, .int a1, .ref 0]) (M1 := M) rfl ?_
  refine ev_cl (d := 99) kc_372 y605 rfl (as := [.ref 0, .int a1, .ref 231]) (rest := []) rfl rfl (Cs.deep cl (by decide)) ?_
  refine ev_1 kc_372 y606 rfl (i' := 607) (L' := Lw x (some (.int k)) none) (st' := []) (M1 := M1) rfl ?_
  refine ev_1 kc_372 y607 rfl (i' := 608) (L' := Lw x (some (.int k)) none) (st' := [.ref 215]) (M1 := M1) rfl ?_
  refine ev_ar (v := a1) kc_372 y608 y609 y610 y611 y612 (hi1 1 (by decide)) (by rw [kp1.1]; exact q1.symm) ?_
  refine ev_cl0 (d := 99) kc_372 y613 rfl (as := [.ref 215, .int a1]) (rest := []) rfl rfl (Cs.deep cm (by decide)) ?_
  refine ev_1 kc_372 y614 rfl (i' := 615) (L' := Lw x (some (.int k)) (some (.int v))) (st' := []) (M1 := M2) rfl ?_
  exact ev_tai y615 y616 y617 y618 y621 y622 y623 y624 y625 y626 y627 y628 y629 y632 hth hv (Gd.fg hE)
theorem bk_22 {n : Nat} {M : mM} {x : Int32} {j : Nat} (h : Rl n M) (h0 : Z12 M) (hi : ∀ c : Nat, c ≤ 5 → mIn (x + Int32.ofInt c) (M 233 0).toNatClampNeg = true) (hN : ∀ n' M', Rl n' M' → Z12 M' → kpS M M' → Gd 1667 x M' j) : Gd 633 x M (j + 1) := by
  obtain ⟨a1, q1⟩ : ∃ a, a = M 232 (ix (x + Int32.ofInt 1)) := ⟨_, rfl⟩
  obtain ⟨k, M1, kk, v, M2, n', hl, hkk, hm, hr, hth, hv, r0, M0, hc0, hz⟩ := OpT.L (Op_rounds h (p := a1)) (fl := f_L_rounds a1 M) rfl (fun E M1 => by unfold tIS; cases Nat.beq E 2 <;> cases Nat.beq E 4 <;> first | exact fun _ => rfl | exact fun h => absurd rfl h)
  have cl := c_L_rounds hl
  have cm := c_X12_rounds hm
  have z1 : Z12 M1 := cl.z12 (by decide +kernel) (((zS0.ref (by decide)).int).ref (by decide)) h0
  have z2 : Z12 M2 := cm.z12 (by decide +kernel) ((zS0.int).ref (by decide)) z1
  have kp1 : kpS M M1 := cl.kp
  have hi1 : ∀ c : Nat, c ≤ 5 → mIn (x + Int32.ofInt c) (M1 233 0).toNatClampNeg = true := fun c hc => by rw [kp1.2]; exact hi c hc
  obtain ⟨M', k'', hk'', hE⟩ := hN n' M2 hr z2 (kp1.tr cm.kp)
  refine ⟨M', kk + k'', by omega, ?_⟩
  refine ev_1 kc_372 y633 rfl (i' := 634) (L' := Lw x none none) (st' := [.ref 0]) (M1 := M) rfl ?_
  refine ev_ar (v := a1) kc_372 y634 y635 y636 y637 y638 (hi 1 (by decide)) q1.symm ?_
  refine ev_1 kc_372 y639 rfl (i' := 640) (L' := Lw x none none) (st' := [.ref 231, .int a1, .ref 0]) (M1 := M) rfl ?_
  refine ev_cl (d := 99) kc_372 y640 rfl (as := [.ref 0, .int a1, .ref 231]) (rest := []) rfl rfl (Cs.deep cl (by decide)) ?_
  refine ev_1 kc_372 y641 rfl (i' := 642) (L' := Lw x (some (.int k)) none) (st' := []) (M1 := M1) rfl ?_
  refine ev_1 kc_372 y642 rfl (i' := 643) (L' := Lw x (some (.int k)) none) (st' := [.ref 215]) (M1 := M1) rfl ?_
  refine ev_ar (v := a1) kc_372 y643 y644 y645 y646 y647 (hi1 1 (by decide)) (by rw [kp1.1]; exact q1.symm) ?_
  refine ev_cl0 (d := 99) kc_372 y648 rfl (as := [.ref 215, .int a1]) (rest := []) rfl rfl (Cs.deep cm (by decide)) ?_
  refine ev_1 kc_372 y649 rfl (i' := 650) (L' := Lw x (some (.int k)) (some (.int v))) (st' := []) (M1 := M2) rfl ?_
  exact ev_tai y650 y651 y652 y653 y656 y657 y658 y659 y660 y661 y662 y663 y664 y667 hth hv (Gd.fg hE)
theorem bk_23 {n : Nat} {M : mM} {x : Int32} {j : Nat} (h : Rl n M) (h0 : Z12 M) (hi : ∀ c : Nat, c ≤ 5 → mIn (x + Int32.ofInt c) (M 233 0).toNatClampNeg = true) (hN : ∀ n' M', Rl n' M' → Z12 M' → kpS M M' → Gd 1667 x M' j) : Gd 668 x M (j + 1) := by
  obtain ⟨a1, q1⟩ : ∃ a, a = M 232 (ix (x + Int32.ofInt 1)) := ⟨_, rfl⟩
  obtain ⟨a2, q2⟩ : ∃ a, a = M 232 (ix (x + Int32.ofInt 2)) := ⟨_, rfl⟩
  obtain ⟨k, M1, kk, v, M2, n', hl, hkk, hm, hr, hth, hv, r0, M0, hc0, hz⟩ := OpT.L (Op_fallen h (p := a1) (x := a2)) (fl := f_L_fallen a1 a2 M) rfl (fun E M1 => by unfold tIS; cases Nat.beq E 2 <;> cases Nat.beq E 4 <;> first | exact fun _ => rfl | exact fun h => absurd rfl h)
  have cl := c_L_fallen hl
  have cm := c_X12_fallen hm
  have z1 : Z12 M1 := cl.z12 (by decide +kernel) ((((zS0.ref (by decide)).int).int).ref (by decide)) h0
  have z2 : Z12 M2 := cm.z12 (by decide +kernel) (((zS0.int).int).ref (by decide)) z1
  have kp1 : kpS M M1 := cl.kp
  have hi1 : ∀ c : Nat, c ≤ 5 → mIn (x + Int32.ofInt c) (M1 233 0).toNatClampNeg = true := fun c hc => by rw [kp1.2]; exact hi c hc
  obtain ⟨M', k'', hk'', hE⟩ := hN n' M2 hr z2 (kp1.tr cm.kp)
  refine ⟨M', kk + k'', by omega, ?_⟩
  refine ev_1 kc_372 y668 rfl (i' := 669) (L' := Lw x none none) (st' := [.ref 0]) (M1 := M) rfl ?_
  refine ev_ar (v := a1) kc_372 y669 y670 y671 y672 y673 (hi 1 (by decide)) q1.symm ?_
  refine ev_ar (v := a2) kc_372 y674 y675 y676 y677 y678 (hi 2 (by decide)) q2.symm ?_
  refine ev_1 kc_372 y679 rfl (i' := 680) (L' := Lw x none none) (st' := [.ref 231, .int a2, .int a1, .ref 0]) (M1 := M) rfl ?_
  refine ev_cl (d := 99) kc_372 y680 rfl (as := [.ref 0, .int a1, .int a2, .ref 231]) (rest := []) rfl rfl (Cs.deep cl (by decide)) ?_
  refine ev_1 kc_372 y681 rfl (i' := 682) (L' := Lw x (some (.int k)) none) (st' := []) (M1 := M1) rfl ?_
  refine ev_1 kc_372 y682 rfl (i' := 683) (L' := Lw x (some (.int k)) none) (st' := [.ref 215]) (M1 := M1) rfl ?_
  refine ev_ar (v := a1) kc_372 y683 y684 y685 y686 y687 (hi1 1 (by decide)) (by rw [kp1.1]; exact q1.symm) ?_
  refine ev_ar (v := a2) kc_372 y688 y689 y690 y691 y692 (hi1 2 (by decide)) (by rw [kp1.1]; exact q2.symm) ?_
  refine ev_cl0 (d := 99) kc_372 y693 rfl (as := [.ref 215, .int a1, .int a2]) (rest := []) rfl rfl (Cs.deep cm (by decide)) ?_
  refine ev_1 kc_372 y694 rfl (i' := 695) (L' := Lw x (some (.int k)) (some (.int v))) (st' := []) (M1 := M2) rfl ?_
  exact ev_tai y695 y696 y697 y698 y701 y702 y703 y704 y705 y706 y707 y708 y709 y712 hth hv (Gd.fg hE)
theorem bk_24 {n : Nat} {M : mM} {x : Int32} {j : Nat} (h : Rl n M) (h0 : Z12 M) (hi : ∀ c : Nat, c ≤ 5 → mIn (x + Int32.ofInt c) (M 233 0).toNatClampNeg = true) (hN : ∀ n' M', Rl n' M' → Z12 M' → kpS M M' → Gd 1667 x M' j) : Gd 713 x M (j + 1) := by
  obtain ⟨v, M1, M2, hc, hm, n', hr⟩ := Op_key h
  have cl := c_X11_key hc
  have cm := c_X12_key hm
  have z1 : Z12 M1 := cl.z12 (by decide +kernel) (zS0.ref (by decide)) h0
  have kp1 : kpS M M1 := cl.kp
  have z2 : Z12 M2 := cm.z12 (by decide +kernel) (zS0.ref (by decide)) z1
  have hi1 : ∀ c : Nat, c ≤ 5 → mIn (x + Int32.ofInt c) (M1 233 0).toNatClampNeg = true := fun c hc => by rw [kp1.2]; exact hi c hc
  obtain ⟨M', k'', hk'', hE⟩ := hN n' M2 hr z2 (kp1.tr cm.kp)
  refine ⟨M', k'', by omega, ?_⟩
  refine ev_1 kc_372 y713 rfl (i' := 714) (L' := Lw x none none) (st' := [.ref 0]) (M1 := M) rfl ?_
  refine ev_cl0 (d := 99) kc_372 y714 rfl (as := [.ref 0]) (rest := []) rfl rfl (Cs.deep cl (by decide)) ?_
  refine ev_1 kc_372 y715 rfl (i' := 716) (L' := Lw x none none) (st' := [.ref 215, .int v]) (M1 := M1) rfl ?_
  refine ev_cl0 (d := 99) kc_372 y716 rfl (as := [.ref 215]) (rest := [.int v]) rfl rfl (Cs.deep cm (by decide)) ?_
  refine ev_b kc_372 y717 rfl (c := decide (v = v)) (t := 1667) (e := 718) (L' := Lw x none none) (st' := []) rfl (decide_eq_true rfl) hE
theorem bk_25 {n : Nat} {M : mM} {x : Int32} {j : Nat} (h : Rl n M) (h0 : Z12 M) (hi : ∀ c : Nat, c ≤ 5 → mIn (x + Int32.ofInt c) (M 233 0).toNatClampNeg = true) (hN : ∀ n' M', Rl n' M' → Z12 M' → kpS M M' → Gd 1667 x M' j) : Gd 720 x M (j + 1) := by
  obtain ⟨v, M1, M2, hc, hm, n', hr⟩ := Op_pillars h
  have cl := c_X11_pillars hc
  have cm := c_X12_pillars hm
  have z1 : Z12 M1 := cl.z12 (by decide +kernel) (zS0.ref (by decide)) h0
  have kp1 : kpS M M1 := cl.kp
  have z2 : Z12 M2 := cm.z12 (by decide +kernel) (zS0.ref (by decide)) z1
  have hi1 : ∀ c : Nat, c ≤ 5 → mIn (x + Int32.ofInt c) (M1 233 0).toNatClampNeg = true := fun c hc => by rw [kp1.2]; exact hi c hc
  obtain ⟨M', k'', hk'', hE⟩ := hN n' M2 hr z2 (kp1.tr cm.kp)
  refine ⟨M', k'', by omega, ?_⟩
  refine ev_1 kc_372 y720 rfl (i' := 721) (L' := Lw x none none) (st' := [.ref 0]) (M1 := M) rfl ?_
  refine ev_cl0 (d := 99) kc_372 y721 rfl (as := [.ref 0]) (rest := []) rfl rfl (Cs.deep cl (by decide)) ?_
  refine ev_1 kc_372 y722 rfl (i' := 723) (L' := Lw x none none) (st' := [.ref 215, .int v]) (M1 := M1) rfl ?_
  refine ev_cl0 (d := 99) kc_372 y723 rfl (as := [.ref 215]) (rest := [.int v]) rfl rfl (Cs.deep cm (by decide)) ?_
  refine ev_b kc_372 y724 rfl (c := decide (v = v)) (t := 1667) (e := 725) (L' := Lw x none none) (st' := []) rfl (decide_eq_true rfl) hE
theorem bk_26 {n : Nat} {M : mM} {x : Int32} {j : Nat} (h : Rl n M) (h0 : Z12 M) (hi : ∀ c : Nat, c ≤ 5 → mIn (x + Int32.ofInt c) (M 233 0).toNatClampNeg = true) (hN : ∀ n' M', Rl n' M' → Z12 M' → kpS M M' → Gd 1667 x M' j) : Gd 727 x M (j + 1) := by
  obtain ⟨v, M1, M2, hc, hm, n', hr⟩ := Op_left h
  have cl := c_X11_left hc
  have cm := c_X12_left hm
  have z1 : Z12 M1 := cl.z12 (by decide +kernel) (zS0.ref (by decide)) h0
  have kp1 : kpS M M1 := cl.kp
  have z2 : Z12 M2 := cm.z12 (by decide +kernel) (zS0.ref (by decide)) z1
  have hi1 : ∀ c : Nat, c ≤ 5 → mIn (x + Int32.ofInt c) (M1 233 0).toNatClampNeg = true := fun c hc => by rw [kp1.2]; exact hi c hc
  obtain ⟨M', k'', hk'', hE⟩ := hN n' M2 hr z2 (kp1.tr cm.kp)
  refine ⟨M', k'', by omega, ?_⟩
  refine ev_1 kc_372 y727 rfl (i' := 728) (L' := Lw x none none) (st' := [.ref 0]) (M1 := M) rfl ?_
  refine ev_cl0 (d := 99) kc_372 y728 rfl (as := [.ref 0]) (rest := []) rfl rfl (Cs.deep cl (by decide)) ?_
  refine ev_1 kc_372 y729 rfl (i' := 730) (L' := Lw x none none) (st' := [.ref 215, .int v]) (M1 := M1) rfl ?_
  refine ev_cl0 (d := 99) kc_372 y730 rfl (as := [.ref 215]) (rest := [.int v]) rfl rfl (Cs.deep cm (by decide)) ?_
  refine ev_b kc_372 y731 rfl (c := decide (v = v)) (t := 1667) (e := 732) (L' := Lw x none none) (st' := []) rfl (decide_eq_true rfl) hE
theorem bk_27 {n : Nat} {M : mM} {x : Int32} {j : Nat} (h : Rl n M) (h0 : Z12 M) (hi : ∀ c : Nat, c ≤ 5 → mIn (x + Int32.ofInt c) (M 233 0).toNatClampNeg = true) (hN : ∀ n' M', Rl n' M' → Z12 M' → kpS M M' → Gd 1667 x M' j) : Gd 734 x M (j + 1) := by
  obtain ⟨a1, q1⟩ : ∃ a, a = M 232 (ix (x + Int32.ofInt 1)) := ⟨_, rfl⟩
  obtain ⟨k, M1, kk, v, M2, n', hl, hkk, hm, hr, hth, hv, r0, M0, hc0, hz⟩ := OpT.L (Op_guard h (k := a1)) (fl := f_L_guard a1 M) rfl (fun E M1 => by unfold tOne; cases Nat.beq E 0 <;> first | exact fun _ => rfl | exact fun h => absurd rfl h)
  have cl := c_L_guard hl
  have cm := c_X12_guard hm
  have z1 : Z12 M1 := cl.z12 (by decide +kernel) (((zS0.ref (by decide)).int).ref (by decide)) h0
  have z2 : Z12 M2 := cm.z12 (by decide +kernel) ((zS0.int).ref (by decide)) z1
  have kp1 : kpS M M1 := cl.kp
  have hi1 : ∀ c : Nat, c ≤ 5 → mIn (x + Int32.ofInt c) (M1 233 0).toNatClampNeg = true := fun c hc => by rw [kp1.2]; exact hi c hc
  obtain ⟨M', k'', hk'', hE⟩ := hN n' M2 hr z2 (kp1.tr cm.kp)
  refine ⟨M', kk + k'', by omega, ?_⟩
  refine ev_1 kc_372 y734 rfl (i' := 735) (L' := Lw x none none) (st' := [.ref 0]) (M1 := M) rfl ?_
  refine ev_ar (v := a1) kc_372 y735 y736 y737 y738 y739 (hi 1 (by decide)) q1.symm ?_
  refine ev_1 kc_372 y740 rfl (i' := 741) (L' := Lw x none none) (st' := [.ref 231, .int a1, .ref 0]) (M1 := M) rfl ?_
  refine ev_cl (d := 99) kc_372 y741 rfl (as := [.ref 0, .int a1, .ref 231]) (rest := []) rfl rfl (Cs.deep cl (by decide)) ?_
  refine ev_1 kc_372 y742 rfl (i' := 743) (L' := Lw x (some (.int k)) none) (st' := []) (M1 := M1) rfl ?_
  refine ev_1 kc_372 y743 rfl (i' := 744) (L' := Lw x (some (.int k)) none) (st' := [.ref 215]) (M1 := M1) rfl ?_
  refine ev_ar (v := a1) kc_372 y744 y745 y746 y747 y748 (hi1 1 (by decide)) (by rw [kp1.1]; exact q1.symm) ?_
  refine ev_cl0 (d := 99) kc_372 y749 rfl (as := [.ref 215, .int a1]) (rest := []) rfl rfl (Cs.deep cm (by decide)) ?_
  refine ev_1 kc_372 y750 rfl (i' := 751) (L' := Lw x (some (.int k)) (some (.int v))) (st' := []) (M1 := M2) rfl ?_
  exact ev_tai y751 y752 y753 y754 y757 y758 y759 y760 y761 y762 y763 y764 y765 y768 hth hv (Gd.fg hE)
theorem bk_28 {n : Nat} {M : mM} {x : Int32} {j : Nat} (h : Rl n M) (h0 : Z12 M) (hi : ∀ c : Nat, c ≤ 5 → mIn (x + Int32.ofInt c) (M 233 0).toNatClampNeg = true) (hN : ∀ n' M', Rl n' M' → Z12 M' → kpS M M' → Gd 1667 x M' j) : Gd 769 x M (j + 1) := by
  obtain ⟨k, M1, kk, v, M2, n', hl, hkk, hm, hr, hth, hv, r0, M0, hc0, hz⟩ := OpT.L (Op_solo h) (fl := f_L_solo M) rfl (fun E M1 => by unfold tOne; cases Nat.beq E 0 <;> first | exact fun _ => rfl | exact fun h => absurd rfl h)
  have cl := c_L_solo hl
  have cm := c_X12_solo hm
  have z1 : Z12 M1 := cl.z12 (by decide +kernel) ((zS0.ref (by decide)).ref (by decide)) h0
  have z2 : Z12 M2 := cm.z12 (by decide +kernel) (zS0.ref (by decide)) z1
  have kp1 : kpS M M1 := cl.kp
  have hi1 : ∀ c : Nat, c ≤ 5 → mIn (x + Int32.ofInt c) (M1 233 0).toNatClampNeg = true := fun c hc => by rw [kp1.2]; exact hi c hc
  obtain ⟨M', k'', hk'', hE⟩ := hN n' M2 hr z2 (kp1.tr cm.kp)
  refine ⟨M', kk + k'', by omega, ?_⟩
  refine ev_1 kc_372 y769 rfl (i' := 770) (L' := Lw x none none) (st' := [.ref 0]) (M1 := M) rfl ?_
  refine ev_1 kc_372 y770 rfl (i' := 771) (L' := Lw x none none) (st' := [.ref 231, .ref 0]) (M1 := M) rfl ?_
  refine ev_cl (d := 99) kc_372 y771 rfl (as := [.ref 0, .ref 231]) (rest := []) rfl rfl (Cs.deep cl (by decide)) ?_
  refine ev_1 kc_372 y772 rfl (i' := 773) (L' := Lw x (some (.int k)) none) (st' := []) (M1 := M1) rfl ?_
  refine ev_1 kc_372 y773 rfl (i' := 774) (L' := Lw x (some (.int k)) none) (st' := [.ref 215]) (M1 := M1) rfl ?_
  refine ev_cl0 (d := 99) kc_372 y774 rfl (as := [.ref 215]) (rest := []) rfl rfl (Cs.deep cm (by decide)) ?_
  refine ev_1 kc_372 y775 rfl (i' := 776) (L' := Lw x (some (.int k)) (some (.int v))) (st' := []) (M1 := M2) rfl ?_
  exact ev_tai y776 y777 y778 y779 y782 y783 y784 y785 y786 y787 y788 y789 y790 y793 hth hv (Gd.fg hE)
theorem bk_29 {n : Nat} {M : mM} {x : Int32} {j : Nat} (h : Rl n M) (h0 : Z12 M) (hi : ∀ c : Nat, c ≤ 5 → mIn (x + Int32.ofInt c) (M 233 0).toNatClampNeg = true) (hN : ∀ n' M', Rl n' M' → Z12 M' → kpS M M' → Gd 1667 x M' j) : Gd 794 x M (j + 1) := by
  obtain ⟨a1, q1⟩ : ∃ a, a = M 232 (ix (x + Int32.ofInt 1)) := ⟨_, rfl⟩
  obtain ⟨k, M1, kk, v, M2, n', hl, hkk, hm, hr, hth, hv, r0, M0, hc0, hz⟩ := OpT.L (Op_feels h (p := a1)) (fl := f_L_feels a1 M) rfl (fun E M1 => by unfold tIS; cases Nat.beq E 2 <;> cases Nat.beq E 4 <;> first | exact fun _ => rfl | exact fun h => absurd rfl h)
  have cl := c_L_feels hl
  have cm := c_X12_feels hm
  have z1 : Z12 M1 := cl.z12 (by decide +kernel) (((zS0.ref (by decide)).int).ref (by decide)) h0
  have z2 : Z12 M2 := cm.z12 (by decide +kernel) ((zS0.int).ref (by decide)) z1
  have kp1 : kpS M M1 := cl.kp
  have hi1 : ∀ c : Nat, c ≤ 5 → mIn (x + Int32.ofInt c) (M1 233 0).toNatClampNeg = true := fun c hc => by rw [kp1.2]; exact hi c hc
  obtain ⟨M', k'', hk'', hE⟩ := hN n' M2 hr z2 (kp1.tr cm.kp)
  refine ⟨M', kk + k'', by omega, ?_⟩
  refine ev_1 kc_372 y794 rfl (i' := 795) (L' := Lw x none none) (st' := [.ref 0]) (M1 := M) rfl ?_
  refine ev_ar (v := a1) kc_372 y795 y796 y797 y798 y799 (hi 1 (by decide)) q1.symm ?_
  refine ev_1 kc_372 y800 rfl (i' := 801) (L' := Lw x none none) (st' := [.ref 231, .int a1, .ref 0]) (M1 := M) rfl ?_
  refine ev_cl (d := 99) kc_372 y801 rfl (as := [.ref 0, .int a1, .ref 231]) (rest := []) rfl rfl (Cs.deep cl (by decide)) ?_
  refine ev_1 kc_372 y802 rfl (i' := 803) (L' := Lw x (some (.int k)) none) (st' := []) (M1 := M1) rfl ?_
  refine ev_1 kc_372 y803 rfl (i' := 804) (L' := Lw x (some (.int k)) none) (st' := [.ref 215]) (M1 := M1) rfl ?_
  refine ev_ar (v := a1) kc_372 y804 y805 y806 y807 y808 (hi1 1 (by decide)) (by rw [kp1.1]; exact q1.symm) ?_
  refine ev_cl0 (d := 99) kc_372 y809 rfl (as := [.ref 215, .int a1]) (rest := []) rfl rfl (Cs.deep cm (by decide)) ?_
  refine ev_1 kc_372 y810 rfl (i' := 811) (L' := Lw x (some (.int k)) (some (.int v))) (st' := []) (M1 := M2) rfl ?_
  exact ev_tai y811 y812 y813 y814 y817 y818 y819 y820 y821 y822 y823 y824 y825 y828 hth hv (Gd.fg hE)
theorem bk_30 {n : Nat} {M : mM} {x : Int32} {j : Nat} (h : Rl n M) (h0 : Z12 M) (hi : ∀ c : Nat, c ≤ 5 → mIn (x + Int32.ofInt c) (M 233 0).toNatClampNeg = true) (hN : ∀ n' M', Rl n' M' → Z12 M' → kpS M M' → Gd 1667 x M' j) : Gd 829 x M (j + 1) := by
  obtain ⟨a1, q1⟩ : ∃ a, a = M 232 (ix (x + Int32.ofInt 1)) := ⟨_, rfl⟩
  obtain ⟨k, M1, kk, v, M2, n', hl, hkk, hm, hr, hth, hv, r0, M0, hc0, hz⟩ := OpT.L (Op_sure h (p := a1)) (fl := f_L_sure a1 M) rfl (fun E M1 => by unfold tIS; cases Nat.beq E 2 <;> cases Nat.beq E 4 <;> first | exact fun _ => rfl | exact fun h => absurd rfl h)
  have cl := c_L_sure hl
  have cm := c_X12_sure hm
  have z1 : Z12 M1 := cl.z12 (by decide +kernel) (((zS0.ref (by decide)).int).ref (by decide)) h0
  have z2 : Z12 M2 := cm.z12 (by decide +kernel) ((zS0.int).ref (by decide)) z1
  have kp1 : kpS M M1 := cl.kp
  have hi1 : ∀ c : Nat, c ≤ 5 → mIn (x + Int32.ofInt c) (M1 233 0).toNatClampNeg = true := fun c hc => by rw [kp1.2]; exact hi c hc
  obtain ⟨M', k'', hk'', hE⟩ := hN n' M2 hr z2 (kp1.tr cm.kp)
  refine ⟨M', kk + k'', by omega, ?_⟩
  refine ev_1 kc_372 y829 rfl (i' := 830) (L' := Lw x none none) (st' := [.ref 0]) (M1 := M) rfl ?_
  refine ev_ar (v := a1) kc_372 y830 y831 y832 y833 y834 (hi 1 (by decide)) q1.symm ?_
  refine ev_1 kc_372 y835 rfl (i' := 836) (L' := Lw x none none) (st' := [.ref 231, .int a1, .ref 0]) (M1 := M) rfl ?_
  refine ev_cl (d := 99) kc_372 y836 rfl (as := [.ref 0, .int a1, .ref 231]) (rest := []) rfl rfl (Cs.deep cl (by decide)) ?_
  refine ev_1 kc_372 y837 rfl (i' := 838) (L' := Lw x (some (.int k)) none) (st' := []) (M1 := M1) rfl ?_
  refine ev_1 kc_372 y838 rfl (i' := 839) (L' := Lw x (some (.int k)) none) (st' := [.ref 215]) (M1 := M1) rfl ?_
  refine ev_ar (v := a1) kc_372 y839 y840 y841 y842 y843 (hi1 1 (by decide)) (by rw [kp1.1]; exact q1.symm) ?_
  refine ev_cl0 (d := 99) kc_372 y844 rfl (as := [.ref 215, .int a1]) (rest := []) rfl rfl (Cs.deep cm (by decide)) ?_
  refine ev_1 kc_372 y845 rfl (i' := 846) (L' := Lw x (some (.int k)) (some (.int v))) (st' := []) (M1 := M2) rfl ?_
  exact ev_tai y846 y847 y848 y849 y852 y853 y854 y855 y856 y857 y858 y859 y860 y863 hth hv (Gd.fg hE)
theorem bk_31 {n : Nat} {M : mM} {x : Int32} {j : Nat} (h : Rl n M) (h0 : Z12 M) (hi : ∀ c : Nat, c ≤ 5 → mIn (x + Int32.ofInt c) (M 233 0).toNatClampNeg = true) (hN : ∀ n' M', Rl n' M' → Z12 M' → kpS M M' → Gd 1667 x M' j) : Gd 864 x M (j + 1) := by
  obtain ⟨a1, q1⟩ : ∃ a, a = M 232 (ix (x + Int32.ofInt 1)) := ⟨_, rfl⟩
  obtain ⟨k, M1, kk, v, M2, n', hl, hkk, hm, hr, hth, hv, r0, M0, hc0, hz⟩ := OpT.L (Op_free h (p := a1)) (fl := f_L_free a1 M) rfl (fun E M1 => by unfold tIS; cases Nat.beq E 2 <;> cases Nat.beq E 4 <;> first | exact fun _ => rfl | exact fun h => absurd rfl h)
  have cl := c_L_free hl
  have cm := c_X12_free hm
  have z1 : Z12 M1 := cl.z12 (by decide +kernel) (((zS0.ref (by decide)).int).ref (by decide)) h0
  have z2 : Z12 M2 := cm.z12 (by decide +kernel) ((zS0.int).ref (by decide)) z1
  have kp1 : kpS M M1 := cl.kp
  have hi1 : ∀ c : Nat, c ≤ 5 → mIn (x + Int32.ofInt c) (M1 233 0).toNatClampNeg = true := fun c hc => by rw [kp1.2]; exact hi c hc
  obtain ⟨M', k'', hk'', hE⟩ := hN n' M2 hr z2 (kp1.tr cm.kp)
  refine ⟨M', kk + k'', by omega, ?_⟩
  refine ev_1 kc_372 y864 rfl (i' := 865) (L' := Lw x none none) (st' := [.ref 0]) (M1 := M) rfl ?_
  refine ev_ar (v := a1) kc_372 y865 y866 y867 y868 y869 (hi 1 (by decide)) q1.symm ?_
  refine ev_1 kc_372 y870 rfl (i' := 871) (L' := Lw x none none) (st' := [.ref 231, .int a1, .ref 0]) (M1 := M) rfl ?_
  refine ev_cl (d := 99) kc_372 y871 rfl (as := [.ref 0, .int a1, .ref 231]) (rest := []) rfl rfl (Cs.deep cl (by decide)) ?_
  refine ev_1 kc_372 y872 rfl (i' := 873) (L' := Lw x (some (.int k)) none) (st' := []) (M1 := M1) rfl ?_
  refine ev_1 kc_372 y873 rfl (i' := 874) (L' := Lw x (some (.int k)) none) (st' := [.ref 215]) (M1 := M1) rfl ?_
  refine ev_ar (v := a1) kc_372 y874 y875 y876 y877 y878 (hi1 1 (by decide)) (by rw [kp1.1]; exact q1.symm) ?_
  refine ev_cl0 (d := 99) kc_372 y879 rfl (as := [.ref 215, .int a1]) (rest := []) rfl rfl (Cs.deep cm (by decide)) ?_
  refine ev_1 kc_372 y880 rfl (i' := 881) (L' := Lw x (some (.int k)) (some (.int v))) (st' := []) (M1 := M2) rfl ?_
  exact ev_tai y881 y882 y883 y884 y887 y888 y889 y890 y891 y892 y893 y894 y895 y898 hth hv (Gd.fg hE)
theorem bk_32 {n : Nat} {M : mM} {x : Int32} {j : Nat} (h : Rl n M) (h0 : Z12 M) (hi : ∀ c : Nat, c ≤ 5 → mIn (x + Int32.ofInt c) (M 233 0).toNatClampNeg = true) (hN : ∀ n' M', Rl n' M' → Z12 M' → kpS M M' → Gd 1667 x M' j) : Gd 899 x M (j + 1) := by
  obtain ⟨a1, q1⟩ : ∃ a, a = M 232 (ix (x + Int32.ofInt 1)) := ⟨_, rfl⟩
  obtain ⟨a2, q2⟩ : ∃ a, a = M 232 (ix (x + Int32.ofInt 2)) := ⟨_, rfl⟩
  obtain ⟨k, M1, kk, v, M2, n', hl, hkk, hm, hr, hth, hv, r0, M0, hc0, hz⟩ := OpT.L (Op_both h (p := a1) (q := a2)) (fl := f_L_both a1 a2 M) rfl (fun E M1 => by unfold tRe; cases Nat.beq E 2 <;> cases Nat.beq E 0 <;> cases Nat.beq E 4 <;> first | exact fun _ => rfl | exact fun h => absurd rfl h)
  have cl := c_L_both hl
  have cm := c_X12_both hm
  have z1 : Z12 M1 := cl.z12 (by decide +kernel) ((((zS0.ref (by decide)).int).int).ref (by decide)) h0
  have z2 : Z12 M2 := cm.z12 (by decide +kernel) (((zS0.int).int).ref (by decide)) z1
  have kp1 : kpS M M1 := cl.kp
  have hi1 : ∀ c : Nat, c ≤ 5 → mIn (x + Int32.ofInt c) (M1 233 0).toNatClampNeg = true := fun c hc => by rw [kp1.2]; exact hi c hc
  obtain ⟨M', k'', hk'', hE⟩ := hN n' M2 hr z2 (kp1.tr cm.kp)
  refine ⟨M', kk + k'', by omega, ?_⟩
  refine ev_1 kc_372 y899 rfl (i' := 900) (L' := Lw x none none) (st' := [.ref 0]) (M1 := M) rfl ?_
  refine ev_ar (v := a1) kc_372 y900 y901 y902 y903 y904 (hi 1 (by decide)) q1.symm ?_
  refine ev_ar (v := a2) kc_372 y905 y906 y907 y908 y909 (hi 2 (by decide)) q2.symm ?_
  refine ev_1 kc_372 y910 rfl (i' := 911) (L' := Lw x none none) (st' := [.ref 231, .int a2, .int a1, .ref 0]) (M1 := M) rfl ?_
  refine ev_cl (d := 99) kc_372 y911 rfl (as := [.ref 0, .int a1, .int a2, .ref 231]) (rest := []) rfl rfl (Cs.deep cl (by decide)) ?_
  refine ev_1 kc_372 y912 rfl (i' := 913) (L' := Lw x (some (.int k)) none) (st' := []) (M1 := M1) rfl ?_
  refine ev_1 kc_372 y913 rfl (i' := 914) (L' := Lw x (some (.int k)) none) (st' := [.ref 215]) (M1 := M1) rfl ?_
  refine ev_ar (v := a1) kc_372 y914 y915 y916 y917 y918 (hi1 1 (by decide)) (by rw [kp1.1]; exact q1.symm) ?_
  refine ev_ar (v := a2) kc_372 y919 y920 y921 y922 y923 (hi1 2 (by decide)) (by rw [kp1.1]; exact q2.symm) ?_
  refine ev_cl0 (d := 99) kc_372 y924 rfl (as := [.ref 215, .int a1, .int a2]) (rest := []) rfl rfl (Cs.deep cm (by decide)) ?_
  refine ev_1 kc_372 y925 rfl (i' := 926) (L' := Lw x (some (.int k)) (some (.int v))) (st' := []) (M1 := M2) rfl ?_
  exact ev_tai y926 y927 y928 y929 y932 y933 y934 y935 y936 y937 y938 y939 y940 y943 hth hv (Gd.fg hE)
theorem bk_33 {n : Nat} {M : mM} {x : Int32} {j : Nat} (h : Rl n M) (h0 : Z12 M) (hi : ∀ c : Nat, c ≤ 5 → mIn (x + Int32.ofInt c) (M 233 0).toNatClampNeg = true) (hN : ∀ n' M', Rl n' M' → Z12 M' → kpS M M' → Gd 1667 x M' j) : Gd 944 x M (j + 1) := by
  obtain ⟨a1, q1⟩ : ∃ a, a = M 232 (ix (x + Int32.ofInt 1)) := ⟨_, rfl⟩
  obtain ⟨k, M1, kk, v, M2, n', hl, hkk, hm, hr, hth, hv, r0, M0, hc0, hz⟩ := OpT.L (Op_ask h (p := a1)) (fl := f_L_ask a1 M) rfl (fun E M1 => by unfold tIS; cases Nat.beq E 2 <;> cases Nat.beq E 4 <;> first | exact fun _ => rfl | exact fun h => absurd rfl h)
  have cl := c_L_ask hl
  have cm := c_X12_ask hm
  have z1 : Z12 M1 := cl.z12 (by decide +kernel) (((zS0.ref (by decide)).int).ref (by decide)) h0
  have z2 : Z12 M2 := cm.z12 (by decide +kernel) ((zS0.int).ref (by decide)) z1
  have kp1 : kpS M M1 := cl.kp
  have hi1 : ∀ c : Nat, c ≤ 5 → mIn (x + Int32.ofInt c) (M1 233 0).toNatClampNeg = true := fun c hc => by rw [kp1.2]; exact hi c hc
  obtain ⟨M', k'', hk'', hE⟩ := hN n' M2 hr z2 (kp1.tr cm.kp)
  refine ⟨M', kk + k'', by omega, ?_⟩
  refine ev_1 kc_372 y944 rfl (i' := 945) (L' := Lw x none none) (st' := [.ref 0]) (M1 := M) rfl ?_
  refine ev_ar (v := a1) kc_372 y945 y946 y947 y948 y949 (hi 1 (by decide)) q1.symm ?_
  refine ev_1 kc_372 y950 rfl (i' := 951) (L' := Lw x none none) (st' := [.ref 231, .int a1, .ref 0]) (M1 := M) rfl ?_
  refine ev_cl (d := 99) kc_372 y951 rfl (as := [.ref 0, .int a1, .ref 231]) (rest := []) rfl rfl (Cs.deep cl (by decide)) ?_
  refine ev_1 kc_372 y952 rfl (i' := 953) (L' := Lw x (some (.int k)) none) (st' := []) (M1 := M1) rfl ?_
  refine ev_1 kc_372 y953 rfl (i' := 954) (L' := Lw x (some (.int k)) none) (st' := [.ref 215]) (M1 := M1) rfl ?_
  refine ev_ar (v := a1) kc_372 y954 y955 y956 y957 y958 (hi1 1 (by decide)) (by rw [kp1.1]; exact q1.symm) ?_
  refine ev_cl0 (d := 99) kc_372 y959 rfl (as := [.ref 215, .int a1]) (rest := []) rfl rfl (Cs.deep cm (by decide)) ?_
  refine ev_1 kc_372 y960 rfl (i' := 961) (L' := Lw x (some (.int k)) (some (.int v))) (st' := []) (M1 := M2) rfl ?_
  exact ev_tai y961 y962 y963 y964 y967 y968 y969 y970 y971 y972 y973 y974 y975 y978 hth hv (Gd.fg hE)
theorem bk_34 {n : Nat} {M : mM} {x : Int32} {j : Nat} (h : Rl n M) (h0 : Z12 M) (hi : ∀ c : Nat, c ≤ 5 → mIn (x + Int32.ofInt c) (M 233 0).toNatClampNeg = true) (hN : ∀ n' M', Rl n' M' → Z12 M' → kpS M M' → Gd 1667 x M' j) : Gd 979 x M (j + 1) := by
  obtain ⟨a1, q1⟩ : ∃ a, a = M 232 (ix (x + Int32.ofInt 1)) := ⟨_, rfl⟩
  obtain ⟨a2, q2⟩ : ∃ a, a = M 232 (ix (x + Int32.ofInt 2)) := ⟨_, rfl⟩
  obtain ⟨k, M1, kk, v, M2, n', hl, hkk, hm, hr, hth, hv, r0, M0, hc0, hz⟩ := OpT.L (Op_pushes h (p := a1) (q := a2)) (fl := f_L_pushes a1 a2 M) rfl (fun E M1 => by unfold tTwo; cases Nat.beq E 2 <;> first | exact fun _ => rfl | exact fun h => absurd rfl h)
  have cl := c_L_pushes hl
  have cm := c_X12_pushes hm
  have z1 : Z12 M1 := cl.z12 (by decide +kernel) ((((zS0.ref (by decide)).int).int).ref (by decide)) h0
  have z2 : Z12 M2 := cm.z12 (by decide +kernel) (((zS0.int).int).ref (by decide)) z1
  have kp1 : kpS M M1 := cl.kp
  have hi1 : ∀ c : Nat, c ≤ 5 → mIn (x + Int32.ofInt c) (M1 233 0).toNatClampNeg = true := fun c hc => by rw [kp1.2]; exact hi c hc
  obtain ⟨M', k'', hk'', hE⟩ := hN n' M2 hr z2 (kp1.tr cm.kp)
  refine ⟨M', kk + k'', by omega, ?_⟩
  refine ev_1 kc_372 y979 rfl (i' := 980) (L' := Lw x none none) (st' := [.ref 0]) (M1 := M) rfl ?_
  refine ev_ar (v := a1) kc_372 y980 y981 y982 y983 y984 (hi 1 (by decide)) q1.symm ?_
  refine ev_ar (v := a2) kc_372 y985 y986 y987 y988 y989 (hi 2 (by decide)) q2.symm ?_
  refine ev_1 kc_372 y990 rfl (i' := 991) (L' := Lw x none none) (st' := [.ref 231, .int a2, .int a1, .ref 0]) (M1 := M) rfl ?_
  refine ev_cl (d := 99) kc_372 y991 rfl (as := [.ref 0, .int a1, .int a2, .ref 231]) (rest := []) rfl rfl (Cs.deep cl (by decide)) ?_
  refine ev_1 kc_372 y992 rfl (i' := 993) (L' := Lw x (some (.int k)) none) (st' := []) (M1 := M1) rfl ?_
  refine ev_1 kc_372 y993 rfl (i' := 994) (L' := Lw x (some (.int k)) none) (st' := [.ref 215]) (M1 := M1) rfl ?_
  refine ev_ar (v := a1) kc_372 y994 y995 y996 y997 y998 (hi1 1 (by decide)) (by rw [kp1.1]; exact q1.symm) ?_
  refine ev_ar (v := a2) kc_372 y999 y1000 y1001 y1002 y1003 (hi1 2 (by decide)) (by rw [kp1.1]; exact q2.symm) ?_
  refine ev_cl0 (d := 99) kc_372 y1004 rfl (as := [.ref 215, .int a1, .int a2]) (rest := []) rfl rfl (Cs.deep cm (by decide)) ?_
  refine ev_1 kc_372 y1005 rfl (i' := 1006) (L' := Lw x (some (.int k)) (some (.int v))) (st' := []) (M1 := M2) rfl ?_
  exact ev_tai y1006 y1007 y1008 y1009 y1012 y1013 y1014 y1015 y1016 y1017 y1018 y1019 y1020 y1023 hth hv (Gd.fg hE)
theorem bk_35 {n : Nat} {M : mM} {x : Int32} {j : Nat} (h : Rl n M) (h0 : Z12 M) (hi : ∀ c : Nat, c ≤ 5 → mIn (x + Int32.ofInt c) (M 233 0).toNatClampNeg = true) (hN : ∀ n' M', Rl n' M' → Z12 M' → kpS M M' → Gd 1667 x M' j) : Gd 1024 x M (j + 1) := by
  obtain ⟨a1, q1⟩ : ∃ a, a = M 232 (ix (x + Int32.ofInt 1)) := ⟨_, rfl⟩
  obtain ⟨k, M1, kk, v, M2, n', hl, hkk, hm, hr, hth, hv, r0, M0, hc0, hz⟩ := OpT.L (Op_tell h (p := a1)) (fl := f_L_tell a1 M) rfl (fun E M1 => by unfold tTwo; cases Nat.beq E 2 <;> first | exact fun _ => rfl | exact fun h => absurd rfl h)
  have cl := c_L_tell hl
  have cm := c_X12_tell hm
  have z1 : Z12 M1 := cl.z12 (by decide +kernel) (((zS0.ref (by decide)).int).ref (by decide)) h0
  have z2 : Z12 M2 := cm.z12 (by decide +kernel) ((zS0.int).ref (by decide)) z1
  have kp1 : kpS M M1 := cl.kp
  have hi1 : ∀ c : Nat, c ≤ 5 → mIn (x + Int32.ofInt c) (M1 233 0).toNatClampNeg = true := fun c hc => by rw [kp1.2]; exact hi c hc
  obtain ⟨M', k'', hk'', hE⟩ := hN n' M2 hr z2 (kp1.tr cm.kp)
  refine ⟨M', kk + k'', by omega, ?_⟩
  refine ev_1 kc_372 y1024 rfl (i' := 1025) (L' := Lw x none none) (st' := [.ref 0]) (M1 := M) rfl ?_
  refine ev_ar (v := a1) kc_372 y1025 y1026 y1027 y1028 y1029 (hi 1 (by decide)) q1.symm ?_
  refine ev_1 kc_372 y1030 rfl (i' := 1031) (L' := Lw x none none) (st' := [.ref 231, .int a1, .ref 0]) (M1 := M) rfl ?_
  refine ev_cl (d := 99) kc_372 y1031 rfl (as := [.ref 0, .int a1, .ref 231]) (rest := []) rfl rfl (Cs.deep cl (by decide)) ?_
  refine ev_1 kc_372 y1032 rfl (i' := 1033) (L' := Lw x (some (.int k)) none) (st' := []) (M1 := M1) rfl ?_
  refine ev_1 kc_372 y1033 rfl (i' := 1034) (L' := Lw x (some (.int k)) none) (st' := [.ref 215]) (M1 := M1) rfl ?_
  refine ev_ar (v := a1) kc_372 y1034 y1035 y1036 y1037 y1038 (hi1 1 (by decide)) (by rw [kp1.1]; exact q1.symm) ?_
  refine ev_cl0 (d := 99) kc_372 y1039 rfl (as := [.ref 215, .int a1]) (rest := []) rfl rfl (Cs.deep cm (by decide)) ?_
  refine ev_1 kc_372 y1040 rfl (i' := 1041) (L' := Lw x (some (.int k)) (some (.int v))) (st' := []) (M1 := M2) rfl ?_
  exact ev_tai y1041 y1042 y1043 y1044 y1047 y1048 y1049 y1050 y1051 y1052 y1053 y1054 y1055 y1058 hth hv (Gd.fg hE)
theorem bk_36 {n : Nat} {M : mM} {x : Int32} {j : Nat} (h : Rl n M) (h0 : Z12 M) (hi : ∀ c : Nat, c ≤ 5 → mIn (x + Int32.ofInt c) (M 233 0).toNatClampNeg = true) (hN : ∀ n' M', Rl n' M' → Z12 M' → kpS M M' → Gd 1667 x M' j) : Gd 1059 x M (j + 1) := by
  obtain ⟨v, M2, hc, hm, n', hr⟩ := Op_herald h
  have cl := c_X11_herald hc
  have cm := c_X12_herald hm
  have z1 : Z12 M := h0
  have kp1 : kpS M M := ⟨rfl, rfl⟩
  have z2 : Z12 M2 := cm.z12 (by decide +kernel) (zS0.ref (by decide)) z1
  have hi1 : ∀ c : Nat, c ≤ 5 → mIn (x + Int32.ofInt c) (M 233 0).toNatClampNeg = true := fun c hc => by rw [kp1.2]; exact hi c hc
  obtain ⟨M', k'', hk'', hE⟩ := hN n' M2 hr z2 (kp1.tr cm.kp)
  refine ⟨M', k'', by omega, ?_⟩
  refine ev_1 kc_372 y1059 rfl (i' := 1060) (L' := Lw x none none) (st' := [.ref 0]) (M1 := M) rfl ?_
  refine ev_cl0 (d := 99) kc_372 y1060 rfl (as := [.ref 0]) (rest := []) rfl rfl (Cs.deep cl (by decide)) ?_
  refine ev_1 kc_372 y1061 rfl (i' := 1062) (L' := Lw x none none) (st' := [.ref 215, .int v]) (M1 := M) rfl ?_
  refine ev_cl0 (d := 99) kc_372 y1062 rfl (as := [.ref 215]) (rest := [.int v]) rfl rfl (Cs.deep cm (by decide)) ?_
  refine ev_b kc_372 y1063 rfl (c := decide (v = v)) (t := 1667) (e := 1064) (L' := Lw x none none) (st' := []) rfl (decide_eq_true rfl) hE
theorem bk_37 {n : Nat} {M : mM} {x : Int32} {j : Nat} (h : Rl n M) (h0 : Z12 M) (hi : ∀ c : Nat, c ≤ 5 → mIn (x + Int32.ofInt c) (M 233 0).toNatClampNeg = true) (hN : ∀ n' M', Rl n' M' → Z12 M' → kpS M M' → Gd 1667 x M' j) : Gd 1066 x M (j + 1) := by
  obtain ⟨a1, q1⟩ : ∃ a, a = M 232 (ix (x + Int32.ofInt 1)) := ⟨_, rfl⟩
  obtain ⟨k, M1, kk, v, M2, n', hl, hkk, hm, hr, hth, hv, r0, M0, hc0, hz⟩ := OpT.L (Op_cuts h (p := a1)) (fl := f_L_cuts a1 M) rfl (fun E M1 => by unfold tTwo; cases Nat.beq E 2 <;> first | exact fun _ => rfl | exact fun h => absurd rfl h)
  have cl := c_L_cuts hl
  have cm := c_X12_cuts hm
  have z1 : Z12 M1 := cl.z12 (by decide +kernel) (((zS0.ref (by decide)).int).ref (by decide)) h0
  have z2 : Z12 M2 := cm.z12 (by decide +kernel) ((zS0.int).ref (by decide)) z1
  have kp1 : kpS M M1 := cl.kp
  have hi1 : ∀ c : Nat, c ≤ 5 → mIn (x + Int32.ofInt c) (M1 233 0).toNatClampNeg = true := fun c hc => by rw [kp1.2]; exact hi c hc
  obtain ⟨M', k'', hk'', hE⟩ := hN n' M2 hr z2 (kp1.tr cm.kp)
  refine ⟨M', kk + k'', by omega, ?_⟩
  refine ev_1 kc_372 y1066 rfl (i' := 1067) (L' := Lw x none none) (st' := [.ref 0]) (M1 := M) rfl ?_
  refine ev_ar (v := a1) kc_372 y1067 y1068 y1069 y1070 y1071 (hi 1 (by decide)) q1.symm ?_
  refine ev_1 kc_372 y1072 rfl (i' := 1073) (L' := Lw x none none) (st' := [.ref 231, .int a1, .ref 0]) (M1 := M) rfl ?_
  refine ev_cl (d := 99) kc_372 y1073 rfl (as := [.ref 0, .int a1, .ref 231]) (rest := []) rfl rfl (Cs.deep cl (by decide)) ?_
  refine ev_1 kc_372 y1074 rfl (i' := 1075) (L' := Lw x (some (.int k)) none) (st' := []) (M1 := M1) rfl ?_
  refine ev_1 kc_372 y1075 rfl (i' := 1076) (L' := Lw x (some (.int k)) none) (st' := [.ref 215]) (M1 := M1) rfl ?_
  refine ev_ar (v := a1) kc_372 y1076 y1077 y1078 y1079 y1080 (hi1 1 (by decide)) (by rw [kp1.1]; exact q1.symm) ?_
  refine ev_cl0 (d := 99) kc_372 y1081 rfl (as := [.ref 215, .int a1]) (rest := []) rfl rfl (Cs.deep cm (by decide)) ?_
  refine ev_1 kc_372 y1082 rfl (i' := 1083) (L' := Lw x (some (.int k)) (some (.int v))) (st' := []) (M1 := M2) rfl ?_
  exact ev_tai y1083 y1084 y1085 y1086 y1089 y1090 y1091 y1092 y1093 y1094 y1095 y1096 y1097 y1100 hth hv (Gd.fg hE)
theorem bk_38 {n : Nat} {M : mM} {x : Int32} {j : Nat} (h : Rl n M) (h0 : Z12 M) (hi : ∀ c : Nat, c ≤ 5 → mIn (x + Int32.ofInt c) (M 233 0).toNatClampNeg = true) (hN : ∀ n' M', Rl n' M' → Z12 M' → kpS M M' → Gd 1667 x M' j) : Gd 1101 x M (j + 1) := by
  obtain ⟨a1, q1⟩ : ∃ a, a = M 232 (ix (x + Int32.ofInt 1)) := ⟨_, rfl⟩
  obtain ⟨a2, q2⟩ : ∃ a, a = M 232 (ix (x + Int32.ofInt 2)) := ⟨_, rfl⟩
  obtain ⟨a3, q3⟩ : ∃ a, a = M 232 (ix (x + Int32.ofInt 3)) := ⟨_, rfl⟩
  obtain ⟨k, M1, kk, v, M2, n', hl, hkk, hm, hr, hth, hv, r0, M0, hc0, hz⟩ := OpT.L (Op_roster h h0 (p := a1) (q := a2) (k := a3)) (fl := f_L_roster a1 a2 a3 M) rfl (fun E M1 => by unfold tOne; cases Nat.beq E 0 <;> first | exact fun _ => rfl | exact fun h => absurd rfl h)
  have cl := c_L_roster hl
  have cm := c_X12_roster hm
  have z1 : Z12 M1 := fun t ht => by rw [hz]; exact Z_roster h h0 hc0 t ht
  have z2 : Z12 M2 := cm.z12 (by decide +kernel) ((((zS0.int).int).int).ref (by decide)) z1
  have kp1 : kpS M M1 := cl.kp
  have hi1 : ∀ c : Nat, c ≤ 5 → mIn (x + Int32.ofInt c) (M1 233 0).toNatClampNeg = true := fun c hc => by rw [kp1.2]; exact hi c hc
  obtain ⟨M', k'', hk'', hE⟩ := hN n' M2 hr z2 (kp1.tr cm.kp)
  refine ⟨M', kk + k'', by omega, ?_⟩
  refine ev_1 kc_372 y1101 rfl (i' := 1102) (L' := Lw x none none) (st' := [.ref 0]) (M1 := M) rfl ?_
  refine ev_ar (v := a1) kc_372 y1102 y1103 y1104 y1105 y1106 (hi 1 (by decide)) q1.symm ?_
  refine ev_ar (v := a2) kc_372 y1107 y1108 y1109 y1110 y1111 (hi 2 (by decide)) q2.symm ?_
  refine ev_ar (v := a3) kc_372 y1112 y1113 y1114 y1115 y1116 (hi 3 (by decide)) q3.symm ?_
  refine ev_1 kc_372 y1117 rfl (i' := 1118) (L' := Lw x none none) (st' := [.ref 231, .int a3, .int a2, .int a1, .ref 0]) (M1 := M) rfl ?_
  refine ev_cl (d := 99) kc_372 y1118 rfl (as := [.ref 0, .int a1, .int a2, .int a3, .ref 231]) (rest := []) rfl rfl (Cs.deep cl (by decide)) ?_
  refine ev_1 kc_372 y1119 rfl (i' := 1120) (L' := Lw x (some (.int k)) none) (st' := []) (M1 := M1) rfl ?_
  refine ev_1 kc_372 y1120 rfl (i' := 1121) (L' := Lw x (some (.int k)) none) (st' := [.ref 215]) (M1 := M1) rfl ?_
  refine ev_ar (v := a1) kc_372 y1121 y1122 y1123 y1124 y1125 (hi1 1 (by decide)) (by rw [kp1.1]; exact q1.symm) ?_
  refine ev_ar (v := a2) kc_372 y1126 y1127 y1128 y1129 y1130 (hi1 2 (by decide)) (by rw [kp1.1]; exact q2.symm) ?_
  refine ev_ar (v := a3) kc_372 y1131 y1132 y1133 y1134 y1135 (hi1 3 (by decide)) (by rw [kp1.1]; exact q3.symm) ?_
  refine ev_cl0 (d := 99) kc_372 y1136 rfl (as := [.ref 215, .int a1, .int a2, .int a3]) (rest := []) rfl rfl (Cs.deep cm (by decide)) ?_
  refine ev_1 kc_372 y1137 rfl (i' := 1138) (L' := Lw x (some (.int k)) (some (.int v))) (st' := []) (M1 := M2) rfl ?_
  exact ev_tai y1138 y1139 y1140 y1141 y1144 y1145 y1146 y1147 y1148 y1149 y1150 y1151 y1152 y1155 hth hv (Gd.fg hE)
theorem bk_39 {n : Nat} {M : mM} {x : Int32} {j : Nat} (h : Rl n M) (h0 : Z12 M) (hi : ∀ c : Nat, c ≤ 5 → mIn (x + Int32.ofInt c) (M 233 0).toNatClampNeg = true) (hN : ∀ n' M', Rl n' M' → Z12 M' → kpS M M' → Gd 1667 x M' j) : Gd 1156 x M (j + 1) := by
  obtain ⟨a1, q1⟩ : ∃ a, a = M 232 (ix (x + Int32.ofInt 1)) := ⟨_, rfl⟩
  obtain ⟨k, M1, kk, v, M2, n', hl, hkk, hm, hr, hth, hv, r0, M0, hc0, hz⟩ := OpT.L (Op_pairs h (x := a1)) (fl := f_L_pairs a1 M) rfl (fun E M1 => by unfold tOne; cases Nat.beq E 0 <;> first | exact fun _ => rfl | exact fun h => absurd rfl h)
  have cl := c_L_pairs hl
  have cm := c_X12_pairs hm
  have z1 : Z12 M1 := cl.z12 (by decide +kernel) (((zS0.ref (by decide)).int).ref (by decide)) h0
  have z2 : Z12 M2 := cm.z12 (by decide +kernel) ((zS0.int).ref (by decide)) z1
  have kp1 : kpS M M1 := cl.kp
  have hi1 : ∀ c : Nat, c ≤ 5 → mIn (x + Int32.ofInt c) (M1 233 0).toNatClampNeg = true := fun c hc => by rw [kp1.2]; exact hi c hc
  obtain ⟨M', k'', hk'', hE⟩ := hN n' M2 hr z2 (kp1.tr cm.kp)
  refine ⟨M', kk + k'', by omega, ?_⟩
  refine ev_1 kc_372 y1156 rfl (i' := 1157) (L' := Lw x none none) (st' := [.ref 0]) (M1 := M) rfl ?_
  refine ev_ar (v := a1) kc_372 y1157 y1158 y1159 y1160 y1161 (hi 1 (by decide)) q1.symm ?_
  refine ev_1 kc_372 y1162 rfl (i' := 1163) (L' := Lw x none none) (st' := [.ref 231, .int a1, .ref 0]) (M1 := M) rfl ?_
  refine ev_cl (d := 99) kc_372 y1163 rfl (as := [.ref 0, .int a1, .ref 231]) (rest := []) rfl rfl (Cs.deep cl (by decide)) ?_
  refine ev_1 kc_372 y1164 rfl (i' := 1165) (L' := Lw x (some (.int k)) none) (st' := []) (M1 := M1) rfl ?_
  refine ev_1 kc_372 y1165 rfl (i' := 1166) (L' := Lw x (some (.int k)) none) (st' := [.ref 215]) (M1 := M1) rfl ?_
  refine ev_ar (v := a1) kc_372 y1166 y1167 y1168 y1169 y1170 (hi1 1 (by decide)) (by rw [kp1.1]; exact q1.symm) ?_
  refine ev_cl0 (d := 99) kc_372 y1171 rfl (as := [.ref 215, .int a1]) (rest := []) rfl rfl (Cs.deep cm (by decide)) ?_
  refine ev_1 kc_372 y1172 rfl (i' := 1173) (L' := Lw x (some (.int k)) (some (.int v))) (st' := []) (M1 := M2) rfl ?_
  exact ev_tai y1173 y1174 y1175 y1176 y1179 y1180 y1181 y1182 y1183 y1184 y1185 y1186 y1187 y1190 hth hv (Gd.fg hE)
theorem bk_40 {n : Nat} {M : mM} {x : Int32} {j : Nat} (h : Rl n M) (h0 : Z12 M) (hi : ∀ c : Nat, c ≤ 5 → mIn (x + Int32.ofInt c) (M 233 0).toNatClampNeg = true) (hN : ∀ n' M', Rl n' M' → Z12 M' → kpS M M' → Gd 1667 x M' j) : Gd 1191 x M (j + 1) := by
  obtain ⟨⟨v, M1, M2, hc, hm, n', hr⟩, hz⟩ := Op_dearest h h0
  have cl := c_X11_dearest hc
  have cm := c_X12_dearest hm
  have z1 : Z12 M1 := hz _ _ hc
  have kp1 : kpS M M1 := cl.kp
  have z2 : Z12 M2 := cm.z12 (by decide +kernel) (zS0.ref (by decide)) z1
  have hi1 : ∀ c : Nat, c ≤ 5 → mIn (x + Int32.ofInt c) (M1 233 0).toNatClampNeg = true := fun c hc => by rw [kp1.2]; exact hi c hc
  obtain ⟨M', k'', hk'', hE⟩ := hN n' M2 hr z2 (kp1.tr cm.kp)
  refine ⟨M', k'', by omega, ?_⟩
  refine ev_1 kc_372 y1191 rfl (i' := 1192) (L' := Lw x none none) (st' := [.ref 0]) (M1 := M) rfl ?_
  refine ev_cl0 (d := 99) kc_372 y1192 rfl (as := [.ref 0]) (rest := []) rfl rfl (Cs.deep cl (by decide)) ?_
  refine ev_1 kc_372 y1193 rfl (i' := 1194) (L' := Lw x none none) (st' := [.ref 215, .int v]) (M1 := M1) rfl ?_
  refine ev_cl0 (d := 99) kc_372 y1194 rfl (as := [.ref 215]) (rest := [.int v]) rfl rfl (Cs.deep cm (by decide)) ?_
  refine ev_b kc_372 y1195 rfl (c := decide (v = v)) (t := 1667) (e := 1196) (L' := Lw x none none) (st' := []) rfl (decide_eq_true rfl) hE
theorem bk_41 {n : Nat} {M : mM} {x : Int32} {j : Nat} (h : Rl n M) (h0 : Z12 M) (hi : ∀ c : Nat, c ≤ 5 → mIn (x + Int32.ofInt c) (M 233 0).toNatClampNeg = true) (hN : ∀ n' M', Rl n' M' → Z12 M' → kpS M M' → Gd 1667 x M' j) : Gd 1198 x M (j + 1) := by
  obtain ⟨a1, q1⟩ : ∃ a, a = M 232 (ix (x + Int32.ofInt 1)) := ⟨_, rfl⟩
  obtain ⟨a2, q2⟩ : ∃ a, a = M 232 (ix (x + Int32.ofInt 2)) := ⟨_, rfl⟩
  obtain ⟨k, M1, kk, v, M2, n', hl, hkk, hm, hr, hth, hv, r0, M0, hc0, hz⟩ := OpT.L (Op_rests h (p := a1) (q := a2)) (fl := f_L_rests a1 a2 M) rfl (fun E M1 => by unfold tIS; cases Nat.beq E 2 <;> cases Nat.beq E 4 <;> first | exact fun _ => rfl | exact fun h => absurd rfl h)
  have cl := c_L_rests hl
  have cm := c_X12_rests hm
  have z1 : Z12 M1 := cl.z12 (by decide +kernel) ((((zS0.ref (by decide)).int).int).ref (by decide)) h0
  have z2 : Z12 M2 := cm.z12 (by decide +kernel) (((zS0.int).int).ref (by decide)) z1
  have kp1 : kpS M M1 := cl.kp
  have hi1 : ∀ c : Nat, c ≤ 5 → mIn (x + Int32.ofInt c) (M1 233 0).toNatClampNeg = true := fun c hc => by rw [kp1.2]; exact hi c hc
  obtain ⟨M', k'', hk'', hE⟩ := hN n' M2 hr z2 (kp1.tr cm.kp)
  refine ⟨M', kk + k'', by omega, ?_⟩
  refine ev_1 kc_372 y1198 rfl (i' := 1199) (L' := Lw x none none) (st' := [.ref 0]) (M1 := M) rfl ?_
  refine ev_ar (v := a1) kc_372 y1199 y1200 y1201 y1202 y1203 (hi 1 (by decide)) q1.symm ?_
  refine ev_ar (v := a2) kc_372 y1204 y1205 y1206 y1207 y1208 (hi 2 (by decide)) q2.symm ?_
  refine ev_1 kc_372 y1209 rfl (i' := 1210) (L' := Lw x none none) (st' := [.ref 231, .int a2, .int a1, .ref 0]) (M1 := M) rfl ?_
  refine ev_cl (d := 99) kc_372 y1210 rfl (as := [.ref 0, .int a1, .int a2, .ref 231]) (rest := []) rfl rfl (Cs.deep cl (by decide)) ?_
  refine ev_1 kc_372 y1211 rfl (i' := 1212) (L' := Lw x (some (.int k)) none) (st' := []) (M1 := M1) rfl ?_
  refine ev_1 kc_372 y1212 rfl (i' := 1213) (L' := Lw x (some (.int k)) none) (st' := [.ref 215]) (M1 := M1) rfl ?_
  refine ev_ar (v := a1) kc_372 y1213 y1214 y1215 y1216 y1217 (hi1 1 (by decide)) (by rw [kp1.1]; exact q1.symm) ?_
  refine ev_ar (v := a2) kc_372 y1218 y1219 y1220 y1221 y1222 (hi1 2 (by decide)) (by rw [kp1.1]; exact q2.symm) ?_
  refine ev_cl0 (d := 99) kc_372 y1223 rfl (as := [.ref 215, .int a1, .int a2]) (rest := []) rfl rfl (Cs.deep cm (by decide)) ?_
  refine ev_1 kc_372 y1224 rfl (i' := 1225) (L' := Lw x (some (.int k)) (some (.int v))) (st' := []) (M1 := M2) rfl ?_
  exact ev_tai y1225 y1226 y1227 y1228 y1231 y1232 y1233 y1234 y1235 y1236 y1237 y1238 y1239 y1242 hth hv (Gd.fg hE)
theorem bk_42 {n : Nat} {M : mM} {x : Int32} {j : Nat} (h : Rl n M) (h0 : Z12 M) (hi : ∀ c : Nat, c ≤ 5 → mIn (x + Int32.ofInt c) (M 233 0).toNatClampNeg = true) (hN : ∀ n' M', Rl n' M' → Z12 M' → kpS M M' → Gd 1667 x M' j) : Gd 1243 x M (j + 1) := by
  obtain ⟨a1, q1⟩ : ∃ a, a = M 232 (ix (x + Int32.ofInt 1)) := ⟨_, rfl⟩
  obtain ⟨a2, q2⟩ : ∃ a, a = M 232 (ix (x + Int32.ofInt 2)) := ⟨_, rfl⟩
  obtain ⟨k, M1, kk, v, M2, n', hl, hkk, hm, hr, hth, hv, r0, M0, hc0, hz⟩ := OpT.L (Op_odds h (p := a1) (t := a2)) (fl := f_L_odds a1 a2 M) rfl (fun E M1 => by unfold tOd; cases Nat.beq E 2 <;> cases Nat.beq E 0 <;> first | exact fun _ => rfl | exact fun h => absurd rfl h)
  have cl := c_L_odds hl
  have cm := c_X12_odds hm
  have z1 : Z12 M1 := cl.z12 (by decide +kernel) ((((zS0.ref (by decide)).int).int).ref (by decide)) h0
  have z2 : Z12 M2 := cm.z12 (by decide +kernel) (((zS0.int).int).ref (by decide)) z1
  have kp1 : kpS M M1 := cl.kp
  have hi1 : ∀ c : Nat, c ≤ 5 → mIn (x + Int32.ofInt c) (M1 233 0).toNatClampNeg = true := fun c hc => by rw [kp1.2]; exact hi c hc
  obtain ⟨M', k'', hk'', hE⟩ := hN n' M2 hr z2 (kp1.tr cm.kp)
  refine ⟨M', kk + k'', by omega, ?_⟩
  refine ev_1 kc_372 y1243 rfl (i' := 1244) (L' := Lw x none none) (st' := [.ref 0]) (M1 := M) rfl ?_
  refine ev_ar (v := a1) kc_372 y1244 y1245 y1246 y1247 y1248 (hi 1 (by decide)) q1.symm ?_
  refine ev_ar (v := a2) kc_372 y1249 y1250 y1251 y1252 y1253 (hi 2 (by decide)) q2.symm ?_
  refine ev_1 kc_372 y1254 rfl (i' := 1255) (L' := Lw x none none) (st' := [.ref 231, .int a2, .int a1, .ref 0]) (M1 := M) rfl ?_
  refine ev_cl (d := 99) kc_372 y1255 rfl (as := [.ref 0, .int a1, .int a2, .ref 231]) (rest := []) rfl rfl (Cs.deep cl (by decide)) ?_
  refine ev_1 kc_372 y1256 rfl (i' := 1257) (L' := Lw x (some (.int k)) none) (st' := []) (M1 := M1) rfl ?_
  refine ev_1 kc_372 y1257 rfl (i' := 1258) (L' := Lw x (some (.int k)) none) (st' := [.ref 215]) (M1 := M1) rfl ?_
  refine ev_ar (v := a1) kc_372 y1258 y1259 y1260 y1261 y1262 (hi1 1 (by decide)) (by rw [kp1.1]; exact q1.symm) ?_
  refine ev_ar (v := a2) kc_372 y1263 y1264 y1265 y1266 y1267 (hi1 2 (by decide)) (by rw [kp1.1]; exact q2.symm) ?_
  refine ev_cl0 (d := 99) kc_372 y1268 rfl (as := [.ref 215, .int a1, .int a2]) (rest := []) rfl rfl (Cs.deep cm (by decide)) ?_
  refine ev_1 kc_372 y1269 rfl (i' := 1270) (L' := Lw x (some (.int k)) (some (.int v))) (st' := []) (M1 := M2) rfl ?_
  exact ev_tai y1270 y1271 y1272 y1273 y1276 y1277 y1278 y1279 y1280 y1281 y1282 y1283 y1284 y1287 hth hv (Gd.fg hE)
theorem bk_43 {n : Nat} {M : mM} {x : Int32} {j : Nat} (h : Rl n M) (h0 : Z12 M) (hi : ∀ c : Nat, c ≤ 5 → mIn (x + Int32.ofInt c) (M 233 0).toNatClampNeg = true) (hN : ∀ n' M', Rl n' M' → Z12 M' → kpS M M' → Gd 1667 x M' j) : Gd 1288 x M (j + 1) := by
  obtain ⟨v, M2, hc, hm, n', hr⟩ := Op_alone h
  have cl := c_X11_alone hc
  have cm := c_X12_alone hm
  have z1 : Z12 M := h0
  have kp1 : kpS M M := ⟨rfl, rfl⟩
  have z2 : Z12 M2 := cm.z12 (by decide +kernel) (zS0.ref (by decide)) z1
  have hi1 : ∀ c : Nat, c ≤ 5 → mIn (x + Int32.ofInt c) (M 233 0).toNatClampNeg = true := fun c hc => by rw [kp1.2]; exact hi c hc
  obtain ⟨M', k'', hk'', hE⟩ := hN n' M2 hr z2 (kp1.tr cm.kp)
  refine ⟨M', k'', by omega, ?_⟩
  refine ev_1 kc_372 y1288 rfl (i' := 1289) (L' := Lw x none none) (st' := [.ref 0]) (M1 := M) rfl ?_
  refine ev_cl0 (d := 99) kc_372 y1289 rfl (as := [.ref 0]) (rest := []) rfl rfl (Cs.deep cl (by decide)) ?_
  refine ev_1 kc_372 y1290 rfl (i' := 1291) (L' := Lw x none none) (st' := [.ref 215, .int v]) (M1 := M) rfl ?_
  refine ev_cl0 (d := 99) kc_372 y1291 rfl (as := [.ref 215]) (rest := [.int v]) rfl rfl (Cs.deep cm (by decide)) ?_
  refine ev_b kc_372 y1292 rfl (c := decide (v = v)) (t := 1667) (e := 1293) (L' := Lw x none none) (st' := []) rfl (decide_eq_true rfl) hE
theorem bk_44 {n : Nat} {M : mM} {x : Int32} {j : Nat} (h : Rl n M) (h0 : Z12 M) (hi : ∀ c : Nat, c ≤ 5 → mIn (x + Int32.ofInt c) (M 233 0).toNatClampNeg = true) (hN : ∀ n' M', Rl n' M' → Z12 M' → kpS M M' → Gd 1667 x M' j) : Gd 1295 x M (j + 1) := by
  obtain ⟨v, M2, hc, hm, n', hr⟩ := Op_tired h
  have cl := c_X11_tired hc
  have cm := c_X12_tired hm
  have z1 : Z12 M := h0
  have kp1 : kpS M M := ⟨rfl, rfl⟩
  have z2 : Z12 M2 := cm.z12 (by decide +kernel) (zS0.ref (by decide)) z1
  have hi1 : ∀ c : Nat, c ≤ 5 → mIn (x + Int32.ofInt c) (M 233 0).toNatClampNeg = true := fun c hc => by rw [kp1.2]; exact hi c hc
  obtain ⟨M', k'', hk'', hE⟩ := hN n' M2 hr z2 (kp1.tr cm.kp)
  refine ⟨M', k'', by omega, ?_⟩
  refine ev_1 kc_372 y1295 rfl (i' := 1296) (L' := Lw x none none) (st' := [.ref 0]) (M1 := M) rfl ?_
  refine ev_cl0 (d := 99) kc_372 y1296 rfl (as := [.ref 0]) (rest := []) rfl rfl (Cs.deep cl (by decide)) ?_
  refine ev_1 kc_372 y1297 rfl (i' := 1298) (L' := Lw x none none) (st' := [.ref 215, .int v]) (M1 := M) rfl ?_
  refine ev_cl0 (d := 99) kc_372 y1298 rfl (as := [.ref 215]) (rest := [.int v]) rfl rfl (Cs.deep cm (by decide)) ?_
  refine ev_b kc_372 y1299 rfl (c := decide (v = v)) (t := 1667) (e := 1300) (L' := Lw x none none) (st' := []) rfl (decide_eq_true rfl) hE
theorem bk_45 {n : Nat} {M : mM} {x : Int32} {j : Nat} (h : Rl n M) (h0 : Z12 M) (hi : ∀ c : Nat, c ≤ 5 → mIn (x + Int32.ofInt c) (M 233 0).toNatClampNeg = true) (hN : ∀ n' M', Rl n' M' → Z12 M' → kpS M M' → Gd 1667 x M' j) : Gd 1302 x M (j + 1) := by
  obtain ⟨v, M2, hc, hm, n', hr⟩ := Op_twins h
  have cl := c_X11_twins hc
  have cm := c_X12_twins hm
  have z1 : Z12 M := h0
  have kp1 : kpS M M := ⟨rfl, rfl⟩
  have z2 : Z12 M2 := cm.z12 (by decide +kernel) (zS0.ref (by decide)) z1
  have hi1 : ∀ c : Nat, c ≤ 5 → mIn (x + Int32.ofInt c) (M 233 0).toNatClampNeg = true := fun c hc => by rw [kp1.2]; exact hi c hc
  obtain ⟨M', k'', hk'', hE⟩ := hN n' M2 hr z2 (kp1.tr cm.kp)
  refine ⟨M', k'', by omega, ?_⟩
  refine ev_1 kc_372 y1302 rfl (i' := 1303) (L' := Lw x none none) (st' := [.ref 0]) (M1 := M) rfl ?_
  refine ev_cl0 (d := 99) kc_372 y1303 rfl (as := [.ref 0]) (rest := []) rfl rfl (Cs.deep cl (by decide)) ?_
  refine ev_1 kc_372 y1304 rfl (i' := 1305) (L' := Lw x none none) (st' := [.ref 215, .int v]) (M1 := M) rfl ?_
  refine ev_cl0 (d := 99) kc_372 y1305 rfl (as := [.ref 215]) (rest := [.int v]) rfl rfl (Cs.deep cm (by decide)) ?_
  refine ev_b kc_372 y1306 rfl (c := decide (v = v)) (t := 1667) (e := 1307) (L' := Lw x none none) (st' := []) rfl (decide_eq_true rfl) hE
theorem bk_46 {n : Nat} {M : mM} {x : Int32} {j : Nat} (h : Rl n M) (h0 : Z12 M) (hi : ∀ c : Nat, c ≤ 5 → mIn (x + Int32.ofInt c) (M 233 0).toNatClampNeg = true) (hN : ∀ n' M', Rl n' M' → Z12 M' → kpS M M' → Gd 1667 x M' j) : Gd 1309 x M (j + 1) := by
  obtain ⟨a1, q1⟩ : ∃ a, a = M 232 (ix (x + Int32.ofInt 1)) := ⟨_, rfl⟩
  obtain ⟨k, M1, kk, v, M2, n', hl, hkk, hm, hr, hth, hv, r0, M0, hc0, hz⟩ := OpT.L (Op_ring h (r := a1)) (fl := f_L_ring a1 M) rfl (fun E M1 => by unfold tTwo; cases Nat.beq E 2 <;> first | exact fun _ => rfl | exact fun h => absurd rfl h)
  have cl := c_L_ring hl
  have cm := c_X12_ring hm
  have z1 : Z12 M1 := cl.z12 (by decide +kernel) (((zS0.ref (by decide)).int).ref (by decide)) h0
  have z2 : Z12 M2 := cm.z12 (by decide +kernel) ((zS0.int).ref (by decide)) z1
  have kp1 : kpS M M1 := cl.kp
  have hi1 : ∀ c : Nat, c ≤ 5 → mIn (x + Int32.ofInt c) (M1 233 0).toNatClampNeg = true := fun c hc => by rw [kp1.2]; exact hi c hc
  obtain ⟨M', k'', hk'', hE⟩ := hN n' M2 hr z2 (kp1.tr cm.kp)
  refine ⟨M', kk + k'', by omega, ?_⟩
  refine ev_1 kc_372 y1309 rfl (i' := 1310) (L' := Lw x none none) (st' := [.ref 0]) (M1 := M) rfl ?_
  refine ev_ar (v := a1) kc_372 y1310 y1311 y1312 y1313 y1314 (hi 1 (by decide)) q1.symm ?_
  refine ev_1 kc_372 y1315 rfl (i' := 1316) (L' := Lw x none none) (st' := [.ref 231, .int a1, .ref 0]) (M1 := M) rfl ?_
  refine ev_cl (d := 99) kc_372 y1316 rfl (as := [.ref 0, .int a1, .ref 231]) (rest := []) rfl rfl (Cs.deep cl (by decide)) ?_
  refine ev_1 kc_372 y1317 rfl (i' := 1318) (L' := Lw x (some (.int k)) none) (st' := []) (M1 := M1) rfl ?_
  refine ev_1 kc_372 y1318 rfl (i' := 1319) (L' := Lw x (some (.int k)) none) (st' := [.ref 215]) (M1 := M1) rfl ?_
  refine ev_ar (v := a1) kc_372 y1319 y1320 y1321 y1322 y1323 (hi1 1 (by decide)) (by rw [kp1.1]; exact q1.symm) ?_
  refine ev_cl0 (d := 99) kc_372 y1324 rfl (as := [.ref 215, .int a1]) (rest := []) rfl rfl (Cs.deep cm (by decide)) ?_
  refine ev_1 kc_372 y1325 rfl (i' := 1326) (L' := Lw x (some (.int k)) (some (.int v))) (st' := []) (M1 := M2) rfl ?_
  exact ev_tai y1326 y1327 y1328 y1329 y1332 y1333 y1334 y1335 y1336 y1337 y1338 y1339 y1340 y1343 hth hv (Gd.fg hE)
theorem bk_47 {n : Nat} {M : mM} {x : Int32} {j : Nat} (h : Rl n M) (h0 : Z12 M) (hi : ∀ c : Nat, c ≤ 5 → mIn (x + Int32.ofInt c) (M 233 0).toNatClampNeg = true) (hN : ∀ n' M', Rl n' M' → Z12 M' → kpS M M' → Gd 1667 x M' j) : Gd 1344 x M (j + 1) := by
  obtain ⟨v, M2, hc, hm, n', hr⟩ := Op_reserves h
  have cl := c_X11_reserves hc
  have cm := c_X12_reserves hm
  have z1 : Z12 M := h0
  have kp1 : kpS M M := ⟨rfl, rfl⟩
  have z2 : Z12 M2 := cm.z12 (by decide +kernel) (zS0.ref (by decide)) z1
  have hi1 : ∀ c : Nat, c ≤ 5 → mIn (x + Int32.ofInt c) (M 233 0).toNatClampNeg = true := fun c hc => by rw [kp1.2]; exact hi c hc
  obtain ⟨M', k'', hk'', hE⟩ := hN n' M2 hr z2 (kp1.tr cm.kp)
  refine ⟨M', k'', by omega, ?_⟩
  refine ev_1 kc_372 y1344 rfl (i' := 1345) (L' := Lw x none none) (st' := [.ref 0]) (M1 := M) rfl ?_
  refine ev_cl0 (d := 99) kc_372 y1345 rfl (as := [.ref 0]) (rest := []) rfl rfl (Cs.deep cl (by decide)) ?_
  refine ev_1 kc_372 y1346 rfl (i' := 1347) (L' := Lw x none none) (st' := [.ref 215, .int v]) (M1 := M) rfl ?_
  refine ev_cl0 (d := 99) kc_372 y1347 rfl (as := [.ref 215]) (rest := [.int v]) rfl rfl (Cs.deep cm (by decide)) ?_
  refine ev_b kc_372 y1348 rfl (c := decide (v = v)) (t := 1667) (e := 1349) (L' := Lw x none none) (st' := []) rfl (decide_eq_true rfl) hE
theorem bk_48 {n : Nat} {M : mM} {x : Int32} {j : Nat} (h : Rl n M) (h0 : Z12 M) (hi : ∀ c : Nat, c ≤ 5 → mIn (x + Int32.ofInt c) (M 233 0).toNatClampNeg = true) (hN : ∀ n' M', Rl n' M' → Z12 M' → kpS M M' → Gd 1667 x M' j) : Gd 1351 x M (j + 1) := by
  obtain ⟨v, M2, hc, hm, n', hr⟩ := Op_sleepers h
  have cl := c_X11_sleepers hc
  have cm := c_X12_sleepers hm
  have z1 : Z12 M := h0
  have kp1 : kpS M M := ⟨rfl, rfl⟩
  have z2 : Z12 M2 := cm.z12 (by decide +kernel) (zS0.ref (by decide)) z1
  have hi1 : ∀ c : Nat, c ≤ 5 → mIn (x + Int32.ofInt c) (M 233 0).toNatClampNeg = true := fun c hc => by rw [kp1.2]; exact hi c hc
  obtain ⟨M', k'', hk'', hE⟩ := hN n' M2 hr z2 (kp1.tr cm.kp)
  refine ⟨M', k'', by omega, ?_⟩
  refine ev_1 kc_372 y1351 rfl (i' := 1352) (L' := Lw x none none) (st' := [.ref 0]) (M1 := M) rfl ?_
  refine ev_cl0 (d := 99) kc_372 y1352 rfl (as := [.ref 0]) (rest := []) rfl rfl (Cs.deep cl (by decide)) ?_
  refine ev_1 kc_372 y1353 rfl (i' := 1354) (L' := Lw x none none) (st' := [.ref 215, .int v]) (M1 := M) rfl ?_
  refine ev_cl0 (d := 99) kc_372 y1354 rfl (as := [.ref 215]) (rest := [.int v]) rfl rfl (Cs.deep cm (by decide)) ?_
  refine ev_b kc_372 y1355 rfl (c := decide (v = v)) (t := 1667) (e := 1356) (L' := Lw x none none) (st' := []) rfl (decide_eq_true rfl) hE
theorem bk_49 {n : Nat} {M : mM} {x : Int32} {j : Nat} (h : Rl n M) (h0 : Z12 M) (hi : ∀ c : Nat, c ≤ 5 → mIn (x + Int32.ofInt c) (M 233 0).toNatClampNeg = true) (hN : ∀ n' M', Rl n' M' → Z12 M' → kpS M M' → Gd 1667 x M' j) : Gd 1358 x M (j + 1) := by
  obtain ⟨v, M1, M2, hc, hm, n', hr⟩ := Op_soon h
  have cl := c_X11_soon hc
  have cm := c_X12_soon hm
  have z1 : Z12 M1 := cl.z12 (by decide +kernel) (zS0.ref (by decide)) h0
  have kp1 : kpS M M1 := cl.kp
  have z2 : Z12 M2 := cm.z12 (by decide +kernel) (zS0.ref (by decide)) z1
  have hi1 : ∀ c : Nat, c ≤ 5 → mIn (x + Int32.ofInt c) (M1 233 0).toNatClampNeg = true := fun c hc => by rw [kp1.2]; exact hi c hc
  obtain ⟨M', k'', hk'', hE⟩ := hN n' M2 hr z2 (kp1.tr cm.kp)
  refine ⟨M', k'', by omega, ?_⟩
  refine ev_1 kc_372 y1358 rfl (i' := 1359) (L' := Lw x none none) (st' := [.ref 0]) (M1 := M) rfl ?_
  refine ev_cl0 (d := 99) kc_372 y1359 rfl (as := [.ref 0]) (rest := []) rfl rfl (Cs.deep cl (by decide)) ?_
  refine ev_1 kc_372 y1360 rfl (i' := 1361) (L' := Lw x none none) (st' := [.ref 215, .int v]) (M1 := M1) rfl ?_
  refine ev_cl0 (d := 99) kc_372 y1361 rfl (as := [.ref 215]) (rest := [.int v]) rfl rfl (Cs.deep cm (by decide)) ?_
  refine ev_b kc_372 y1362 rfl (c := decide (v = v)) (t := 1667) (e := 1363) (L' := Lw x none none) (st' := []) rfl (decide_eq_true rfl) hE
theorem bk_50 {n : Nat} {M : mM} {x : Int32} {j : Nat} (h : Rl n M) (h0 : Z12 M) (hi : ∀ c : Nat, c ≤ 5 → mIn (x + Int32.ofInt c) (M 233 0).toNatClampNeg = true) (hN : ∀ n' M', Rl n' M' → Z12 M' → kpS M M' → Gd 1667 x M' j) : Gd 1365 x M (j + 1) := by
  obtain ⟨a1, q1⟩ : ∃ a, a = M 232 (ix (x + Int32.ofInt 1)) := ⟨_, rfl⟩
  obtain ⟨a2, q2⟩ : ∃ a, a = M 232 (ix (x + Int32.ofInt 2)) := ⟨_, rfl⟩
  obtain ⟨k, M1, kk, v, M2, n', hl, hkk, hm, hr, hth, hv, r0, M0, hc0, hz⟩ := OpT.L (Op_ahead h (p := a1) (x := a2)) (fl := f_L_ahead a1 a2 M) rfl (fun E M1 => by unfold tAh; cases Nat.beq E 2 <;> cases Nat.beq E 0 <;> first | exact fun _ => rfl | exact fun h => absurd rfl h)
  have cl := c_L_ahead hl
  have cm := c_X12_ahead hm
  have z1 : Z12 M1 := cl.z12 (by decide +kernel) ((((zS0.ref (by decide)).int).int).ref (by decide)) h0
  have z2 : Z12 M2 := cm.z12 (by decide +kernel) (((zS0.int).int).ref (by decide)) z1
  have kp1 : kpS M M1 := cl.kp
  have hi1 : ∀ c : Nat, c ≤ 5 → mIn (x + Int32.ofInt c) (M1 233 0).toNatClampNeg = true := fun c hc => by rw [kp1.2]; exact hi c hc
  obtain ⟨M', k'', hk'', hE⟩ := hN n' M2 hr z2 (kp1.tr cm.kp)
  refine ⟨M', kk + k'', by omega, ?_⟩
  refine ev_1 kc_372 y1365 rfl (i' := 1366) (L' := Lw x none none) (st' := [.ref 0]) (M1 := M) rfl ?_
  refine ev_ar (v := a1) kc_372 y1366 y1367 y1368 y1369 y1370 (hi 1 (by decide)) q1.symm ?_
  refine ev_ar (v := a2) kc_372 y1371 y1372 y1373 y1374 y1375 (hi 2 (by decide)) q2.symm ?_
  refine ev_1 kc_372 y1376 rfl (i' := 1377) (L' := Lw x none none) (st' := [.ref 231, .int a2, .int a1, .ref 0]) (M1 := M) rfl ?_
  refine ev_cl (d := 99) kc_372 y1377 rfl (as := [.ref 0, .int a1, .int a2, .ref 231]) (rest := []) rfl rfl (Cs.deep cl (by decide)) ?_
  refine ev_1 kc_372 y1378 rfl (i' := 1379) (L' := Lw x (some (.int k)) none) (st' := []) (M1 := M1) rfl ?_
  refine ev_1 kc_372 y1379 rfl (i' := 1380) (L' := Lw x (some (.int k)) none) (st' := [.ref 215]) (M1 := M1) rfl ?_
  refine ev_ar (v := a1) kc_372 y1380 y1381 y1382 y1383 y1384 (hi1 1 (by decide)) (by rw [kp1.1]; exact q1.symm) ?_
  refine ev_ar (v := a2) kc_372 y1385 y1386 y1387 y1388 y1389 (hi1 2 (by decide)) (by rw [kp1.1]; exact q2.symm) ?_
  refine ev_cl0 (d := 99) kc_372 y1390 rfl (as := [.ref 215, .int a1, .int a2]) (rest := []) rfl rfl (Cs.deep cm (by decide)) ?_
  refine ev_1 kc_372 y1391 rfl (i' := 1392) (L' := Lw x (some (.int k)) (some (.int v))) (st' := []) (M1 := M2) rfl ?_
  exact ev_tai y1392 y1393 y1394 y1395 y1398 y1399 y1400 y1401 y1402 y1403 y1404 y1405 y1406 y1409 hth hv (Gd.fg hE)
theorem bk_51 {n : Nat} {M : mM} {x : Int32} {j : Nat} (h : Rl n M) (h0 : Z12 M) (hi : ∀ c : Nat, c ≤ 5 → mIn (x + Int32.ofInt c) (M 233 0).toNatClampNeg = true) (hN : ∀ n' M', Rl n' M' → Z12 M' → kpS M M' → Gd 1667 x M' j) : Gd 1410 x M (j + 1) := by
  obtain ⟨a1, q1⟩ : ∃ a, a = M 232 (ix (x + Int32.ofInt 1)) := ⟨_, rfl⟩
  obtain ⟨a2, q2⟩ : ∃ a, a = M 232 (ix (x + Int32.ofInt 2)) := ⟨_, rfl⟩
  obtain ⟨k, M1, kk, v, M2, n', hl, hkk, hm, hr, hth, hv, r0, M0, hc0, hz⟩ := OpT.L (Op_trial h (x := a1) (as := (!decide (a2 = 0)))) (fl := f_L_trial a1 (!decide (a2 = 0)) M) rfl (fun E M1 => by unfold tOne; cases Nat.beq E 0 <;> first | exact fun _ => rfl | exact fun h => absurd rfl h)
  have cl := c_L_trial hl
  have cm := c_X12_trial hm
  have z1 : Z12 M1 := cl.z12 (by decide +kernel) ((((zS0.ref (by decide)).int).int).ref (by decide)) h0
  have z2 : Z12 M2 := cm.z12 (by decide +kernel) (((zS0.int).int).ref (by decide)) z1
  have kp1 : kpS M M1 := cl.kp
  have hi1 : ∀ c : Nat, c ≤ 5 → mIn (x + Int32.ofInt c) (M1 233 0).toNatClampNeg = true := fun c hc => by rw [kp1.2]; exact hi c hc
  obtain ⟨M', k'', hk'', hE⟩ := hN n' M2 hr z2 (kp1.tr cm.kp)
  refine ⟨M', kk + k'', by omega, ?_⟩
  refine ev_1 kc_372 y1410 rfl (i' := 1411) (L' := Lw x none none) (st' := [.ref 0]) (M1 := M) rfl ?_
  refine ev_ar (v := a1) kc_372 y1411 y1412 y1413 y1414 y1415 (hi 1 (by decide)) q1.symm ?_
  refine ev_ar (v := a2) kc_372 y1416 y1417 y1418 y1419 y1420 (hi 2 (by decide)) q2.symm ?_
  refine ev_bo (a0 := 0) kc_372 y1421 y1422 y1423 y1424 ?_
  refine ev_1 kc_372 y1425 rfl (i' := 1426) (L' := Lw x none none) (st' := [.ref 231, .int (mB (!decide (a2 = 0))), .int a1, .ref 0]) (M1 := M) rfl ?_
  refine ev_cl (d := 99) kc_372 y1426 rfl (as := [.ref 0, .int a1, .int (mB (!decide (a2 = 0))), .ref 231]) (rest := []) rfl rfl (Cs.deep cl (by decide)) ?_
  refine ev_1 kc_372 y1427 rfl (i' := 1428) (L' := Lw x (some (.int k)) none) (st' := []) (M1 := M1) rfl ?_
  refine ev_1 kc_372 y1428 rfl (i' := 1429) (L' := Lw x (some (.int k)) none) (st' := [.ref 215]) (M1 := M1) rfl ?_
  refine ev_ar (v := a1) kc_372 y1429 y1430 y1431 y1432 y1433 (hi1 1 (by decide)) (by rw [kp1.1]; exact q1.symm) ?_
  refine ev_ar (v := a2) kc_372 y1434 y1435 y1436 y1437 y1438 (hi1 2 (by decide)) (by rw [kp1.1]; exact q2.symm) ?_
  refine ev_bo (a0 := 0) kc_372 y1439 y1440 y1441 y1442 ?_
  refine ev_cl0 (d := 99) kc_372 y1443 rfl (as := [.ref 215, .int a1, .int (mB (!decide (a2 = 0)))]) (rest := []) rfl rfl (Cs.deep cm (by decide)) ?_
  refine ev_1 kc_372 y1444 rfl (i' := 1445) (L' := Lw x (some (.int k)) (some (.int v))) (st' := []) (M1 := M2) rfl ?_
  exact ev_tai y1445 y1446 y1447 y1448 y1451 y1452 y1453 y1454 y1455 y1456 y1457 y1458 y1459 y1462 hth hv (Gd.fg hE)
theorem bk_52 {n : Nat} {M : mM} {x : Int32} {j : Nat} (h : Rl n M) (h0 : Z12 M) (hi : ∀ c : Nat, c ≤ 5 → mIn (x + Int32.ofInt c) (M 233 0).toNatClampNeg = true) (hN : ∀ n' M', Rl n' M' → Z12 M' → kpS M M' → Gd 1667 x M' j) : Gd 1463 x M (j + 1) := by
  obtain ⟨a1, q1⟩ : ∃ a, a = M 232 (ix (x + Int32.ofInt 1)) := ⟨_, rfl⟩
  obtain ⟨a2, q2⟩ : ∃ a, a = M 232 (ix (x + Int32.ofInt 2)) := ⟨_, rfl⟩
  obtain ⟨k, M1, kk, v, M2, n', hl, hkk, hm, hr, hth, hv, r0, M0, hc0, hz⟩ := OpT.L (Op_span h (x := a1) (most := (!decide (a2 = 0)))) (fl := f_L_span a1 (!decide (a2 = 0)) M) rfl (fun E M1 => by unfold tOne; cases Nat.beq E 0 <;> first | exact fun _ => rfl | exact fun h => absurd rfl h)
  have cl := c_L_span hl
  have cm := c_X12_span hm
  have z1 : Z12 M1 := cl.z12 (by decide +kernel) ((((zS0.ref (by decide)).int).int).ref (by decide)) h0
  have z2 : Z12 M2 := cm.z12 (by decide +kernel) (((zS0.int).int).ref (by decide)) z1
  have kp1 : kpS M M1 := cl.kp
  have hi1 : ∀ c : Nat, c ≤ 5 → mIn (x + Int32.ofInt c) (M1 233 0).toNatClampNeg = true := fun c hc => by rw [kp1.2]; exact hi c hc
  obtain ⟨M', k'', hk'', hE⟩ := hN n' M2 hr z2 (kp1.tr cm.kp)
  refine ⟨M', kk + k'', by omega, ?_⟩
  refine ev_1 kc_372 y1463 rfl (i' := 1464) (L' := Lw x none none) (st' := [.ref 0]) (M1 := M) rfl ?_
  refine ev_ar (v := a1) kc_372 y1464 y1465 y1466 y1467 y1468 (hi 1 (by decide)) q1.symm ?_
  refine ev_ar (v := a2) kc_372 y1469 y1470 y1471 y1472 y1473 (hi 2 (by decide)) q2.symm ?_
  refine ev_bo (a0 := 0) kc_372 y1474 y1475 y1476 y1477 ?_
  refine ev_1 kc_372 y1478 rfl (i' := 1479) (L' := Lw x none none) (st' := [.ref 231, .int (mB (!decide (a2 = 0))), .int a1, .ref 0]) (M1 := M) rfl ?_
  refine ev_cl (d := 99) kc_372 y1479 rfl (as := [.ref 0, .int a1, .int (mB (!decide (a2 = 0))), .ref 231]) (rest := []) rfl rfl (Cs.deep cl (by decide)) ?_
  refine ev_1 kc_372 y1480 rfl (i' := 1481) (L' := Lw x (some (.int k)) none) (st' := []) (M1 := M1) rfl ?_
  refine ev_1 kc_372 y1481 rfl (i' := 1482) (L' := Lw x (some (.int k)) none) (st' := [.ref 215]) (M1 := M1) rfl ?_
  refine ev_ar (v := a1) kc_372 y1482 y1483 y1484 y1485 y1486 (hi1 1 (by decide)) (by rw [kp1.1]; exact q1.symm) ?_
  refine ev_ar (v := a2) kc_372 y1487 y1488 y1489 y1490 y1491 (hi1 2 (by decide)) (by rw [kp1.1]; exact q2.symm) ?_
  refine ev_bo (a0 := 0) kc_372 y1492 y1493 y1494 y1495 ?_
  refine ev_cl0 (d := 99) kc_372 y1496 rfl (as := [.ref 215, .int a1, .int (mB (!decide (a2 = 0)))]) (rest := []) rfl rfl (Cs.deep cm (by decide)) ?_
  refine ev_1 kc_372 y1497 rfl (i' := 1498) (L' := Lw x (some (.int k)) (some (.int v))) (st' := []) (M1 := M2) rfl ?_
  exact ev_tai y1498 y1499 y1500 y1501 y1504 y1505 y1506 y1507 y1508 y1509 y1510 y1511 y1512 y1515 hth hv (Gd.fg hE)
theorem bk_53 {n : Nat} {M : mM} {x : Int32} {j : Nat} (h : Rl n M) (h0 : Z12 M) (hi : ∀ c : Nat, c ≤ 5 → mIn (x + Int32.ofInt c) (M 233 0).toNatClampNeg = true) (hN : ∀ n' M', Rl n' M' → Z12 M' → kpS M M' → Gd 1667 x M' j) : Gd 1516 x M (j + 1) := by
  obtain ⟨a1, q1⟩ : ∃ a, a = M 232 (ix (x + Int32.ofInt 1)) := ⟨_, rfl⟩
  obtain ⟨a2, q2⟩ : ∃ a, a = M 232 (ix (x + Int32.ofInt 2)) := ⟨_, rfl⟩
  obtain ⟨k, M1, kk, v, M2, n', hl, hkk, hm, hr, hth, hv, r0, M0, hc0, hz⟩ := OpT.L (Op_led h (p := a1) (d := (!decide (a2 = 0)))) (fl := f_L_led a1 (!decide (a2 = 0)) M) rfl (fun E M1 => by unfold tTwo; cases Nat.beq E 2 <;> first | exact fun _ => rfl | exact fun h => absurd rfl h)
  have cl := c_L_led hl
  have cm := c_X12_led hm
  have z1 : Z12 M1 := cl.z12 (by decide +kernel) ((((zS0.ref (by decide)).int).int).ref (by decide)) h0
  have z2 : Z12 M2 := cm.z12 (by decide +kernel) (((zS0.int).int).ref (by decide)) z1
  have kp1 : kpS M M1 := cl.kp
  have hi1 : ∀ c : Nat, c ≤ 5 → mIn (x + Int32.ofInt c) (M1 233 0).toNatClampNeg = true := fun c hc => by rw [kp1.2]; exact hi c hc
  obtain ⟨M', k'', hk'', hE⟩ := hN n' M2 hr z2 (kp1.tr cm.kp)
  refine ⟨M', kk + k'', by omega, ?_⟩
  refine ev_1 kc_372 y1516 rfl (i' := 1517) (L' := Lw x none none) (st' := [.ref 0]) (M1 := M) rfl ?_
  refine ev_ar (v := a1) kc_372 y1517 y1518 y1519 y1520 y1521 (hi 1 (by decide)) q1.symm ?_
  refine ev_ar (v := a2) kc_372 y1522 y1523 y1524 y1525 y1526 (hi 2 (by decide)) q2.symm ?_
  refine ev_bo (a0 := 0) kc_372 y1527 y1528 y1529 y1530 ?_
  refine ev_1 kc_372 y1531 rfl (i' := 1532) (L' := Lw x none none) (st' := [.ref 231, .int (mB (!decide (a2 = 0))), .int a1, .ref 0]) (M1 := M) rfl ?_
  refine ev_cl (d := 99) kc_372 y1532 rfl (as := [.ref 0, .int a1, .int (mB (!decide (a2 = 0))), .ref 231]) (rest := []) rfl rfl (Cs.deep cl (by decide)) ?_
  refine ev_1 kc_372 y1533 rfl (i' := 1534) (L' := Lw x (some (.int k)) none) (st' := []) (M1 := M1) rfl ?_
  refine ev_1 kc_372 y1534 rfl (i' := 1535) (L' := Lw x (some (.int k)) none) (st' := [.ref 215]) (M1 := M1) rfl ?_
  refine ev_ar (v := a1) kc_372 y1535 y1536 y1537 y1538 y1539 (hi1 1 (by decide)) (by rw [kp1.1]; exact q1.symm) ?_
  refine ev_ar (v := a2) kc_372 y1540 y1541 y1542 y1543 y1544 (hi1 2 (by decide)) (by rw [kp1.1]; exact q2.symm) ?_
  refine ev_bo (a0 := 0) kc_372 y1545 y1546 y1547 y1548 ?_
  refine ev_cl0 (d := 99) kc_372 y1549 rfl (as := [.ref 215, .int a1, .int (mB (!decide (a2 = 0)))]) (rest := []) rfl rfl (Cs.deep cm (by decide)) ?_
  refine ev_1 kc_372 y1550 rfl (i' := 1551) (L' := Lw x (some (.int k)) (some (.int v))) (st' := []) (M1 := M2) rfl ?_
  exact ev_tai y1551 y1552 y1553 y1554 y1557 y1558 y1559 y1560 y1561 y1562 y1563 y1564 y1565 y1568 hth hv (Gd.fg hE)
theorem bk_54 {n : Nat} {M : mM} {x : Int32} {j : Nat} (h : Rl n M) (h0 : Z12 M) (hi : ∀ c : Nat, c ≤ 5 → mIn (x + Int32.ofInt c) (M 233 0).toNatClampNeg = true) (hN : ∀ n' M', Rl n' M' → Z12 M' → kpS M M' → Gd 1667 x M' j) : Gd 1569 x M (j + 1) := by
  obtain ⟨a1, q1⟩ : ∃ a, a = M 232 (ix (x + Int32.ofInt 1)) := ⟨_, rfl⟩
  obtain ⟨a2, q2⟩ : ∃ a, a = M 232 (ix (x + Int32.ofInt 2)) := ⟨_, rfl⟩
  obtain ⟨k, M1, kk, v, M2, n', hl, hkk, hm, hr, hth, hv, r0, M0, hc0, hz⟩ := OpT.L (Op_log h (i := a1) (w := a2)) (fl := f_L_log a1 a2 M) rfl (fun E M1 => by unfold tThr; cases Nat.beq E 3 <;> first | exact fun _ => rfl | exact fun h => absurd rfl h)
  have cl := c_L_log hl
  have cm := c_X12_log hm
  have z1 : Z12 M1 := cl.z12 (by decide +kernel) ((((zS0.ref (by decide)).int).int).ref (by decide)) h0
  have z2 : Z12 M2 := cm.z12 (by decide +kernel) (((zS0.int).int).ref (by decide)) z1
  have kp1 : kpS M M1 := cl.kp
  have hi1 : ∀ c : Nat, c ≤ 5 → mIn (x + Int32.ofInt c) (M1 233 0).toNatClampNeg = true := fun c hc => by rw [kp1.2]; exact hi c hc
  obtain ⟨M', k'', hk'', hE⟩ := hN n' M2 hr z2 (kp1.tr cm.kp)
  refine ⟨M', kk + k'', by omega, ?_⟩
  refine ev_1 kc_372 y1569 rfl (i' := 1570) (L' := Lw x none none) (st' := [.ref 0]) (M1 := M) rfl ?_
  refine ev_ar (v := a1) kc_372 y1570 y1571 y1572 y1573 y1574 (hi 1 (by decide)) q1.symm ?_
  refine ev_ar (v := a2) kc_372 y1575 y1576 y1577 y1578 y1579 (hi 2 (by decide)) q2.symm ?_
  refine ev_1 kc_372 y1580 rfl (i' := 1581) (L' := Lw x none none) (st' := [.ref 231, .int a2, .int a1, .ref 0]) (M1 := M) rfl ?_
  refine ev_cl (d := 99) kc_372 y1581 rfl (as := [.ref 0, .int a1, .int a2, .ref 231]) (rest := []) rfl rfl (Cs.deep cl (by decide)) ?_
  refine ev_1 kc_372 y1582 rfl (i' := 1583) (L' := Lw x (some (.int k)) none) (st' := []) (M1 := M1) rfl ?_
  refine ev_1 kc_372 y1583 rfl (i' := 1584) (L' := Lw x (some (.int k)) none) (st' := [.ref 215]) (M1 := M1) rfl ?_
  refine ev_ar (v := a1) kc_372 y1584 y1585 y1586 y1587 y1588 (hi1 1 (by decide)) (by rw [kp1.1]; exact q1.symm) ?_
  refine ev_ar (v := a2) kc_372 y1589 y1590 y1591 y1592 y1593 (hi1 2 (by decide)) (by rw [kp1.1]; exact q2.symm) ?_
  refine ev_cl0 (d := 99) kc_372 y1594 rfl (as := [.ref 215, .int a1, .int a2]) (rest := []) rfl rfl (Cs.deep cm (by decide)) ?_
  refine ev_1 kc_372 y1595 rfl (i' := 1596) (L' := Lw x (some (.int k)) (some (.int v))) (st' := []) (M1 := M2) rfl ?_
  exact ev_tai y1596 y1597 y1598 y1599 y1602 y1603 y1604 y1605 y1606 y1607 y1608 y1609 y1610 y1613 hth hv (Gd.fg hE)
theorem bk_55 {n : Nat} {M : mM} {x : Int32} {j : Nat} (h : Rl n M) (h0 : Z12 M) (hi : ∀ c : Nat, c ≤ 5 → mIn (x + Int32.ofInt c) (M 233 0).toNatClampNeg = true) (hN : ∀ n' M', Rl n' M' → Z12 M' → kpS M M' → Gd 1667 x M' j) : Gd 1614 x M (j + 1) := by
  obtain ⟨a1, q1⟩ : ∃ a, a = M 232 (ix (x + Int32.ofInt 1)) := ⟨_, rfl⟩
  obtain ⟨v, M1, M2, hc, hm, n', hr⟩ := Op_seed h (v := a1)
  have cl := c_X11_seed hc
  have cm := c_X12_seed hm
  have z1 : Z12 M1 := cl.z12 (by decide +kernel) ((zS0.int).ref (by decide)) h0
  have kp1 : kpS M M1 := cl.kp
  have z2 : Z12 M2 := cm.z12 (by decide +kernel) ((zS0.int).ref (by decide)) z1
  have hi1 : ∀ c : Nat, c ≤ 5 → mIn (x + Int32.ofInt c) (M1 233 0).toNatClampNeg = true := fun c hc => by rw [kp1.2]; exact hi c hc
  obtain ⟨M', k'', hk'', hE⟩ := hN n' M2 hr z2 (kp1.tr cm.kp)
  refine ⟨M', k'', by omega, ?_⟩
  refine ev_1 kc_372 y1614 rfl (i' := 1615) (L' := Lw x none none) (st' := [.ref 0]) (M1 := M) rfl ?_
  refine ev_ar (v := a1) kc_372 y1615 y1616 y1617 y1618 y1619 (hi 1 (by decide)) q1.symm ?_
  refine ev_cl0 (d := 99) kc_372 y1620 rfl (as := [.ref 0, .int a1]) (rest := []) rfl rfl (Cs.deep cl (by decide)) ?_
  refine ev_1 kc_372 y1621 rfl (i' := 1622) (L' := Lw x none none) (st' := [.ref 215, .int v]) (M1 := M1) rfl ?_
  refine ev_ar (v := a1) kc_372 y1622 y1623 y1624 y1625 y1626 (hi1 1 (by decide)) (by rw [kp1.1]; exact q1.symm) ?_
  refine ev_cl0 (d := 99) kc_372 y1627 rfl (as := [.ref 215, .int a1]) (rest := [.int v]) rfl rfl (Cs.deep cm (by decide)) ?_
  refine ev_b kc_372 y1628 rfl (c := decide (v = v)) (t := 1667) (e := 1629) (L' := Lw x none none) (st' := []) rfl (decide_eq_true rfl) hE
theorem bk_56 {n : Nat} {M : mM} {x : Int32} {j : Nat} (h : Rl n M) (h0 : Z12 M) (hi : ∀ c : Nat, c ≤ 5 → mIn (x + Int32.ofInt c) (M 233 0).toNatClampNeg = true) (hN : ∀ n' M', Rl n' M' → Z12 M' → kpS M M' → Gd 1667 x M' j) : Gd 1631 x M (j + 1) := by
  obtain ⟨v, M1, M2, hc, hm, n', hr⟩ := Op_undo h
  have cl := c_X11_undo hc
  have cm := c_X12_undo hm
  have z1 : Z12 M1 := cl.z12 (by decide +kernel) (zS0.ref (by decide)) h0
  have kp1 : kpS M M1 := cl.kp
  have z2 : Z12 M2 := cm.z12 (by decide +kernel) (zS0.ref (by decide)) z1
  have hi1 : ∀ c : Nat, c ≤ 5 → mIn (x + Int32.ofInt c) (M1 233 0).toNatClampNeg = true := fun c hc => by rw [kp1.2]; exact hi c hc
  obtain ⟨M', k'', hk'', hE⟩ := hN n' M2 hr z2 (kp1.tr cm.kp)
  refine ⟨M', k'', by omega, ?_⟩
  refine ev_1 kc_372 y1631 rfl (i' := 1632) (L' := Lw x none none) (st' := [.ref 0]) (M1 := M) rfl ?_
  refine ev_cl0 (d := 99) kc_372 y1632 rfl (as := [.ref 0]) (rest := []) rfl rfl (Cs.deep cl (by decide)) ?_
  refine ev_1 kc_372 y1633 rfl (i' := 1634) (L' := Lw x none none) (st' := [.ref 215, .int (mB v)]) (M1 := M1) rfl ?_
  refine ev_cl0 (d := 99) kc_372 y1634 rfl (as := [.ref 215]) (rest := [.int (mB v)]) rfl rfl (Cs.deep cm (by decide)) ?_
  refine ev_b kc_372 y1635 rfl (c := decide (mB v = mB v)) (t := 1667) (e := 1636) (L' := Lw x none none) (st' := []) rfl (decide_eq_true rfl) hE
theorem bk_57 {n : Nat} {M : mM} {x : Int32} {j : Nat} (h : Rl n M) (h0 : Z12 M) (hi : ∀ c : Nat, c ≤ 5 → mIn (x + Int32.ofInt c) (M 233 0).toNatClampNeg = true) (hN : ∀ n' M', Rl n' M' → Z12 M' → kpS M M' → Gd 1667 x M' j) : Gd 1638 x M (j + 1) := by
  obtain ⟨v, M1, M2, hc, hm, n', hr⟩ := Op_image h
  have cl := c_X11_image hc
  have cm := c_X12_image hm
  have z1 : Z12 M1 := cl.z12 (by decide +kernel) (zS0.ref (by decide)) h0
  have kp1 : kpS M M1 := cl.kp
  have z2 : Z12 M2 := cm.z12 (by decide +kernel) (zS0.ref (by decide)) z1
  have hi1 : ∀ c : Nat, c ≤ 5 → mIn (x + Int32.ofInt c) (M1 233 0).toNatClampNeg = true := fun c hc => by rw [kp1.2]; exact hi c hc
  obtain ⟨M', k'', hk'', hE⟩ := hN n' M2 hr z2 (kp1.tr cm.kp)
  refine ⟨M', k'', by omega, ?_⟩
  refine ev_1 kc_372 y1638 rfl (i' := 1639) (L' := Lw x none none) (st' := [.ref 0]) (M1 := M) rfl ?_
  refine ev_cl0 (d := 99) kc_372 y1639 rfl (as := [.ref 0]) (rest := []) rfl rfl (Cs.deep cl (by decide)) ?_
  refine ev_1 kc_372 y1640 rfl (i' := 1641) (L' := Lw x none none) (st' := [.ref 215]) (M1 := M1) rfl ?_
  refine ev_cl0 (d := 99) kc_372 y1641 rfl (as := [.ref 215]) (rest := []) rfl rfl (Cs.deep cm (by decide)) ?_
  exact ev_1 kc_372 y1642 rfl (i' := 1667) (L' := Lw x none none) (st' := []) (M1 := M2) rfl hE
theorem bk_58 {n : Nat} {M : mM} {x : Int32} {j : Nat} (h : Rl n M) (h0 : Z12 M) (hi : ∀ c : Nat, c ≤ 5 → mIn (x + Int32.ofInt c) (M 233 0).toNatClampNeg = true) (hN : ∀ n' M', Rl n' M' → Z12 M' → kpS M M' → Gd 1667 x M' j) : Gd 1643 x M (j + 1) := by
  obtain ⟨v, M1, M2, hc, hm, n', hr⟩ := Op_back h
  have cl := c_X11_back hc
  have cm := c_X12_back hm
  have z1 : Z12 M1 := cl.z12 (by decide +kernel) (zS0.ref (by decide)) h0
  have kp1 : kpS M M1 := cl.kp
  have z2 : Z12 M2 := cm.z12 (by decide +kernel) (zS0.ref (by decide)) z1
  have hi1 : ∀ c : Nat, c ≤ 5 → mIn (x + Int32.ofInt c) (M1 233 0).toNatClampNeg = true := fun c hc => by rw [kp1.2]; exact hi c hc
  obtain ⟨M', k'', hk'', hE⟩ := hN n' M2 hr z2 (kp1.tr cm.kp)
  refine ⟨M', k'', by omega, ?_⟩
  refine ev_1 kc_372 y1643 rfl (i' := 1644) (L' := Lw x none none) (st' := [.ref 0]) (M1 := M) rfl ?_
  refine ev_cl0 (d := 99) kc_372 y1644 rfl (as := [.ref 0]) (rest := []) rfl rfl (Cs.deep cl (by decide)) ?_
  refine ev_1 kc_372 y1645 rfl (i' := 1646) (L' := Lw x none none) (st' := [.ref 215, .int (mB v)]) (M1 := M1) rfl ?_
  refine ev_cl0 (d := 99) kc_372 y1646 rfl (as := [.ref 215]) (rest := [.int (mB v)]) rfl rfl (Cs.deep cm (by decide)) ?_
  refine ev_b kc_372 y1647 rfl (c := decide (mB v = mB v)) (t := 1667) (e := 1648) (L' := Lw x none none) (st' := []) rfl (decide_eq_true rfl) hE
theorem bk_59 {n : Nat} {M : mM} {x : Int32} {j : Nat} (h : Rl n M) (h0 : Z12 M) (hi : ∀ c : Nat, c ≤ 5 → mIn (x + Int32.ofInt c) (M 233 0).toNatClampNeg = true) (hN : ∀ n' M', Rl n' M' → Z12 M' → kpS M M' → Gd 1667 x M' j) : Gd 1650 x M (j + 1) := by
  obtain ⟨a1, q1⟩ : ∃ a, a = M 232 (ix (x + Int32.ofInt 1)) := ⟨_, rfl⟩
  obtain ⟨v, M2, hc, hm, n', hr⟩ := Op_count h (p := a1)
  have cl := c_X11_count hc
  have cm := c_X12_count hm
  have z1 : Z12 M := h0
  have kp1 : kpS M M := ⟨rfl, rfl⟩
  have z2 : Z12 M2 := cm.z12 (by decide +kernel) ((zS0.int).ref (by decide)) z1
  have hi1 : ∀ c : Nat, c ≤ 5 → mIn (x + Int32.ofInt c) (M 233 0).toNatClampNeg = true := fun c hc => by rw [kp1.2]; exact hi c hc
  obtain ⟨M', k'', hk'', hE⟩ := hN n' M2 hr z2 (kp1.tr cm.kp)
  refine ⟨M', k'', by omega, ?_⟩
  refine ev_1 kc_372 y1650 rfl (i' := 1651) (L' := Lw x none none) (st' := [.ref 0]) (M1 := M) rfl ?_
  refine ev_ar (v := a1) kc_372 y1651 y1652 y1653 y1654 y1655 (hi 1 (by decide)) q1.symm ?_
  refine ev_cl0 (d := 99) kc_372 y1656 rfl (as := [.ref 0, .int a1]) (rest := []) rfl rfl (Cs.deep cl (by decide)) ?_
  refine ev_1 kc_372 y1657 rfl (i' := 1658) (L' := Lw x none none) (st' := [.ref 215, .int v]) (M1 := M) rfl ?_
  refine ev_ar (v := a1) kc_372 y1658 y1659 y1660 y1661 y1662 (hi1 1 (by decide)) (by rw [kp1.1]; exact q1.symm) ?_
  refine ev_cl0 (d := 99) kc_372 y1663 rfl (as := [.ref 215, .int a1]) (rest := [.int v]) rfl rfl (Cs.deep cm (by decide)) ?_
  refine ev_b kc_372 y1664 rfl (c := decide (v = v)) (t := 1667) (e := 1665) (L' := Lw x none none) (st' := []) rfl (decide_eq_true rfl) hE
