/-! the script's rows: no method writes them; what follows the 60 kinds of call -/
section
variable {i t k o : Nat} {L : List (Option Value)} {st : List Value} {M : mM} {q : mS}
theorem w_as (h : mAs i L k st M = some q) : q.2.2.2 = M := by
  unfold mAs at h; (repeat' split at h) <;> first | (cases h; rfl) | cases h
theorem w_il (h : mIl i L k st M = some q) : q.2.2.2 = M := by
  unfold mIl at h; (repeat' split at h) <;> first | (cases h; rfl) | cases h
theorem w_al (h : mAl i L k st M = some q) : q.2.2.2 = M := by
  unfold mAl at h; (repeat' split at h) <;> first | (cases h; rfl) | cases h
theorem w_ii {n : Int} (h : mIi i L k n st M = some q) : q.2.2.2 = M := by
  unfold mIi at h; (repeat' split at h) <;> first | (cases h; rfl) | cases h
theorem w_b2 {f : Int32 → Int32 → Int32} (h : mB2 f i L st M = some q) : q.2.2.2 = M := by
  unfold mB2 at h; (repeat' split at h) <;> first | (cases h; rfl) | cases h
theorem w_dv {f : Int32 → Int32 → Int32} (h : mDv f i L st M = some q) : q.2.2.2 = M := by
  unfold mDv at h; (repeat' split at h) <;> first | (cases h; rfl) | cases h
theorem w_u1 {f : Int32 → Int32} (h : mU1 f i L st M = some q) : q.2.2.2 = M := by
  unfold mU1 at h; (repeat' split at h) <;> first | (cases h; rfl) | cases h
theorem w_if {c : Int32 → Bool} (h : mIf c i t L st M = some q) : q.2.2.2 = M := by
  unfold mIf at h; (repeat' split at h) <;> first | (cases h; rfl) | cases h
theorem w_ic {c : Int32 → Int32 → Bool} (h : mIc c i t L st M = some q) : q.2.2.2 = M := by
  unfold mIc at h; (repeat' split at h) <;> first | (cases h; rfl) | cases h
theorem w_gf {c k : Nat} (h : mGf c k i L st M = some q) : q.2.2.2 = M := by
  unfold mGf at h; (repeat' split at h) <;> first | (cases h; rfl) | cases h
theorem w_lda {K : Nat} (h : mLda K i L st M = some q) : q.2.2.2 = M := by
  unfold mLda at h; (repeat' split at h) <;> first | (cases h; rfl) | cases h
theorem w_lds (h : mLds i L st M = some q) : q.2.2.2 = M := by
  unfold mLds at h; (repeat' split at h) <;> first | (cases h; rfl) | exact w_lda h | cases h
theorem w_ldb (h : mLdb i L st M = some q) : q.2.2.2 = M := by
  unfold mLdb at h; (repeat' split at h) <;> first | exact w_lda h | cases h
theorem w_ldl (h : mLdl i L st M = some q) : q.2.2.2 = M := by
  unfold mLdl at h; (repeat' split at h) <;> first | (cases h; rfl) | cases h
theorem w_ldt (h : mLdt i L st M = some q) : q.2.2.2 = M := by
  unfold mLdt at h; (repeat' split at h) <;> first | (cases h; rfl) | cases h
theorem w_al2 (h : mAl2 i L st M = some q) : q.2.2.2 = M := by
  unfold mAl2 at h; (repeat' split at h) <;> first | (cases h; rfl) | cases h
theorem w_swi {lo hi : Int} {n : Nat} (h : mSwi lo hi n i L st M = some q) : q.2.2.2 = M := by
  unfold mSwi at h; (repeat' split at h) <;> first | (cases h; rfl) | cases h
theorem w_ist (h : mIst i L k st M = some q) : q.2.2.2 = M := by
  unfold mIst at h; (repeat' split at h) <;> first | exact w_as h | cases h
theorem w_asr (h : mAsr i L k st M = some q) : q.2.2.2 = M := by
  unfold mAsr at h; (repeat' split at h) <;> first | exact w_as h | cases h
theorem w_i2l (h : mI2l i L st M = some q) : q.2.2.2 = M := by
  unfold mI2l at h; (repeat' split at h) <;> first | (cases h; rfl) | cases h
theorem w_lcm (h : mLcm i L st M = some q) : q.2.2.2 = M := by
  unfold mLcm at h; (repeat' split at h) <;> first | (cases h; rfl) | cases h
theorem w_dup (h : mDup i L st M = some q) : q.2.2.2 = M := by
  unfold mDup at h; (repeat' split at h) <;> first | (cases h; rfl) | cases h
theorem w_dup2 (h : mDup2 i L st M = some q) : q.2.2.2 = M := by
  unfold mDup2 at h; (repeat' split at h) <;> first | (cases h; rfl) | cases h
theorem w_pop (h : mPop i L st M = some q) : q.2.2.2 = M := by
  unfold mPop at h; (repeat' split at h) <;> first | (cases h; rfl) | cases h
theorem w_ifn {a b : Nat} (h : mIfn a b L st M = some q) : q.2.2.2 = M := by
  unfold mIfn at h; (repeat' split at h) <;> first | (cases h; rfl) | cases h
theorem w_pf {c k : Nat} (ho : 15 ≤ (mSh o).1) (h : mPf c k i L st M = some q) : q.2.2.2 o = M o := by
  unfold mPf at h
  split at h
  · rename_i x z r
    split at h
    · rename_i hc
      have hne : o ≠ z := fun e => by subst e; omega
      split at h
      · split at h
        · split at h
          · cases h; exact mst_no hne
          · cases h
        · cases h; exact mst_no hne
      · cases h
    · cases h
  · cases h
theorem w_sta {K : Nat} {f : Int32 → Int32} (hK : K < 15) (ho : 15 ≤ (mSh o).1) (h : mSta K f i L st M = some q) : q.2.2.2 o = M o := by
  unfold mSta at h
  split at h
  · rename_i v x z r
    split at h
    · rename_i hc
      have hne : o ≠ z := fun e => by subst e; omega
      cases h; exact mst_no hne
    · cases h
  · cases h
theorem w_stb (ho : 15 ≤ (mSh o).1) (h : mStb i L st M = some q) : q.2.2.2 o = M o := by
  unfold mStb at h
  split at h
  · split at h
    · exact w_sta (by decide) ho h
    · exact w_sta (by decide) ho h
  · cases h
theorem w_stl (ho : 15 ≤ (mSh o).1) (h : mStl i L st M = some q) : q.2.2.2 o = M o := by
  unfold mStl at h
  split at h
  · rename_i v x z r
    split at h
    · rename_i hc
      have hne : o ≠ z := fun e => by subst e; omega
      cases h; exact mst_no hne
    · cases h
  · cases h
theorem w_step {en : mE} (ho : 15 ≤ (mSh o).1) (h : mstep en i L st M = some q) : q.2.2.2 o = M o := by
  obtain ⟨ins, pc, ln, a, b, w⟩ := en
  unfold mstep at h
  dsimp only at h
  split at h
  all_goals first
    | exact congrFun (w_b2 h) o
    | exact congrFun (w_if h) o
    | exact congrFun (w_ic h) o
    | exact congrFun (w_il h) o
    | exact congrFun (w_al h) o
    | exact congrFun (w_ist h) o
    | exact congrFun (w_asr h) o
    | exact congrFun (w_ii h) o
    | exact congrFun (w_dv h) o
    | exact congrFun (w_u1 h) o
    | exact congrFun (w_i2l h) o
    | exact congrFun (w_lcm h) o
    | exact congrFun (w_dup h) o
    | exact congrFun (w_dup2 h) o
    | exact congrFun (w_pop h) o
    | exact congrFun (w_ifn h) o
    | exact congrFun (w_swi h) o
    | exact congrFun (w_gf h) o
    | exact w_pf ho h
    | exact congrFun (w_lds h) o
    | exact congrFun (w_ldb h) o
    | exact congrFun (w_ldl h) o
    | exact congrFun (w_ldt h) o
    | exact w_sta (by decide) ho h
    | exact w_stb ho h
    | exact w_stl ho h
    | exact congrFun (w_al2 h) o
    | (cases h; rfl)
    | (split at h <;> (cases h; rfl))
    | cases h
end
theorem w_prim {a o : Nat} {args : List Value} {M M1 : mM} {v : Option Int32} (ho : 15 ≤ (mSh o).1) (h : mPrim a args M = some (v, M1)) : M1 o = M o := by
  unfold mPrim at h
  split at h
  · unfold mP1 at h; split at h <;> cases h; rfl
  · unfold mP2 at h; split at h <;> cases h; rfl
  · unfold mP3 at h
    split at h
    · split at h
      · rename_i hc
        cases h
        exact if_neg fun e => by rw [e] at ho; omega
      · cases h
    · cases h
  · unfold mP4 at h
    split at h
    · split at h
      · split at h <;> cases h; rfl
      · cases h
    · cases h
  · unfold mP5 at h
    split at h
    · split at h
      · split at h
        · split at h <;> cases h; rfl
        · cases h
      · cases h
    · cases h
  · cases h
theorem fr15 {o : Nat} (ho : 15 ≤ (mSh o).1) : ∀ (n d y i : Nat) (L : List (Option Value)) (st : List Value) (M : mM) (r : (Option Int32 ⊕ Nat) × mM × Nat), mx n d y i L st M = some r → r.2.1 o = M o := by
  intro n
  induction n with
  | zero => intro d y i L st M r h; cases h
  | succ n ih =>
    intro d y i L st M r h
    obtain ⟨ins, pc, ln, a, b, w, he, h⟩ := mx_cases h
    rcases h with ⟨hk, q, h1, h2⟩ | ⟨hk, x, rfl, hx, rfl⟩ | ⟨hk, hkr, rfl, rfl⟩ | ⟨hk, hd8, hV, ha5, hem, rfl⟩ | ⟨hk, ha, hd8, hpn, hV, v, M1, h1, h2⟩ | ⟨hk, ha, d0, rfl, hna, hnl, hrec, hal, hV, h2⟩
    · rw [ih _ _ _ _ _ _ _ h2, w_step ho h1]
    · rfl
    · rfl
    · rfl
    · rw [ih _ _ _ _ _ _ _ h2, w_prim ho h1]
    · rcases mRet_cases h2 with ⟨v, M1, k1, o1, M2, k2, e1, e2, rfl⟩ | ⟨E, M1, k1, e1, hb1, hcat, rfl⟩ | ⟨E, M1, k1, hh, z, o1, M2, k2, e1, hb1, hcat, hz, hzl, e2, rfl⟩
      · exact (ih _ _ _ _ _ _ _ e2).trans (ih _ _ _ _ _ _ _ e1)
      · exact ih _ _ _ _ _ _ _ e1
      · exact (ih _ _ _ _ _ _ _ e2).trans (ih _ _ _ _ _ _ _ e1)
/-- fr15 under a name that Cs.fr15 does not hide -/
def fr15_a := @fr15
theorem Cs.fr15 {d y o : Nat} {as : List Value} {M : mM} {r : (Option Int32 ⊕ Nat) × mM × Nat} (h : Cs d y as M r) (ho : 15 ≤ (mSh o).1) : r.2.1 o = M o := by
  obtain ⟨n, h⟩ := h
  exact fr15_a ho _ _ _ _ _ _ _ _ h
/-! what is kept along the law's loop -/
def Z12 (M : mM) : Prop := ∀ t, t < 256 → M 12 t = 0
/-- what each call keeps besides -/
def kpS (M M' : mM) : Prop := M' 232 = M 232 ∧ M' 233 = M 233
theorem kpS.tr {A B C : mM} (h : kpS A B) (h' : kpS B C) : kpS A C := ⟨h'.1.trans h.1, h'.2.trans h.2⟩
theorem Cs.kp {d y : Nat} {as : List Value} {M : mM} {r : (Option Int32 ⊕ Nat) × mM × Nat} (h : Cs d y as M r) : kpS M r.2.1 := ⟨h.fr15 (by decide), h.fr15 (by decide)⟩
theorem Cs.z12 {d y : Nat} {as : List Value} {M : mM} {r : (Option Int32 ⊕ Nat) × mM × Nat} (h : Cs d y as M r) (hy : s12 y = true) (hS : zS as) (h0 : Z12 M) : Z12 r.2.1 := fun t ht => by rw [h.fr12 hy hS]; exact h0 t ht
theorem OpT.L {M : mM} {fc : mM → Option ((Int32 ⊕ Nat) × mM)} {fm : mM → Option (Int32 × mM)} {t : Nat → Int32} {fl : Option (Int32 × mM × Nat)} {hd : Nat → mM → Option (Int32 × mM × Nat)} (ho : OpT M fc fm t) (hl : fl = th (fc M) (fun v1 M1 => wr (mst M1 231 (ix (0 : Int32)) v1) (fun M2 => some ((0 : Int32), M2, 0))) hd) (hH : ∀ E M1, t E ≠ 0 → hd E M1 = some (t E, M1, 1)) : ∃ k M1 kk v M2 n', fl = some (k, M1, kk) ∧ kk ≤ 1 ∧ fm M1 = some (v, M2) ∧ Rl n' M2 ∧ M2 215 0 = k ∧ (k = 0 → M2 231 0 = v) ∧ ∃ r M0, fc M = some (r, M0) ∧ M1 12 = M0 12 := by
  obtain ⟨r, M1, hc, hm⟩ := ho
  rw [hc] at hl
  cases r with
  | inl x =>
    obtain ⟨v, M2, e1, e2, ⟨n', e3⟩, e4, e5⟩ := hm (mst M1 231 0 x) fun z hz => mst_no hz
    exact ⟨0, mst M1 231 0 x, 0, v, M2, n', hl, by decide, e1, e3, e5, fun _ => by rw [e2, mst_oo]; exact e4.symm, _, M1, hc, mst_no (by decide)⟩
  | inr E =>
    obtain ⟨v, M2, e1, e2, ⟨n', e3⟩, e4, e5⟩ := hm M1 fun z _ => rfl
    have hl : fl = hd E M1 := hl
    rw [hH E M1 e5] at hl
    exact ⟨t E, M1, 1, v, M2, n', hl, by decide, e1, e3, e4, fun z => absurd z e5, _, M1, hc, rfl⟩
/-! the law's method -/
abbrev Lw (x : Int32) (u v : Option Value) : List (Option Value) := [some (.ref 232), some (.ref 0), some (.ref 215), some (.ref 231), some (.int x), u, v]
def Gd (i : Nat) (x : Int32) (M : mM) (j : Nat) : Prop := ∃ M' k, k ≤ j ∧ Ev 100 372 i (Lw x none none) [] M (.inl (some 1), M', k)
theorem Gd.fg {i : Nat} {x : Int32} {u v : Option Value} {M M' : mM} {k : Nat} {o : Option Int32 ⊕ Nat} (h : Ev 100 372 i (Lw x none none) [] M (o, M', k)) : Ev 100 372 i (Lw x u v) [] M (o, M', k) := Ev.forget (mLe.kp (mLe.kp (mLe.kp (mLe.kp (mLe.kp (mLe.sk (mLe.sk mLe.nl))))))) h
theorem lg_cmp_s (x : Int64) : lg_cmp x x = 0 := by
  unfold lg_cmp
  rw [if_neg (by intro h; exact absurd h (Int64.lt_irrefl)), if_pos rfl]
section
variable {d y i : Nat} {L : List (Option Value)} {st : List Value} {M : mM} {r : (Option Int32 ⊕ Nat) × mM × Nat} {code : List mE} {ins : Instr} {pc ln a b w : Nat}
theorem ev_b {c : Bool} {t e : Nat} {L' : List (Option Value)} {st' : List Value} (hc : mKc y = code) (he : code[i]? = some (ins, pc, ln, a, b, w)) (hk : mKd ins = 0) (hs : mstep (ins, pc, ln, a, b, w) i L st M = some (bif c then t else e, L', st', M)) (hb : c = true) (hE : Ev d y t L' st' M r) : Ev d y i L st M r := by
  rw [hb, cond_true] at hs
  exact ev_1 hc he hk hs hE
theorem ev_nb {c : Bool} {t e : Nat} {L' : List (Option Value)} {st' : List Value} (hc : mKc y = code) (he : code[i]? = some (ins, pc, ln, a, b, w)) (hk : mKd ins = 0) (hs : mstep (ins, pc, ln, a, b, w) i L st M = some (bif c then t else e, L', st', M)) (hb : c = false) (hE : Ev d y e L' st' M r) : Ev d y i L st M r := by
  rw [hb, cond_false] at hs
  exact ev_1 hc he hk hs hE
/-- a number of the script -/
theorem ev_ar {j : Int} {x v : Int32} {u z : Option Value} {p0 l0 a0 b0 w0 p1 l1 a1 b1 w1 p2 l2 a2 b2 w2 p3 l3 a3 b3 w3 p4 l4 a4 b4 w4 : Nat} (hc : mKc y = code)
    (e0 : code[i]? = some (.aload_n 0, p0, l0, a0, b0, w0)) (e1 : code[i + 1]? = some (.iload 4, p1, l1, a1, b1, w1)) (e2 : code[i + 2]? = some (.iconst j, p2, l2, a2, b2, w2)) (e3 : code[i + 3]? = some (.iadd, p3, l3, a3, b3, w3)) (e4 : code[i + 4]? = some (.iaload, p4, l4, a4, b4, w4))
    (hi : mIn (x + Int32.ofInt j) (M 233 0).toNatClampNeg = true) (hv : M 232 (ix (x + Int32.ofInt j)) = v) (hE : Ev d y (i + 5) (Lw x u z) (.int v :: st) M r) : Ev d y i (Lw x u z) st M r := by
  refine ev_1 hc e0 rfl (i' := i + 1) (L' := Lw x u z) (st' := .ref 232 :: st) (M1 := M) rfl ?_
  refine ev_1 hc e1 rfl (i' := i + 2) (L' := Lw x u z) (st' := .int x :: .ref 232 :: st) (M1 := M) rfl ?_
  refine ev_1 hc e2 rfl (i' := i + 3) (L' := Lw x u z) (st' := .int (Int32.ofInt j) :: .int x :: .ref 232 :: st) (M1 := M) rfl ?_
  refine ev_1 hc e3 rfl (i' := i + 4) (L' := Lw x u z) (st' := .int (x + Int32.ofInt j) :: .ref 232 :: st) (M1 := M) rfl ?_
  refine ev_1 hc e4 rfl (i' := i + 5) (L' := Lw x u z) (st' := .int v :: st) (M1 := M) ?_ hE
  show mLds (i + 4) (Lw x u z) (.int (x + Int32.ofInt j) :: .ref 232 :: st) M = _
  unfold mLds
  dsimp only
  rw [if_pos ⟨rfl, hi⟩, ← hv]
/-- a truth value out of a number -/
theorem ev_bo {v : Int32} {n1 n2 : Int} {a0 p0 l0 b0 w0 p1 l1 a1 b1 w1 p2 l2 b2 w2 p3 l3 a3 b3 w3 : Nat} (hc : mKc y = code)
    (e0 : code[i]? = some (.ifCond .eq n1, p0, l0, i + 3, b0, w0)) (e1 : code[i + 1]? = some (.iconst 1, p1, l1, a1, b1, w1)) (e2 : code[i + 2]? = some (.goto n2, p2, l2, i + 4, b2, w2)) (e3 : code[i + 3]? = some (.iconst 0, p3, l3, a3, b3, w3))
    (hE : Ev d y (i + 4) L (.int (mB (!decide (v = 0))) :: st) M r) : Ev d y i L (.int v :: st) M r := by
  cases hv : decide (v = 0)
  · rw [hv] at hE
    refine ev_nb hc e0 rfl (c := decide (v = 0)) (t := i + 3) (e := i + 1) (L' := L) (st' := st) rfl hv ?_
    refine ev_1 hc e1 rfl (i' := i + 2) (L' := L) (st' := .int (Int32.ofInt 1) :: st) (M1 := M) rfl ?_
    exact ev_1 hc e2 rfl (i' := i + 4) (L' := L) (st' := .int (Int32.ofInt 1) :: st) (M1 := M) rfl hE
  · rw [hv] at hE
    refine ev_b hc e0 rfl (c := decide (v = 0)) (t := i + 3) (e := i + 1) (L' := L) (st' := st) rfl hv ?_
    exact ev_1 hc e3 rfl (i' := i + 4) (L' := L) (st' := .int (Int32.ofInt 0) :: st) (M1 := M) rfl hE
end
theorem kc_372 : mKc 372 = k_L_law_ := rfl
