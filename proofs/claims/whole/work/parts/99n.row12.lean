/-! the row that the roster keeps: no other method writes it -/
def zS (st : List Value) : Prop := ∀ v, v ∈ st → v ≠ .ref 12
def zL (L : List (Option Value)) : Prop := ∀ v, v ∈ L → v ≠ some (.ref 12)
def s12 (y : Nat) : Bool := Nat.ble 10 y && Nat.blt y 372 && !Nat.beq (mKi y) 4 && !Nat.beq y 146 && !Nat.beq y 148 && !Nat.beq y 362
def e12 (en : mE) : Bool := match en with
  | (ins, _, _, a, _, _) => match ins with
    | .getfield _ => !Nat.beq a 4
    | .invokevirtual _ => Nat.blt a 10 || s12 a
    | .invokestatic _ => Nat.blt a 10 || s12 a
    | _ => true
set_option maxRecDepth 100000 in
theorem s12_all : (List.range 373).all (fun y => !s12 y || (mKc y).all e12) = true := by decide +kernel
theorem s12_e {y i : Nat} {en : mE} (h : s12 y = true) (he : (mKc y)[i]? = some en) : e12 en = true := by
  have hy : y < 373 := by
    unfold s12 at h
    simp only [Bool.and_eq_true] at h
    have := Nat.blt_eq.mp h.1.1.1.1.2
    omega
  have := List.all_eq_true.mp s12_all y (List.mem_range.mpr hy)
  rw [h, Bool.not_true, Bool.false_or] at this
  exact List.all_eq_true.mp this en (List.mem_of_getElem? he)
theorem zS.tl {v : Value} {r : List Value} (h : zS (v :: r)) : zS r := fun u hu => h u (List.mem_cons_of_mem _ hu)
theorem zS.hd {v : Value} {r : List Value} (h : zS (v :: r)) : v ≠ .ref 12 := h v List.mem_cons_self
theorem zS.cs {v : Value} {r : List Value} (h : zS r) (hv : v ≠ .ref 12) : zS (v :: r) := fun u hu => by
  rcases List.mem_cons.mp hu with rfl | hu
  · exact hv
  · exact h u hu
theorem zS.int {x : Int32} {r : List Value} (h : zS r) : zS (.int x :: r) := h.cs (fun e => by cases e)
theorem zS.long {x : Int64} {r : List Value} (h : zS r) : zS (.long x :: r) := h.cs (fun e => by cases e)
theorem zS.nul {r : List Value} (h : zS r) : zS (.null :: r) := h.cs (fun e => by cases e)
theorem zS.ref {o : Nat} {r : List Value} (h : zS r) (ho : o ≠ 12) : zS (.ref o :: r) := h.cs (fun e => by cases e; exact ho rfl)
theorem zS.rf {o : Nat} {r : List Value} (h : zS (.ref o :: r)) : o ≠ 12 := fun e => h.hd (by rw [e])
theorem zL.st {L : List (Option Value)} {k : Nat} {v : Option Value} (h : zL L) (hv : v ≠ some (.ref 12)) : zL (L.set k v) := fun u hu => by
  rcases List.mem_or_eq_of_mem_set hu with hu | rfl
  · exact h u hu
  · exact hv
theorem zL.ld {L : List (Option Value)} {k : Nat} {v : Value} (h : zL L) (hv : mLd L k = some v) : v ≠ .ref 12 := fun e => by
  unfold mLd at hv
  rw [List.getD_eq_getElem?_getD] at hv
  cases e2 : L[k]? with
  | none => rw [e2] at hv; cases hv
  | some u =>
    rw [e2] at hv
    have hv : u = some v := hv
    exact h u (List.mem_of_getElem? e2) (by rw [hv, e])
def P12 (q : mS) (M : mM) : Prop := zL q.2.1 ∧ zS q.2.2.1 ∧ q.2.2.2 12 = M 12
section
variable {i t k : Nat} {L : List (Option Value)} {st : List Value} {M : mM} {q : mS}
theorem p_as (h : mAs i L k st M = some q) (hL : zL L) (hS : zS st) : P12 q M := by
  unfold mAs at h
  split at h
  · split at h
    · cases h; exact ⟨hL.st (fun e => by cases e), hS.tl, rfl⟩
    · cases h
  · split at h
    · cases h; exact ⟨hL.st (fun e => by cases e; exact hS.hd rfl), hS.tl, rfl⟩
    · cases h
  · split at h
    · cases h; exact ⟨hL.st (fun e => by cases e), hS.tl, rfl⟩
    · cases h
  · cases h
theorem p_il (h : mIl i L k st M = some q) (hL : zL L) (hS : zS st) : P12 q M := by
  unfold mIl at h
  split at h
  · cases h; exact ⟨hL, hS.int, rfl⟩
  · cases h
theorem p_al (h : mAl i L k st M = some q) (hL : zL L) (hS : zS st) : P12 q M := by
  unfold mAl at h
  split at h
  · rename_i x e
    cases h; exact ⟨hL, hS.cs (hL.ld e), rfl⟩
  · cases h; exact ⟨hL, hS.nul, rfl⟩
  · cases h
theorem p_ii {n : Int} (h : mIi i L k n st M = some q) (hL : zL L) (hS : zS st) : P12 q M := by
  unfold mIi at h
  split at h
  · cases h; exact ⟨hL.st (fun e => by cases e), hS, rfl⟩
  · cases h
theorem p_b2 {f : Int32 → Int32 → Int32} (h : mB2 f i L st M = some q) (hL : zL L) (hS : zS st) : P12 q M := by
  unfold mB2 at h
  split at h
  · cases h; exact ⟨hL, hS.tl.tl.int, rfl⟩
  · cases h
theorem p_dv {f : Int32 → Int32 → Int32} (h : mDv f i L st M = some q) (hL : zL L) (hS : zS st) : P12 q M := by
  unfold mDv at h
  split at h
  · split at h
    · cases h
    · cases h; exact ⟨hL, hS.tl.tl.int, rfl⟩
  · cases h
theorem p_u1 {f : Int32 → Int32} (h : mU1 f i L st M = some q) (hL : zL L) (hS : zS st) : P12 q M := by
  unfold mU1 at h
  split at h
  · cases h; exact ⟨hL, hS.tl.int, rfl⟩
  · cases h
theorem p_if {c : Int32 → Bool} (h : mIf c i t L st M = some q) (hL : zL L) (hS : zS st) : P12 q M := by
  unfold mIf at h
  split at h
  · cases h; exact ⟨hL, hS.tl, rfl⟩
  · cases h
theorem p_ic {c : Int32 → Int32 → Bool} (h : mIc c i t L st M = some q) (hL : zL L) (hS : zS st) : P12 q M := by
  unfold mIc at h
  split at h
  · cases h; exact ⟨hL, hS.tl.tl, rfl⟩
  · cases h
theorem mOff_big {c b : Nat} (h : 40 ≤ b) : mOff c b = 0 := by
  unfold mOff
  have h1 : (mOf.getD c []).length ≤ 40 := by
    by_cases hc : c < 10
    · exact (by decide +kernel : ∀ c, c < 10 → (mOf.getD c []).length ≤ 40) c hc
    · rw [List.getD_eq_getElem?_getD, List.getElem?_eq_none (by show mOf.length ≤ c; have : mOf.length = 10 := rfl; omega)]
      exact Nat.zero_le _
  rw [List.getD_eq_getElem?_getD, List.getElem?_eq_none (by omega)]
  rfl
theorem gf12 {o a b d : Nat} (h : (mSh o).1 = a) (ha : a ≠ 4) (hd : mOff a b = d + 1) : o + (d + 1) ≠ 12 := fun e => by
  by_cases hb : b < 40
  · have := (by decide +kernel : ∀ o, o < 12 → ∀ b, b < 40 → (mSh o).1 = 4 ∨ mOff (mSh o).1 b = 0 ∨ o + mOff (mSh o).1 b ≠ 12) o (by omega) b hb
    rw [h, hd] at this
    rcases this with g | g | g
    · exact ha g
    · cases g
    · exact g e
  · rw [mOff_big (by omega)] at hd
    cases hd
theorem p_gf {c k : Nat} (hc : c ≠ 4) (h : mGf c k i L st M = some q) (hL : zL L) (hS : zS st) : P12 q M := by
  unfold mGf at h
  split at h
  · split at h
    · rename_i hsh
      split at h
      · cases h; exact ⟨hL, hS.tl.int, rfl⟩
      · rename_i d hd
        cases h; exact ⟨hL, hS.tl.ref (gf12 hsh hc hd), rfl⟩
    · cases h
  · cases h
theorem p_pf {c k : Nat} (h : mPf c k i L st M = some q) (hL : zL L) (hS : zS st) : P12 q M := by
  unfold mPf at h
  split at h
  · split at h
    · split at h
      · split at h
        · split at h
          · cases h; exact ⟨hL, hS.tl.tl, mst_no (Ne.symm hS.tl.rf)⟩
          · cases h
        · cases h; exact ⟨hL, hS.tl.tl, mst_no (Ne.symm hS.tl.rf)⟩
      · cases h
    · cases h
  · cases h
theorem p_lda {K : Nat} (h : mLda K i L st M = some q) (hL : zL L) (hS : zS st) : P12 q M := by
  unfold mLda at h
  split at h
  · split at h
    · cases h; exact ⟨hL, hS.tl.tl.int, rfl⟩
    · cases h
  · cases h
theorem p_lds (h : mLds i L st M = some q) (hL : zL L) (hS : zS st) : P12 q M := by
  unfold mLds at h
  split at h
  · split at h
    · cases h; exact ⟨hL, hS.tl.tl.int, rfl⟩
    · exact p_lda h hL hS
  · cases h
theorem p_ldb (h : mLdb i L st M = some q) (hL : zL L) (hS : zS st) : P12 q M := by
  unfold mLdb at h
  split at h
  · split at h
    · exact p_lda h hL hS
    · exact p_lda h hL hS
  · cases h
theorem p_sta {K : Nat} {f : Int32 → Int32} (h : mSta K f i L st M = some q) (hL : zL L) (hS : zS st) : P12 q M := by
  unfold mSta at h
  split at h
  · split at h
    · cases h; exact ⟨hL, hS.tl.tl.tl, mst_no (Ne.symm hS.tl.tl.rf)⟩
    · cases h
  · cases h
theorem p_stb (h : mStb i L st M = some q) (hL : zL L) (hS : zS st) : P12 q M := by
  unfold mStb at h
  split at h
  · split at h
    · exact p_sta h hL hS
    · exact p_sta h hL hS
  · cases h
theorem p_stl (h : mStl i L st M = some q) (hL : zL L) (hS : zS st) : P12 q M := by
  unfold mStl at h
  split at h
  · split at h
    · cases h; exact ⟨hL, hS.tl.tl.tl, mst_no (Ne.symm hS.tl.tl.rf)⟩
    · cases h
  · cases h
theorem p_ldl (h : mLdl i L st M = some q) (hL : zL L) (hS : zS st) : P12 q M := by
  unfold mLdl at h
  split at h
  · split at h
    · cases h; exact ⟨hL, hS.tl.tl.long, rfl⟩
    · cases h
  · cases h
theorem p_ldt (h : mLdt i L st M = some q) (hL : zL L) (hS : zS st) : P12 q M := by
  unfold mLdt at h
  split at h
  · split at h
    · cases h; exact ⟨hL, hS.tl.tl.ref (by omega), rfl⟩
    · cases h
  · cases h
theorem p_al2 (h : mAl2 i L st M = some q) (hL : zL L) (hS : zS st) : P12 q M := by
  unfold mAl2 at h
  split at h
  · split at h
    · cases h; exact ⟨hL, hS.tl.int, rfl⟩
    · split at h
      · cases h; exact ⟨hL, hS.tl.int, rfl⟩
      · cases h
  · cases h
theorem p_swi {lo hi : Int} {n : Nat} (h : mSwi lo hi n i L st M = some q) (hL : zL L) (hS : zS st) : P12 q M := by
  unfold mSwi at h
  split at h
  · split at h
    · cases h
    · split at h
      · cases h; exact ⟨hL, hS.tl, rfl⟩
      · split at h
        · cases h; exact ⟨hL, hS.tl, rfl⟩
        · cases h
  · cases h
theorem p_ist (h : mIst i L k st M = some q) (hL : zL L) (hS : zS st) : P12 q M := by
  unfold mIst at h
  split at h
  · exact p_as h hL hS
  · cases h
theorem p_asr (h : mAsr i L k st M = some q) (hL : zL L) (hS : zS st) : P12 q M := by
  unfold mAsr at h
  split at h
  · exact p_as h hL hS
  · exact p_as h hL hS
  · cases h
theorem p_i2l (h : mI2l i L st M = some q) (hL : zL L) (hS : zS st) : P12 q M := by
  unfold mI2l at h
  split at h
  · cases h; exact ⟨hL, hS.tl.long, rfl⟩
  · cases h
theorem p_lcm (h : mLcm i L st M = some q) (hL : zL L) (hS : zS st) : P12 q M := by
  unfold mLcm at h
  split at h
  · cases h; exact ⟨hL, hS.tl.tl.int, rfl⟩
  · cases h
theorem p_dup (h : mDup i L st M = some q) (hL : zL L) (hS : zS st) : P12 q M := by
  unfold mDup at h
  split at h
  · split at h
    · cases h; exact ⟨hL, hS.cs hS.hd, rfl⟩
    · cases h
  · cases h
theorem p_dup2 (h : mDup2 i L st M = some q) (hL : zL L) (hS : zS st) : P12 q M := by
  unfold mDup2 at h
  split at h
  · split at h
    · cases h; exact ⟨hL, (hS.cs hS.tl.hd).cs hS.hd, rfl⟩
    · cases h
  · cases h
theorem p_pop (h : mPop i L st M = some q) (hL : zL L) (hS : zS st) : P12 q M := by
  unfold mPop at h
  split at h
  · split at h
    · cases h; exact ⟨hL, hS.tl, rfl⟩
    · cases h
  · cases h
theorem p_ifn {a b : Nat} (h : mIfn a b L st M = some q) (hL : zL L) (hS : zS st) : P12 q M := by
  unfold mIfn at h
  split at h
  · cases h; exact ⟨hL, hS.tl, rfl⟩
  · cases h; exact ⟨hL, hS.tl, rfl⟩
  · cases h
theorem p_step {en : mE} (he : e12 en = true) (h : mstep en i L st M = some q) (hL : zL L) (hS : zS st) : P12 q M := by
  obtain ⟨ins, pc, ln, a, b, w⟩ := en
  unfold mstep at h
  dsimp only at h
  split at h
  all_goals first
    | exact p_b2 h hL hS
    | exact p_if h hL hS
    | exact p_ic h hL hS
    | exact p_il h hL hS
    | exact p_al h hL hS
    | exact p_ist h hL hS
    | exact p_asr h hL hS
    | exact p_ii h hL hS
    | exact p_dv h hL hS
    | exact p_u1 h hL hS
    | exact p_i2l h hL hS
    | exact p_lcm h hL hS
    | exact p_dup h hL hS
    | exact p_dup2 h hL hS
    | exact p_pop h hL hS
    | exact p_ifn h hL hS
    | exact p_swi h hL hS
    | exact p_pf h hL hS
    | exact p_lds h hL hS
    | exact p_ldb h hL hS
    | exact p_ldl h hL hS
    | exact p_ldt h hL hS
    | exact p_sta h hL hS
    | exact p_stb h hL hS
    | exact p_stl h hL hS
    | exact p_al2 h hL hS
    | (refine p_gf (fun e => ?_) h hL hS; subst e; cases he)
    | (cases h; exact ⟨hL, hS.int, rfl⟩)
    | (cases h; exact ⟨hL, hS.nul, rfl⟩)
    | (cases h; exact ⟨hL, hS, rfl⟩)
    | (split at h; (cases h; exact ⟨hL, hS.int, rfl⟩); (cases h; exact ⟨hL, hS.ref (by omega), rfl⟩))
    | cases h
end
theorem zS.tk {st : List Value} (h : zS st) (n : Nat) : zS (st.take n) := fun v hv => h v (List.mem_of_mem_take hv)
theorem zS.dp {st : List Value} (h : zS st) (n : Nat) : zS (st.drop n) := fun v hv => h v (List.mem_of_mem_drop hv)
theorem zS.rv {st : List Value} (h : zS st) : zS st.reverse := fun v hv => h v (List.mem_reverse.mp hv)
theorem zS.vl {st : List Value} (h : zS st) (v : Option Int32) : zS (mVl v ++ st) := by
  cases v with
  | none => exact h
  | some x => exact h.int
theorem zS.en {st : List Value} (h : zS st) (n : Nat) : zL (mEn st n) := fun v hv => by
  unfold mEn at hv
  rcases List.mem_append.mp hv with hv | hv
  · obtain ⟨u, hu, rfl⟩ := List.mem_map.mp hv
    exact fun e => h u hu (Option.some.inj e)
  · rw [(List.mem_replicate.mp hv).2]
    exact fun e => by cases e
theorem p_prim {a : Nat} {args : List Value} {M M1 : mM} {v : Option Int32} (h : mPrim a args M = some (v, M1)) (hS : zS args) : M1 12 = M 12 := by
  unfold mPrim at h
  split at h
  · unfold mP1 at h; split at h <;> cases h; rfl
  · unfold mP2 at h; split at h <;> cases h; rfl
  · unfold mP3 at h
    split at h
    · split at h
      · cases h
        have := hS.tl.tl.rf
        exact if_neg (Ne.symm this)
      · cases h
    · cases h
  · unfold mP4 at h
    split at h
    · split at h
      · split at h <;> cases h; rfl
      · cases h
    · cases h
  · unfold mP5 at h
    split at h
    · split at h
      · split at h
        · split at h <;> cases h; rfl
        · cases h
      · cases h
    · cases h
  · cases h
theorem fr12 : ∀ (n d y i : Nat) (L : List (Option Value)) (st : List Value) (M : mM) (r : (Option Int32 ⊕ Nat) × mM × Nat), mx n d y i L st M = some r → s12 y = true → zL L → zS st → r.2.1 12 = M 12 := by
  intro n
  induction n with
  | zero => intro d y i L st M r h; cases h
  | succ n ih =>
    intro d y i L st M r h hy hL hS
    obtain ⟨ins, pc, ln, a, b, w, he, h⟩ := mx_cases h
    have h12 := s12_e hy he
    rcases h with ⟨hk, q, h1, h2⟩ | ⟨hk, x, rfl, hx, rfl⟩ | ⟨hk, hkr, rfl, rfl⟩ | ⟨hk, hd8, hV, ha5, hem, rfl⟩ | ⟨hk, ha, hd8, hpn, hV, v, M1, h1, h2⟩ | ⟨hk, ha, d0, rfl, hna, hnl, hrec, hal, hV, h2⟩
    · obtain ⟨g1, g2, g3⟩ := p_step h12 h1 hL hS
      rw [ih _ _ _ _ _ _ _ h2 hy g1 g2, g3]
    · rfl
    · rfl
    · rfl
    · rw [ih _ _ _ _ _ _ _ h2 hy hL ((hS.dp _).vl v), p_prim h1 (hS.tk _).rv]
    · have ha12 : s12 a = true := by
        have hb : Nat.blt a 10 = false := by cases e : Nat.blt a 10 with | false => rfl | true => exact absurd (Nat.blt_eq.mp e) ha
        cases ins <;> first | (cases hk; done) | (unfold e12 at h12; dsimp only at h12; rw [hb, Bool.false_or] at h12; exact h12)
      rcases mRet_cases h2 with ⟨v, M1, k1, o1, M2, k2, e1, e2, rfl⟩ | ⟨E, M1, k1, e1, hb1, hcat, rfl⟩ | ⟨E, M1, k1, hh, z, o1, M2, k2, e1, hb1, hcat, hz, hzl, e2, rfl⟩
      · have g := ih _ _ _ _ _ _ _ e1 ha12 ((hS.tk _).rv.en _) (fun v hv => by cases hv)
        exact (ih _ _ _ _ _ _ _ e2 hy hL ((hS.dp _).vl v)).trans g
      · exact ih _ _ _ _ _ _ _ e1 ha12 ((hS.tk _).rv.en _) (fun v hv => by cases hv)
      · have g := ih _ _ _ _ _ _ _ e1 ha12 ((hS.tk _).rv.en _) (fun v hv => by cases hv)
        exact (ih _ _ _ _ _ _ _ e2 hy (hL.st (fun e => by cases e)) (fun v hv => by cases hv)).trans g
/-- fr12 under a name that Cs.fr12 does not hide -/
def fr12_a := @fr12
theorem Cs.fr12 {d y : Nat} {as : List Value} {M : mM} {r : (Option Int32 ⊕ Nat) × mM × Nat} (h : Cs d y as M r) (hy : s12 y = true) (hS : zS as) : r.2.1 12 = M 12 := by
  obtain ⟨n, h⟩ := h
  exact fr12_a _ _ _ _ _ _ _ _ h hy (hS.en _) (fun v hv => by cases hv)
