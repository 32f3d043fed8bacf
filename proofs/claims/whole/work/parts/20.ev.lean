/-! reasoning about runs of the small machine: Ev (from an instruction), Cs (a call) -/
def Ev (d y i : Nat) (L : List (Option Value)) (st : List Value) (M : mM) (r : (Option Int32 ⊕ Nat) × mM × Nat) : Prop := ∃ n, mx n d y i L st M = some r
def Cs (d y : Nat) (av : List Value) (M : mM) (r : (Option Int32 ⊕ Nat) × mM × Nat) : Prop := Ev d y 0 (mEn av (mKl y)) [] M r
theorem mx_act {n d y i : Nat} {L : List (Option Value)} {st : List Value} {M : mM} {en : mE} (he : (mKc y)[i]? = some en) : mx (n + 1) d y i L st M = mAct (mx n) d y i L st M en := by
  show mBody (mx n) d y i L st M = _
  unfold mBody
  rw [he]
theorem mx_s {n d y i : Nat} {L : List (Option Value)} {st : List Value} {M : mM} {ins : Instr} {pc ln a b w : Nat} {q : mS} (he : (mKc y)[i]? = some (ins, pc, ln, a, b, w)) (hk : mKd ins = 0) (hs : mstep (ins, pc, ln, a, b, w) i L st M = some q) : mx (n + 1) d y i L st M = mx n d y q.1 q.2.1 q.2.2.1 q.2.2.2 := by
  rw [mx_act he]
  unfold mAct
  dsimp only
  rw [hk]
  show mStp (mx n) d y (mstep _ _ _ _ _) = _
  rw [hs]
  rfl
theorem mx_r {n d y i : Nat} {L : List (Option Value)} {M : mM} {ins : Instr} {pc ln a b w : Nat} {x : Int32} (he : (mKc y)[i]? = some (ins, pc, ln, a, b, w)) (hk : mKd ins = 1) (hx : mRok (mKr y) x = true) : mx (n + 1) d y i L [.int x] M = some (.inl (some x), M, 0) := by
  rw [mx_act he]
  unfold mAct
  dsimp only
  rw [hk]
  show (bif mRok (mKr y) x then some (.inl (some x), M, 0) else none : mR) = _
  rw [m_bif hx]
theorem mx_v {n d y i : Nat} {L : List (Option Value)} {M : mM} {ins : Instr} {pc ln a b w : Nat} (he : (mKc y)[i]? = some (ins, pc, ln, a, b, w)) (hk : mKd ins = 2) (hx : mKr y = none) : mx (n + 1) d y i L [] M = some (.inl none, M, 0) := by
  rw [mx_act he]
  unfold mAct
  dsimp only
  rw [hk]
  show mVre (mKr y) [] M = _
  rw [hx]
  rfl
theorem mx_t {n d y i : Nat} {L : List (Option Value)} {st : List Value} {M : mM} {ins : Instr} {pc ln a b w : Nat} (he : (mKc y)[i]? = some (ins, pc, ln, a, b, w)) (hk : mKd ins = 3) (h8 : 8 ≤ d) (hV : mV4 st = true) (ha : a < 5) (hh : (mHd y).isEmpty = true) : mx (n + 1) d y i L st M = some (.inr a, M, 1) := by
  rw [mx_act he]
  unfold mAct
  dsimp only
  rw [hk]
  show (bif Nat.ble 8 d && mV4 st && Nat.blt a 5 && (mHd y).isEmpty then some (.inr a, M, 1) else none : mR) = _
  rw [m_bif]
  rw [hV, hh, Nat.ble_eq.mpr h8, Nat.blt_eq.mpr ha]
  rfl
theorem mx_l {n d y i : Nat} {L : List (Option Value)} {st : List Value} {M M1 : mM} {ins : Instr} {pc ln a b w : Nat} {v : Option Int32} (he : (mKc y)[i]? = some (ins, pc, ln, a, b, w)) (hk : mKd ins = 4) (ha : a < 10) (h8 : 8 ≤ d) (hn : mPn a ≤ st.length) (hV : mV4 (st.drop (mPn a)) = true) (hp : mPrim a (st.take (mPn a)).reverse M = some (v, M1)) :
    mx (n + 1) d y i L st M = mx n d y (i + 1) L (mVl v ++ st.drop (mPn a)) M1 := by
  rw [mx_act he]
  unfold mAct
  dsimp only
  rw [hk]
  show (bif Nat.blt a 10 then mLib (mx n) d y i a L st M else mDeep (mx n) d y i a b L st M) = _
  rw [m_bif (Nat.blt_eq.mpr ha)]
  unfold mLib
  rw [m_bif (by rw [Nat.ble_eq.mpr h8, Nat.ble_eq.mpr hn, hV]; rfl), hp]
theorem mx_d {n d y i : Nat} {L : List (Option Value)} {st : List Value} {M : mM} {ins : Instr} {pc ln a b w : Nat} (he : (mKc y)[i]? = some (ins, pc, ln, a, b, w)) (hk : mKd ins = 4) (ha : ¬ a < 10) (hn : mKn a ≤ st.length) (hl : mKn a ≤ mKl a) (hr : mRec (mKi a) (st.take (mKn a)).reverse = true) (h1 : (st.take (mKn a)).all mC1 = true) (hV : mV4 (st.drop (mKn a)) = true) :
    mx (n + 1) (d + 1) y i L st M = mRet (fun i' L' st' M' => mx n (d + 1) y i' L' st' M') y i b L (st.drop (mKn a)) (mx n d a 0 (mEn (st.take (mKn a)).reverse (mKl a)) [] M) := by
  rw [mx_act he]
  unfold mAct
  dsimp only
  rw [hk]
  show (bif Nat.blt a 10 then mLib (mx n) (d + 1) y i a L st M else mDeep (mx n) (d + 1) y i a b L st M) = _
  have hb : Nat.blt a 10 = false := by cases e : Nat.blt a 10 with | false => rfl | true => exact absurd (Nat.blt_eq.mp e) ha
  rw [m_bff hb]
  show (bif Nat.ble (mKn a) st.length && Nat.ble (mKn a) (mKl a) && mRec (mKi a) (st.take (mKn a)).reverse && (st.take (mKn a)).all mC1 && mV4 (st.drop (mKn a)) then _ else none) = _
  rw [m_bif]
  rw [Nat.ble_eq.mpr hn, Nat.ble_eq.mpr hl, hr, h1, hV]
  rfl
theorem mAdd_some {k j : Nat} {o : Option Int32 ⊕ Nat} {M : mM} {r : mR} (h : r = some (o, M, j)) : mAdd k r = some (o, M, k + j) := by rw [h]; rfl
/-- more fuel, more depth: the same -/
theorem mx_mono : ∀ (n n' d d' y i : Nat) (L : List (Option Value)) (st : List Value) (M : mM) (r : (Option Int32 ⊕ Nat) × mM × Nat), n ≤ n' → d ≤ d' → mx n d y i L st M = some r → mx n' d' y i L st M = some r := by
  intro n
  induction n with
  | zero => intro n' d d' y i L st M r hn hd h; cases h
  | succ n ih =>
    intro n' d d' y i L st M r hn hd h
    obtain ⟨n', rfl⟩ : ∃ z, n' = z + 1 := ⟨n' - 1, by omega⟩
    have hn : n ≤ n' := by omega
    obtain ⟨ins, pc, ln, a, b, w, he, h⟩ := mx_cases h
    rcases h with ⟨hk, q, h1, h2⟩ | ⟨hk, x, rfl, hx, rfl⟩ | ⟨hk, hkr, rfl, rfl⟩ | ⟨hk, hd8, hV, ha5, hem, rfl⟩ | ⟨hk, ha, hd8, hpn, hV, v, M1, h1, h2⟩ | ⟨hk, ha, d0, rfl, hna, hnl, hrec, hal, hV, h2⟩
    · rw [mx_s he hk h1]
      exact ih _ _ _ _ _ _ _ _ _ hn hd h2
    · exact mx_r he hk hx
    · exact mx_v he hk hkr
    · exact mx_t he hk (by omega) hV ha5 hem
    · rw [mx_l he hk ha (by omega) hpn hV h1]
      exact ih _ _ _ _ _ _ _ _ _ hn hd h2
    · obtain ⟨d', rfl⟩ : ∃ z, d' = z + 1 := ⟨d' - 1, by omega⟩
      have hd0 : d0 ≤ d' := by omega
      rw [mx_d he hk ha hna hnl hrec hal hV]
      rcases mRet_cases h2 with ⟨v, M1, k1, o1, M2, k2, e1, e2, rfl⟩ | ⟨E, M1, k1, e1, hb1, hcat, rfl⟩ | ⟨E, M1, k1, hh, z, o1, M2, k2, e1, hb1, hcat, hz, hzl, e2, rfl⟩
      · rw [ih _ _ _ _ _ _ _ _ _ hn hd0 e1]
        exact mAdd_some (ih _ _ _ _ _ _ _ _ _ hn hd e2)
      · rw [ih _ _ _ _ _ _ _ _ _ hn hd0 e1]
        show (bif Nat.beq b 1 then none else _) = _
        have hbf : Nat.beq b 1 = false := by cases e : Nat.beq b 1 with | false => rfl | true => exact absurd (Nat.eq_of_beq_eq_true e) hb1
        rw [m_bff hbf, hcat]
      · rw [ih _ _ _ _ _ _ _ _ _ hn hd0 e1]
        show (bif Nat.beq b 1 then none else _) = _
        have hbf : Nat.beq b 1 = false := by cases e : Nat.beq b 1 with | false => rfl | true => exact absurd (Nat.eq_of_beq_eq_true e) hb1
        rw [m_bff hbf, hcat]
        dsimp only
        rw [hz]
        dsimp only
        rw [m_bif (Nat.blt_eq.mpr hzl)]
        exact mAdd_some (ih _ _ _ _ _ _ _ _ _ hn hd e2)
theorem Ev.deep {d d' y i : Nat} {L : List (Option Value)} {st : List Value} {M : mM} {r : (Option Int32 ⊕ Nat) × mM × Nat} (h : Ev d y i L st M r) (hd : d ≤ d') : Ev d' y i L st M r := by
  obtain ⟨n, h⟩ := h
  exact ⟨n, mx_mono _ _ _ _ _ _ _ _ _ _ (Nat.le_refl n) hd h⟩
theorem Cs.deep {d d' y : Nat} {av : List Value} {M : mM} {r : (Option Int32 ⊕ Nat) × mM × Nat} (h : Cs d y av M r) (hd : d ≤ d') : Cs d' y av M r := Ev.deep h hd
/-- k plain steps of a code -/
def mGo (code : List mE) (k : Nat) (q : mS) : Option mS := match k with
  | 0 => some q
  | k + 1 => match code[q.1]? with
    | none => none
    | some en => match mKd en.1 with
      | 0 => (match mstep en q.1 q.2.1 q.2.2.1 q.2.2.2 with
        | none => none
        | some q' => mGo code k q')
      | _ => none
theorem mGo_ev {d y : Nat} {r : (Option Int32 ⊕ Nat) × mM × Nat} : ∀ (k : Nat) (q q' : mS), mGo (mKc y) k q = some q' → Ev d y q'.1 q'.2.1 q'.2.2.1 q'.2.2.2 r → Ev d y q.1 q.2.1 q.2.2.1 q.2.2.2 r := by
  intro k
  induction k with
  | zero => intro q q' h hE; cases h; exact hE
  | succ k ih =>
    intro q q' h hE
    unfold mGo at h
    cases he : (mKc y)[q.1]? with
    | none => rw [he] at h; cases h
    | some en =>
      rw [he] at h
      dsimp only at h
      split at h
      · rename_i hk
        cases hs : mstep en q.1 q.2.1 q.2.2.1 q.2.2.2 with
        | none => rw [hs] at h; cases h
        | some q1 =>
          rw [hs] at h
          obtain ⟨n, hn⟩ := ih q1 q' h hE
          exact ⟨n + 1, by rw [mx_s he hk hs]; exact hn⟩
      · cases h
theorem ev_go {d y i i' : Nat} {L L' : List (Option Value)} {st st' : List Value} {M M' : mM} {r : (Option Int32 ⊕ Nat) × mM × Nat} {code : List mE} (hc : mKc y = code) (k : Nat) (h : mGo code k (i, L, st, M) = some (i', L', st', M')) (hE : Ev d y i' L' st' M' r) : Ev d y i L st M r := by
  subst hc
  exact mGo_ev k _ _ h hE
theorem ev_ret {d y i : Nat} {L : List (Option Value)} {M : mM} {code : List mE} {ins : Instr} {t : Nat × Nat × Nat × Nat × Nat} {x : Int32} (hc : mKc y = code) (he : code[i]? = some (ins, t)) (hk : mKd ins = 1) (hx : mRok (mKr y) x = true) : Ev d y i L [.int x] M (.inl (some x), M, 0) := by
  subst hc
  exact ⟨1, mx_r he hk hx⟩
theorem ev_vret {d y i : Nat} {L : List (Option Value)} {M : mM} {code : List mE} {ins : Instr} {t : Nat × Nat × Nat × Nat × Nat} (hc : mKc y = code) (he : code[i]? = some (ins, t)) (hk : mKd ins = 2) (hx : mKr y = none) : Ev d y i L [] M (.inl none, M, 0) := by
  subst hc
  exact ⟨1, mx_v he hk hx⟩
theorem ev_throw {d y i : Nat} {L : List (Option Value)} {st : List Value} {M : mM} {code : List mE} {ins : Instr} {pc ln a b w : Nat} (hc : mKc y = code) (he : code[i]? = some (ins, pc, ln, a, b, w)) (hk : mKd ins = 3) (h8 : 8 ≤ d) (hV : mV4 st = true) (ha : a < 5) (hh : (mHd y).isEmpty = true) : Ev d y i L st M (.inr a, M, 1) := by
  subst hc
  exact ⟨1, mx_t he hk h8 hV ha hh⟩
theorem ev_lib {d y i : Nat} {L : List (Option Value)} {st : List Value} {M M1 : mM} {r : (Option Int32 ⊕ Nat) × mM × Nat} {code : List mE} {ins : Instr} {pc ln a b w : Nat} {v : Option Int32} (hc : mKc y = code) (he : code[i]? = some (ins, pc, ln, a, b, w)) (hk : mKd ins = 4) (ha : a < 10) (h8 : 8 ≤ d) (hn : mPn a ≤ st.length) (hV : mV4 (st.drop (mPn a)) = true) (hp : mPrim a (st.take (mPn a)).reverse M = some (v, M1))
    (hE : Ev d y (i + 1) L (mVl v ++ st.drop (mPn a)) M1 r) : Ev d y i L st M r := by
  subst hc
  obtain ⟨n, hn2⟩ := hE
  exact ⟨n + 1, by rw [mx_l he hk ha h8 hn hV hp]; exact hn2⟩
/-- a call that returns -/
theorem ev_call {d y i : Nat} {L : List (Option Value)} {st : List Value} {M M1 M2 : mM} {o : Option Int32 ⊕ Nat} {k1 k2 : Nat} {code : List mE} {ins : Instr} {pc ln a b w : Nat} {v : Option Int32} (hc : mKc y = code) (he : code[i]? = some (ins, pc, ln, a, b, w)) (hk : mKd ins = 4) (ha : ¬ a < 10) (hn : mKn a ≤ st.length) (hl : mKn a ≤ mKl a) (hr : mRec (mKi a) (st.take (mKn a)).reverse = true) (h1 : (st.take (mKn a)).all mC1 = true) (hV : mV4 (st.drop (mKn a)) = true)
    (hcs : Cs d a (st.take (mKn a)).reverse M (.inl v, M1, k1)) (hE : Ev (d + 1) y (i + 1) L (mVl v ++ st.drop (mKn a)) M1 (o, M2, k2)) : Ev (d + 1) y i L st M (o, M2, k1 + k2) := by
  subst hc
  obtain ⟨n1, h2⟩ := hcs
  obtain ⟨n2, h3⟩ := hE
  refine ⟨max n1 n2 + 1, ?_⟩
  rw [mx_d he hk ha hn hl hr h1 hV, mx_mono _ _ _ _ _ _ _ _ _ _ (Nat.le_max_left n1 n2) (Nat.le_refl d) h2]
  exact mAdd_some (mx_mono _ _ _ _ _ _ _ _ _ _ (Nat.le_max_right n1 n2) (Nat.le_refl (d + 1)) h3)
/-- a call that throws, not caught here -/
theorem ev_callT {d y i : Nat} {L : List (Option Value)} {st : List Value} {M M1 : mM} {E k1 : Nat} {code : List mE} {ins : Instr} {pc ln a b w : Nat} (hc : mKc y = code) (he : code[i]? = some (ins, pc, ln, a, b, w)) (hk : mKd ins = 4) (ha : ¬ a < 10) (hn : mKn a ≤ st.length) (hl : mKn a ≤ mKl a) (hr : mRec (mKi a) (st.take (mKn a)).reverse = true) (h1 : (st.take (mKn a)).all mC1 = true) (hV : mV4 (st.drop (mKn a)) = true) (hb : Nat.beq b 1 = false) (hcat : mCatch (mHd y) i E = none)
    (hcs : Cs d a (st.take (mKn a)).reverse M (.inr E, M1, k1)) : Ev (d + 1) y i L st M (.inr E, M1, k1) := by
  subst hc
  obtain ⟨n1, h2⟩ := hcs
  refine ⟨n1 + 1, ?_⟩
  rw [mx_d he hk ha hn hl hr h1 hV, h2]
  show (bif Nat.beq b 1 then none else _) = _
  rw [m_bff hb, hcat]
/-- loops -/
def wh {σ ρ : Type} (n : Nat) (b : σ → Option (ρ ⊕ σ)) (s : σ) : Option ρ := match n with
  | 0 => none
  | n + 1 => match b s with
    | none => none
    | some (.inl r) => some r
    | some (.inr s') => wh n b s'
theorem wh_ev {σ ρ : Type} {b : σ → Option (ρ ⊕ σ)} {P : σ → Prop} {Q : ρ → Prop} (hb : ∀ s out, b s = some out → (∀ s', out = .inr s' → P s') → (∀ e, out = .inl e → Q e) → P s) : ∀ (n : Nat) (s : σ) (e : ρ), wh n b s = some e → Q e → P s := by
  intro n
  induction n with
  | zero => intro s e h; cases h
  | succ n ih =>
    intro s e h hQ
    unfold wh at h
    cases hbs : b s with
    | none => rw [hbs] at h; cases h
    | some out =>
      rw [hbs] at h
      refine hb s out hbs (fun s' hs' => ?_) (fun e' he' => ?_)
      · subst hs'
        exact ih s' e h hQ
      · subst he'
        cases h
        exact hQ
/-- a loop that counts: its states in a row -/
theorem wh_row {σ ρ : Type} {b : σ → Option (ρ ⊕ σ)} (I : Nat → σ) (r : ρ) : ∀ (N n : Nat), (∀ k, k < N → b (I k) = some (.inr (I (k + 1)))) → b (I N) = some (.inl r) → N < n → wh n b (I 0) = some r := by
  have key : ∀ (m j N n : Nat), N = j + m → (∀ k, k < N → b (I k) = some (.inr (I (k + 1)))) → b (I N) = some (.inl r) → m < n → wh n b (I j) = some r := by
    intro m
    induction m with
    | zero =>
      intro j N n hN hs he hn
      obtain ⟨n, rfl⟩ : ∃ z, n = z + 1 := ⟨n - 1, by omega⟩
      have : N = j := by omega
      subst this
      unfold wh
      rw [he]
    | succ m ih =>
      intro j N n hN hs he hn
      obtain ⟨n, rfl⟩ : ∃ z, n = z + 1 := ⟨n - 1, by omega⟩
      unfold wh
      rw [hs j (by omega)]
      exact ih (j + 1) N n (by omega) hs he (by omega)
  intro N n hs he hn
  exact key N 0 N n (by omega) hs he hn
