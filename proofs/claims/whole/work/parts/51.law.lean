/-! the law: a line's steps on the stack -/
theorem wh_P {σ ρ : Type} {b : σ → Option (ρ ⊕ σ)} (P : Nat → σ → Prop) (Q : ρ → Prop) : ∀ (N n : Nat) (s0 : σ), P 0 s0 → (∀ k, k < N → ∀ s, P k s → ∃ s', b s = some (.inr s') ∧ P (k + 1) s') → (∀ s, P N s → ∃ r, b s = some (.inl r) ∧ Q r) → N < n → ∃ r, wh n b s0 = some r ∧ Q r := by
  have key : ∀ (m j N n : Nat) (s : σ), N = j + m → P j s → (∀ k, k < N → ∀ s, P k s → ∃ s', b s = some (.inr s') ∧ P (k + 1) s') → (∀ s, P N s → ∃ r, b s = some (.inl r) ∧ Q r) → m < n → ∃ r, wh n b s = some r ∧ Q r := by
    intro m
    induction m with
    | zero =>
      intro j N n s hN hP hs he hn
      obtain ⟨n, rfl⟩ : ∃ z, n = z + 1 := ⟨n - 1, by omega⟩
      have : N = j := by omega
      subst this
      obtain ⟨r, e, q⟩ := he s hP
      refine ⟨r, ?_, q⟩
      unfold wh
      rw [e]
    | succ m ih =>
      intro j N n s hN hP hs he hn
      obtain ⟨n, rfl⟩ : ∃ z, n = z + 1 := ⟨n - 1, by omega⟩
      obtain ⟨s', e, q⟩ := hs j (by omega) s hP
      obtain ⟨r, e2, q2⟩ := ih (j + 1) N n s' (by omega) q hs he (by omega)
      refine ⟨r, ?_, q2⟩
      unfold wh
      rw [e]
      exact e2
  intro N n s0 h0 hs he hn
  exact key N 0 N n s0 (by omega) h0 hs he (by omega)
theorem wh_V {σ α : Type} {b : σ → Option ((α × mM) ⊕ σ)} (P : Nat → σ → Prop) (v : α) (R : mM → Prop) (N n : Nat) (s0 : σ) (h0 : P 0 s0) (hs : ∀ k, k < N → ∀ s, P k s → ∃ s', b s = some (.inr s') ∧ P (k + 1) s') (he : ∀ s, P N s → ∃ M', b s = some (.inl (v, M')) ∧ R M') (hn : N < n) : ∃ M2, wh n b s0 = some (v, M2) ∧ R M2 := by
  obtain ⟨r, e1, e2, e3⟩ := wh_P P (fun r : α × mM => r.1 = v ∧ R r.2) N n s0 h0 hs (fun s hP => by
    obtain ⟨M', g1, g2⟩ := he s hP
    exact ⟨(v, M'), g1, rfl, g2⟩) hn
  exact ⟨r.2, by rw [e1, ← e2], e3⟩
def stk (A : Nat → Int32) : List Int32 → Prop
  | [] => True
  | v :: r => A r.length = v ∧ stk A r
theorem stk_cg {A B : Nat → Int32} : ∀ {S : List Int32}, stk A S → (∀ i, i < S.length → B i = A i) → stk B S := by
  intro S
  induction S with
  | nil => intro _ _; trivial
  | cons v r ih =>
    rintro ⟨h1, h2⟩ h
    exact ⟨by rw [h r.length (by simp)]; exact h1, ih h2 fun i hi => h i (by simp only [List.length_cons]; omega)⟩
theorem stk_put {A : Nat → Int32} {S : List Int32} {v : Int32} (h : stk A S) : stk (upd A S.length v) (v :: S) := ⟨upd_at _ _ _, stk_cg h fun i hi => upd_ne (by omega)⟩
def tyO : List Bool → List Int32 → Prop
  | [], [] => True
  | b :: T, v :: S => (b = true → v = 0 ∨ v = 1) ∧ tyO T S
  | _, _ => False
theorem tyO_len : ∀ {T : List Bool} {S : List Int32}, tyO T S → S.length = T.length := by
  intro T
  induction T with
  | nil => intro S h; cases S with | nil => rfl | cons v r => exact h.elim
  | cons b T ih => intro S h; cases S with | nil => exact h.elim | cons v r => rw [List.length_cons, List.length_cons, ih h.2]
def op2 (c x y : Int32) : Int32 := bif decide (c = 11) then x + y else mB (bif decide (c = 12) then decide (x < y) else bif decide (c = 13) then decide (y < x) else bif decide (c = 15) then decide (x + y = 2) else !decide (x + y ≤ 0))
def stp (f c : Int32) (S : List Int32) : List Int32 := bif !decide ((10 : Int32) < c) then f :: S else bif decide (c = 14) then (match S with | v :: r => ((1 : Int32) - v) :: r | [] => []) else (match S with | y :: x :: r => op2 c x y :: r | [x] => [x] | [] => [])
theorem lo10 {x : Nat} (hx : x ≤ 10) : decide ((10 : Int32) < nI x) = false := by
  rw [show (10 : Int32) = nI 10 from rfl, i_lt (by decide) (by omega)]
  exact decide_eq_false (by omega)
theorem stp_lo {f : Int32} {x : Nat} (hx : x ≤ 10) {S : List Int32} : stp f (nI x) S = f :: S := by
  unfold stp
  rw [lo10 hx]
  rfl
theorem nl {k x : Nat} (hk : k < 2 ^ 31) (hx : x < 2 ^ 31) (h : nI k = nI x) : k = x := (nI_eq hk hx).mp h
theorem tyS_14 {T T' : List Bool} (h : tyS 14 T T') : ∃ r, T = true :: r ∧ T' = true :: r := by
  rcases h with ⟨x, hx, h, -⟩ | ⟨x, -, hx, h, -⟩ | ⟨h, -⟩ | ⟨-, r, h1, h2⟩ | ⟨h | h, -⟩ | ⟨h, -⟩ | ⟨h | h, -⟩
  · have := nl (k := 14) (by decide) (by omega) h; omega
  · have := nl (k := 14) (by decide) (by omega) h; omega
  · exact absurd h (by decide)
  · exact ⟨r, h1, h2⟩
  · exact absurd h (by decide)
  · exact absurd h (by decide)
  · exact absurd h (by decide)
  · exact absurd h (by decide)
  · exact absurd h (by decide)
theorem tyS_15 {c : Int32} {T T' : List Bool} (hc : c = 15 ∨ c = 16) (h : tyS c T T') : ∃ r, T = true :: true :: r ∧ T' = true :: r := by
  rcases h with ⟨x, hx, h, -⟩ | ⟨x, -, hx, h, -⟩ | ⟨h, -⟩ | ⟨h, -⟩ | ⟨-, r, h1, h2⟩ | ⟨h, -⟩ | ⟨h | h, -⟩
  · rcases hc with rfl | rfl
    · have := nl (k := 15) (by decide) (by omega) h; omega
    · have := nl (k := 16) (by decide) (by omega) h; omega
  · rcases hc with rfl | rfl
    · have := nl (k := 15) (by decide) (by omega) h; omega
    · have := nl (k := 16) (by decide) (by omega) h; omega
  · rcases hc with rfl | rfl <;> exact absurd h (by decide)
  · rcases hc with rfl | rfl <;> exact absurd h (by decide)
  · exact ⟨r, h1, h2⟩
  · rcases hc with rfl | rfl <;> exact absurd h (by decide)
  · rcases hc with rfl | rfl <;> exact absurd h (by decide)
  · rcases hc with rfl | rfl <;> exact absurd h (by decide)
theorem tyS_11 {T T' : List Bool} (h : tyS 11 T T') : ∃ r, T = false :: false :: r ∧ T' = false :: r := by
  rcases h with ⟨x, hx, h, -⟩ | ⟨x, -, hx, h, -⟩ | ⟨h, -⟩ | ⟨h, -⟩ | ⟨h | h, -⟩ | ⟨-, r, h1, h2⟩ | ⟨h | h, -⟩
  · have := nl (k := 11) (by decide) (by omega) h; omega
  · have := nl (k := 11) (by decide) (by omega) h; omega
  · exact absurd h (by decide)
  · exact absurd h (by decide)
  · exact absurd h (by decide)
  · exact absurd h (by decide)
  · exact ⟨r, h1, h2⟩
  · exact absurd h (by decide)
  · exact absurd h (by decide)
theorem tyS_12 {c : Int32} {T T' : List Bool} (hc : c = 12 ∨ c = 13) (h : tyS c T T') : ∃ r, T = false :: false :: r ∧ T' = true :: r := by
  rcases h with ⟨x, hx, h, -⟩ | ⟨x, -, hx, h, -⟩ | ⟨h, -⟩ | ⟨h, -⟩ | ⟨h | h, -⟩ | ⟨h, -⟩ | ⟨-, r, h1, h2⟩
  · rcases hc with rfl | rfl
    · have := nl (k := 12) (by decide) (by omega) h; omega
    · have := nl (k := 13) (by decide) (by omega) h; omega
  · rcases hc with rfl | rfl
    · have := nl (k := 12) (by decide) (by omega) h; omega
    · have := nl (k := 13) (by decide) (by omega) h; omega
  · rcases hc with rfl | rfl <;> exact absurd h (by decide)
  · rcases hc with rfl | rfl <;> exact absurd h (by decide)
  · rcases hc with rfl | rfl <;> exact absurd h (by decide)
  · rcases hc with rfl | rfl <;> exact absurd h (by decide)
  · rcases hc with rfl | rfl <;> exact absurd h (by decide)
  · exact ⟨r, h1, h2⟩
theorem mB01 {b : Bool} : mB b = 0 ∨ mB b = 1 := by
  cases b
  · exact Or.inl rfl
  · exact Or.inr rfl
theorem tyO_1 {b : Bool} {r : List Bool} {S : List Int32} (h : tyO (b :: r) S) : ∃ v S', S = v :: S' ∧ (b = true → v = 0 ∨ v = 1) ∧ tyO r S' := by
  cases S with
  | nil => exact h.elim
  | cons v S' => exact ⟨v, S', rfl, h.1, h.2⟩
theorem tyO_2 {b c : Bool} {r : List Bool} {S : List Int32} (h : tyO (b :: c :: r) S) : ∃ y x S', S = y :: x :: S' ∧ (b = true → y = 0 ∨ y = 1) ∧ (c = true → x = 0 ∨ x = 1) ∧ tyO r S' := by
  obtain ⟨y, S1, rfl, h1, h2⟩ := tyO_1 h
  obtain ⟨x, S2, rfl, h3, h4⟩ := tyO_1 h2
  exact ⟨y, x, S2, rfl, h1, h3, h4⟩
theorem stp_14 {f v : Int32} {S : List Int32} : stp f 14 (v :: S) = (1 - v) :: S := rfl
theorem stp_2 {f c x y : Int32} {S : List Int32} (hc : c = 11 ∨ c = 12 ∨ c = 13 ∨ c = 15 ∨ c = 16) : stp f c (y :: x :: S) = op2 c x y :: S := by
  rcases hc with rfl | rfl | rfl | rfl | rfl <;> rfl
/-- the types go on -/
theorem tyO_s {f c s a : Int32} {T T' : List Bool} {S : List Int32} (hcr : CR s c a) (hty : tyS c T T') (hO : tyO T S) (hf : ∀ x, 7 ≤ x → x ≤ 9 → c = nI x → f = 0 ∨ f = 1) : tyO T' (stp f c S) := by
  rcases hty with ⟨x, hx, rfl, rfl⟩ | ⟨x, h7, hx, rfl, rfl⟩ | ⟨rfl, rfl⟩ | ⟨rfl, r, rfl, rfl⟩ | ⟨hc, r, rfl, rfl⟩ | ⟨rfl, r, rfl, rfl⟩ | ⟨hc, r, rfl, rfl⟩
  · rw [stp_lo (by omega)]
    exact ⟨fun z => by (cases z), hO⟩
  · rw [stp_lo (by omega)]
    exact ⟨fun _ => hf x h7 hx rfl, hO⟩
  · rw [show (10 : Int32) = nI 10 from rfl, stp_lo (by omega)]
    exact ⟨fun z => by (cases z), hO⟩
  · obtain ⟨v, S', rfl, h1, h2⟩ := tyO_1 hO
    rw [stp_14]
    refine ⟨fun _ => ?_, h2⟩
    rcases h1 rfl with rfl | rfl
    · exact Or.inr rfl
    · exact Or.inl rfl
  · obtain ⟨y, x, S', rfl, h1, h2, h3⟩ := tyO_2 hO
    rw [stp_2 (by rcases hc with rfl | rfl <;> decide)]
    refine ⟨fun _ => ?_, h3⟩
    unfold op2
    rw [decide_eq_false (by rcases hc with rfl | rfl <;> decide), cond_false]
    exact mB01
  · obtain ⟨y, x, S', rfl, h1, h2, h3⟩ := tyO_2 hO
    rw [stp_2 (by decide)]
    exact ⟨fun z => by (cases z), h3⟩
  · obtain ⟨y, x, S', rfl, h1, h2, h3⟩ := tyO_2 hO
    rw [stp_2 (by rcases hc with rfl | rfl <;> decide)]
    refine ⟨fun _ => ?_, h3⟩
    unfold op2
    rw [decide_eq_false (by rcases hc with rfl | rfl <;> decide), cond_false]
    exact mB01
/-! facts of one -/
def topB (n : Nat) (W : Nat → Int32) (p : Nat) : Bool := upB W p && !exK (fun q => hs (pv W q 6) p) n
def factV (n : Nat) (W : Nat → Int32) (c a : Int32) (p : Nat) : Int32 := bif decide (swN c 0 10 = 0) then nI p else bif decide (swN c 0 10 = 1) then mMax 0 (pv W p 5) else bif decide (swN c 0 10 = 2) then rCar n W (fun _ => 0) p else bif decide (swN c 0 10 = 3) then pv W p 2 else bif decide (swN c 0 10 = 4) then pv W p 0 else bif decide (swN c 0 10 = 5) then pv W p 4 else bif decide (swN c 0 10 = 6) then W 3 else bif decide (swN c 0 10 = 7) then pv W p 3 else bif decide (swN c 0 10 = 8) then (bif upB W p then 0 else 1) else bif decide (swN c 0 10 = 9) then (bif topB n W p then 1 else 0) else a
theorem exK_n {c : Nat → Bool} {n : Nat} (h : ∀ q, n ≤ q → q < 8 → c q = false) : ∀ m, n ≤ m → m ≤ 8 → exK c m = exK c n := by
  intro m
  induction m with
  | zero => intro h1 _; rw [show n = 0 by omega]
  | succ m ih =>
    intro h1 h2
    by_cases hm : n ≤ m
    · rw [exK_s, h m hm (by omega), Bool.or_false, ih hm (by omega)]
    · rw [show n = m + 1 by omega]
theorem exK_congr {c d : Nat → Bool} : ∀ {k : Nat}, (∀ j, j < k → c j = d j) → exK c k = exK d k := by
  intro k
  induction k with
  | zero => intro _; rfl
  | succ k ih => intro h; rw [exK_s, exK_s, ih fun j hj => h j (by omega), h k (by omega)]
theorem hs_trod {M : mM} {o p : Nat} : ∀ k, hs (tTrod M o k) p = exK (fun q => hs (M (o + 6) q) p) k := by
  intro k
  induction k with
  | zero => exact hs_0 p
  | succ k ih =>
    show hs (tTrod M o k ||| M (o + 6) k) p = _
    rw [hs_or, ih]
    rfl
section
variable {n : Nat} {W : Nat → Int32}
theorem WF.sl01 (hw : WF n W) {p : Nat} (hp : p < n) : pv W p 3 = 0 ∨ pv W p 3 = 1 := (hw.2.2.1 p hp).1
theorem top_8 (hw : WF n W) {M : mM} {o p : Nat} (h : TS n W M o) (hp : p < n) : f_X11_has (M o 1 &&& (M o 14 ^^^ (-1 : Int32))) (nI p) = topB n W p := by
  have h8 := hw.2.1
  rw [has_hs (by omega), hs_and, hs_nn (by omega), h.1.2.1, hs_ups (by omega), decide_eq_true hp, Bool.true_and, h.2.1, hs_trod]
  unfold topB
  rw [exK_n (n := n) (fun q h1 h2 => by rw [(h.1.p0 h1 h2).2.2, hs_0]) 8 h8 (Nat.le_refl 8)]
  rw [exK_congr (d := fun q => hs (pv W q 6) p) fun q hq => by rw [(h.1.pp hq).2.2.2.2.1]]
theorem mMax_ring (hw : WF n W) {p : Nat} (hp : p < n) : mMax 0 (pv W p 5) = bif upB W p then pv W p 5 else 0 := by
  rcases hw.rg hp with e | ⟨r, hr, e⟩
  · have : upB W p = false := by unfold upB; rw [e]; rfl
    rw [this, e]
    rfl
  · rw [ring_up (by omega) e, e]
    match r, hr with
    | 0, _ => rfl
    | 1, _ => rfl
    | 2, _ => rfl
    | 3, _ => rfl
    | 4, _ => rfl
theorem C_ofOne (hw : WF n W) {M : mM} {o p x : Nat} (h : TS n W M o) (ho : mTwB o = true) (hp : p < n) (hx : x ≤ 9) {a : Int32} : f_X0_ofOne (nI (1000 + x)) o (nI p) M = some (factV n W (nI x) a p) := by
  have h8 := hw.2.1
  have g := h.1.pp hp
  have hu : f_X11_has (M o 1) (nI p) = upB W p := by rw [has_hs (by omega), h.1.2.1, hs_ups (by omega), decide_eq_true hp, Bool.true_and]
  have hl : f_X11_has (M o 2) (nI p) = slB W p := by rw [has_hs (by omega), h.1.2.2.1, hs_sls (by omega), decide_eq_true hp, Bool.true_and]
  unfold f_X0_ofOne factV
  have e3 : pv W p 3 = bif slB W p then (1 : Int32) else 0 := by
    unfold slB
    rcases hw.sl01 hp with e | e <;> rw [e] <;> rfl
  rw [gd_t ho, hu, hl, top_8 hw h hp, mMax_ring hw hp, e3]
  simp only [gd_t (i_in (show p < 8 by omega) i_28), i_ix (show p < 2 ^ 31 by omega), h.2.2 p (by omega), g.1, g.2.2.1, g.2.2.2.1, h.1.2.2.2.1]
  match x, hx with
  | 0, _ => rfl
  | 1, _ =>
    show (bif upB W p then some (M (o + 5) p) else some 0) = some (bif upB W p then pv W p 5 else 0)
    cases hu2 : upB W p
    · rfl
    · rw [g.2.2.2.2.2 hu2]; rfl
  | 2, _ => rfl
  | 3, _ => rfl
  | 4, _ => rfl
  | 5, _ => rfl
  | 6, _ => rfl
  | 7, _ =>
    generalize slB W p = b
    show (bif b then some (1 : Int32) else some 0) = some (bif b then (1 : Int32) else 0)
    cases b <;> rfl
  | 8, _ =>
    show (bif upB W p then some (0 : Int32) else some 1) = some (bif upB W p then 0 else 1)
    cases upB W p <;> rfl
  | 9, _ =>
    show (bif topB n W p then some (1 : Int32) else some 0) = some (bif topB n W p then 1 else 0)
    cases topB n W p <;> rfl
theorem m_isTop {M : mM} (hn : M 216 0 = nI n) (h8 : n ≤ 8) {p : Nat} (hp : p < 8) : f_X12_isTop (nI p) M = some (topB n (M 216) p) := by
  unfold f_X12_isTop f_X12_isTop_l6 topB
  rw [m_isUp hp, b1_s]
  refine wh_ne (fun k => (upB (M 216) p && !exK (fun q => hs (pv (M 216) q 6) p) k, nI k)) n _ (by omega) ?_ (fun k hk => ?_) ?_
  · show (upB (M 216) p, (0 : Int32)) = (upB (M 216) p && !false, nI 0)
    rw [Bool.not_false, Bool.and_true]
    rfl
  · show f_X12_isTop_6 (nI p) (upB (M 216) p && !exK (fun q => hs (pv (M 216) q 6) p) k) (nI k) M = _
    unfold f_X12_isTop_6
    rw [m_ppl hn, b1_s, bif_f (i_len hk h8), show (6 : Int32) = nI 6 from rfl, m_of (by omega) (by decide), b1_s, mhas_hs (by omega), i_1, exK_s]
    cases upB (M 216) p <;> cases exK (fun q => hs (pv (M 216) q 6) p) k <;> cases hs (pv (M 216) k 6) p <;> rfl
  · show f_X12_isTop_6 (nI p) (upB (M 216) p && !exK (fun q => hs (pv (M 216) q 6) p) n) (nI n) M = _
    unfold f_X12_isTop_6
    rw [m_ppl hn, b1_s, bif_t (i_lee n)]
theorem m_factOf {M : mM} (hn : M 216 0 = nI n) (h8 : n ≤ 8) {p : Nat} (hp : p < 8) (hb : M 221 p = rCar n (M 216) (fun _ => 0) p) {c a : Int32} : f_X12_factOf c a (nI p) M = some (factV n (M 216) c a p) := by
  unfold f_X12_factOf factV
  simp only [show (5 : Int32) = nI 5 from rfl, show (4 : Int32) = nI 4 from rfl, show (3 : Int32) = nI 3 from rfl, show (2 : Int32) = nI 2 from rfl, m_of hp (show 5 < 7 by decide), m_of hp (show 4 < 7 by decide), m_of hp (show 3 < 7 by decide), m_of hp (show 2 < 7 by decide), b1_s, m_isUp hp, m_isTop hn h8 hp, gd_t (i_in hp i_28), i_ix (show p < 2 ^ 31 by omega), i_ix (show 3 < 2 ^ 31 by decide), hb]
  rw [show (0 : Int32) = nI 0 from rfl, m_of hp (show 0 < 7 by decide), b1_s]
  cases decide (swN c 0 10 = 0) <;> cases decide (swN c 0 10 = 1) <;> cases decide (swN c 0 10 = 2) <;> cases decide (swN c 0 10 = 3) <;> cases decide (swN c 0 10 = 4) <;> try rfl
  all_goals (cases decide (swN c 0 10 = 5) <;> cases decide (swN c 0 10 = 6) <;> cases decide (swN c 0 10 = 7) <;> try rfl)
  all_goals (cases decide (swN c 0 10 = 8) <;> cases decide (swN c 0 10 = 9) <;> cases upB (M 216) p <;> cases topB n (M 216) p <;> rfl)
end
