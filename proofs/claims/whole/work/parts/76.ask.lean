/-! ask -/
def cntL (f : Nat → Nat) (v : Nat) : List Nat → Nat
  | [] => 0
  | t :: L => (if f t = v then 1 else 0) + cntL f v L
theorem cntL_a (f : Nat → Nat) (v t : Nat) : ∀ L, cntL f v (L ++ [t]) = cntL f v L + (if f t = v then 1 else 0) := by
  intro L
  induction L with
  | nil => show _ + 0 = 0 + _; rw [Nat.zero_add]; rfl
  | cons a L ih =>
    show _ + cntL f v (L ++ [t]) = _ + cntL f v L + _
    rw [ih]
    omega
theorem cntL_le (f : Nat → Nat) (v : Nat) : ∀ L, cntL f v L ≤ L.length := by
  intro L
  induction L with
  | nil => exact Nat.le_refl _
  | cons a L ih =>
    show _ + cntL f v L ≤ L.length + 1
    by_cases h : f a = v
    · rw [if_pos h]; omega
    · rw [if_neg h]; omega
/-- v is the greatest part -/
def isG (f : Nat → Nat) (L : List Nat) (v : Nat) : Prop := (∀ t, t ∈ L → cntL f (f t) L ≤ v) ∧ (v = 0 ∨ ∃ t, t ∈ L ∧ v = cntL f (f t) L)
theorem isG_eq {f : Nat → Nat} {L : List Nat} {v v' : Nat} (h : isG f L v) (h' : isG f L v') : v = v' := by
  have key : ∀ a b, isG f L a → isG f L b → a ≤ b := fun a b ha hb => by
    rcases ha.2 with e | ⟨t, ht, e⟩
    · omega
    · rw [e]; exact hb.1 t ht
  have := key v v' h h'
  have := key v' v h' h
  omega
theorem isG_a {f : Nat → Nat} {L : List Nat} {v t : Nat} (h : isG f L v) : isG f (L ++ [t]) (max v (cntL f (f t) (L ++ [t]))) := by
  have hc := fun s => cntL_a f s t L
  constructor
  · intro s hs'
    by_cases e : f s = f t
    · rw [e]; omega
    · rw [hc, if_neg fun z => e z.symm]
      rcases List.mem_append.mp hs' with hm | hm
      · have := h.1 s hm
        omega
      · rw [List.mem_singleton] at hm
        exact absurd (by rw [hm]) e
  · right
    by_cases hle : v ≤ cntL f (f t) (L ++ [t])
    · exact ⟨t, List.mem_append.mpr (Or.inr (List.mem_singleton.mpr rfl)), by omega⟩
    · rcases h.2 with e | ⟨s, hs', e⟩
      · omega
      · refine ⟨s, List.mem_append.mpr (Or.inl hs'), ?_⟩
        by_cases es : f t = f s
        · have h1 := hc (f t)
          have h2 := hc (f s)
          rw [if_pos rfl] at h1
          rw [es] at h1 hle ⊢
          omega
        · have h2 := hc (f s)
          rw [if_neg es] at h2
          omega
section
variable {n : Nat} {W : Nat → Int32}
def ldN (n : Nat) (W : Nat → Int32) (q t : Nat) : Nat := nLd n (slW n W (nI t)) q
theorem wT_99 {W : Nat → Int32} (h8 : n ≤ 8) (h : ∀ p, p < n → ∃ x, x ≤ 99 ∧ pv W p 0 = nI x) : wT n W ≤ 792 := by
  refine Nat.le_trans (sN_le (g := fun _ => 99) fun p _ => ?_) (by decide)
  unfold wN
  by_cases hp : p < n
  · obtain ⟨x, hx, e⟩ := h p hp
    rw [if_pos hp, e, i_toInt (by omega)]
    omega
  · rw [if_neg hp]; omega
theorem sl_sf (hw : WF n W) (t : Int32) : SF n (slW n W t) := by
  have h8 := hw.2.1
  refine ⟨h8, fun p hp => ?_, fun p hp => ?_⟩
  · have eb : ∀ j, hs (rBy n (slW n W t) p) j = true → hs (pv W p 6) j = true := fun j e => by
      unfold rBy at e
      rw [hs_and, sW_c (by omega) (by decide) (by decide), Bool.and_eq_true] at e
      exact e.1
    rw [sW_c (by omega) (by decide) (by decide)]
    refine ⟨hw.rg hp, ?_, fun q hq e => ?_⟩
    · unfold rBy
      exact S8.andr (S8.set _)
    · obtain ⟨a, b, -⟩ := (hw.2.2.1 p hp).2.2.2.2 q hq (eb q e)
      rw [sW_c (by omega) (by decide) (by decide)]
      exact ⟨a, b⟩
  · obtain ⟨x, -, hx, e⟩ := (hw.2.2.2.1 p hp).1
    rw [sW_c (by omega) (by decide) (by decide)]
    exact ⟨x, by omega, e⟩
theorem ld_t (hw : WF n W) {q : Nat} (hq : q < 8) (t : Nat) : ldT n W (nI t) q = nI (ldN n W q t) ∧ ldN n W q t ≤ 792 := by
  have h8 := hw.2.1
  obtain ⟨g1, g2⟩ := ld_n (sl_sf hw (nI t)) (b := fun _ => 0) hq
  have h792 : wT n (slW n W (nI t)) ≤ 792 := wT_99 h8 fun p hp => by
    obtain ⟨x, -, hx, e⟩ := (hw.2.2.2.1 p hp).1
    rw [sW_c (by omega) (by decide) (by decide)]
    exact ⟨x, hx, e⟩
  refine ⟨g1, ?_⟩
  unfold ldN
  omega
/-- the class counts by the load -/
theorem C_part (hw : WF n W) {L : List Nat} {N : mM} (hk : kpt n W L N) (hl : L.length ≤ 256) {q : Nat} (hq : q < 8) : ∃ v N', f_X6_greatestPart (nI q) N = some (nI v, N') ∧ isG (ldN n W q) L v ∧ v ≤ 256 ∧ ∀ z, z ≠ 9 → N' z = N z := by
  have h793 : ∀ k, k < 793 → decide ((792 : Int32) < nI k) = false := fun k hk => (i_lt (a := 792) (by decide) (by omega)).trans (decide_eq_false (by omega))
  -- the inner loop
  have inner : ∀ N1 : mM, (∀ z, z ≠ 9 → N1 z = N z) → (∀ x, x < 793 → N1 9 x = 0) → ∃ v N', f_X6_greatestPart_l16 (nI q) 0 0 N1 = some (nI v, N') ∧ isG (ldN n W q) L v ∧ v ≤ 256 ∧ ∀ z, z ≠ 9 → N' z = N z := fun N1 f1 z1 => by
    unfold f_X6_greatestPart_l16
    obtain ⟨r, e1, v, N', e2, e3⟩ := wh_P (b := fun s : Int32 × Int32 × mM => f_X6_greatestPart_16 (nI q) s.1 s.2.1 s.2.2) (fun k (s : Int32 × Int32 × mM) => ∃ v, s.1 = nI v ∧ s.2.1 = nI k ∧ isG (ldN n W q) (L.take k) v ∧ v ≤ k ∧ (∀ x, x < 793 → s.2.2 9 x = nI (cntL (ldN n W q) x (L.take k))) ∧ ∀ z, z ≠ 9 → s.2.2 z = N z) (fun r => ∃ v N', r = (nI v, N') ∧ isG (ldN n W q) L v ∧ v ≤ 256 ∧ ∀ z, z ≠ 9 → N' z = N z) 256 100000 ((0 : Int32), (0 : Int32), N1) ⟨0, rfl, rfl, ⟨fun t ht => (by cases ht), Or.inl rfl⟩, Nat.le_refl _, fun x hx => z1 x hx, f1⟩ (fun k hk' s hs' => by
      obtain ⟨a, i, X⟩ := s
      obtain ⟨v, h1, h2, h3, h4, h5, h6⟩ := hs'
      dsimp only at h1 h2 h5 h6
      subst h1 h2
      show ∃ s', f_X6_greatestPart_16 (nI q) (nI v) (nI k) X = some (.inr s') ∧ _
      unfold f_X6_greatestPart_16 f_X6_greatestPart_33
      have e5 : X 5 4 = nI L.length := by rw [h6 5 (by decide)]; exact hk.1
      rw [i_256 hk', cond_false, e5, i_le (by omega) (by omega), i_1]
      by_cases hkl : k < L.length
      · have ht : L[k]? = some L[k] := List.getElem?_eq_getElem hkl
        generalize L[k] = t at ht
        obtain ⟨g1, g2⟩ := ld_t hw hq t
        have e7 : X 7 (8 * k + q) = nI (ldN n W q t) := by rw [h6 7 (by decide), (hk.2 k t ht).2 q hq, g1]
        have e8 : nI k * (8 : Int32) + nI q = nI (8 * k + q) := by rw [show (8 : Int32) = nI 8 from rfl, pk_mul, nI_add, Nat.mul_comm]
        have tk := take_s L ht
        have hle := cntL_le (ldN n W q) (ldN n W q t) (L.take k)
        have hlen : (L.take k).length ≤ k := by rw [List.length_take]; omega
        rw [decide_eq_false (by omega), cond_false, e8, gd_t (i_in (by omega) (by decide)), i_ix (by omega), e7, decide_eq_false (nI_pos (by omega)), cond_false, h793 _ (by omega), cond_false, gd_t (i_in (by omega) (by decide)), gd_t (i_in (by omega) (by decide)), wr_e, i_ix (by omega), mst_oo, h5 _ (by omega), i_1, gd_t (i_in (by omega) (by decide))]
        have ec : cntL (ldN n W q) (ldN n W q t) (L.take k ++ [t]) = cntL (ldN n W q) (ldN n W q t) (L.take k) + 1 := by rw [cntL_a, if_pos rfl]
        rw [mMax_n (by omega) (by omega)]
        refine ⟨_, rfl, max v (cntL (ldN n W q) (ldN n W q t) (L.take k) + 1), rfl, rfl, ?_, by omega, fun x hx => ?_, fun z hz => (mst_no hz).trans (h6 z hz)⟩
        · rw [tk, ← ec]
          exact isG_a h3
        · show mst X 9 (ldN n W q t) _ 9 x = _
          rw [tk, cntL_a]
          by_cases hx' : x = ldN n W q t
          · subst hx'
            rw [mst_oo, if_pos rfl]
          · rw [mst_nk hx', if_neg (fun z => hx' z.symm), Nat.add_zero]
            exact h5 x hx
      · have tk := take_n L (i := k) (by omega)
        rw [decide_eq_true (by omega), cond_true, show decide ((-1 : Int32) < 0) = true from rfl, cond_true]
        exact ⟨_, rfl, v, rfl, rfl, by rw [tk]; exact h3, by omega, fun x hx => by rw [tk]; exact h5 x hx, h6⟩) (fun s hs' => by
      obtain ⟨a, i, X⟩ := s
      obtain ⟨v, h1, h2, h3, h4, h5, h6⟩ := hs'
      dsimp only at h1 h2 h5 h6
      subst h1 h2
      rw [List.take_of_length_le hl] at h3
      show ∃ r, f_X6_greatestPart_16 (nI q) (nI v) (nI 256) X = some (.inl r) ∧ _
      unfold f_X6_greatestPart_16
      rw [i_2566, cond_true]
      exact ⟨_, rfl, v, X, rfl, h3, h4, h6⟩) (by decide)
    exact ⟨v, N', by rw [← e2]; exact e1, e3⟩
  -- the clearing
  unfold f_X6_greatestPart f_X6_greatestPart_l2
  obtain ⟨r, e1, v, N', e2, e3⟩ := wh_P (b := fun s : Int32 × mM => f_X6_greatestPart_2 (nI q) s.1 s.2) (fun k (s : Int32 × mM) => s.1 = nI k ∧ (∀ z, z ≠ 9 → s.2 z = N z) ∧ ∀ x, x < k → s.2 9 x = 0) (fun r => ∃ v N', r = (nI v, N') ∧ isG (ldN n W q) L v ∧ v ≤ 256 ∧ ∀ z, z ≠ 9 → N' z = N z) 793 100000 ((0 : Int32), N) ⟨rfl, fun _ _ => rfl, fun x hx => absurd hx (Nat.not_lt_zero x)⟩ (fun k hk' s hs' => by
    obtain ⟨i, X⟩ := s
    obtain ⟨h1, h2, h3⟩ := hs'
    dsimp only at h1 h2 h3
    subst h1
    show ∃ s', f_X6_greatestPart_2 (nI q) (nI k) X = some (.inr s') ∧ _
    unfold f_X6_greatestPart_2
    rw [h793 k hk', cond_false, gd_t (i_in hk' (by decide)), wr_e, i_ix (by omega), i_1]
    refine ⟨_, rfl, rfl, fun z hz => (mst_no hz).trans (h2 z hz), fun x hx => ?_⟩
    show mst X 9 k 0 9 x = 0
    by_cases hxk : x = k
    · subst hxk; rw [mst_oo]
    · rw [mst_nk hxk]; exact h3 x (by omega)) (fun s hs' => by
    obtain ⟨i, X⟩ := s
    obtain ⟨h1, h2, h3⟩ := hs'
    dsimp only at h1 h2 h3
    subst h1
    obtain ⟨v, N', g1, g2⟩ := inner X h2 h3
    show ∃ r, f_X6_greatestPart_2 (nI q) (nI 793) X = some (.inl r) ∧ _
    unfold f_X6_greatestPart_2
    rw [show decide ((792 : Int32) < nI 793) = true from rfl, cond_true, g1, b1_s]
    exact ⟨_, rfl, v, N', rfl, g2⟩) (by decide)
  exact ⟨v, N', by rw [← e2]; exact e1, e3⟩
/-- the reference counts by comparing -/
theorem m_part (hw : WF n W) {N : mM} (e : N 216 = W) (ht : tab n W 256 N) {p q : Nat} (hp : p < n) (hq : q < n) : ∃ v, f_X12_partBy (nI p) (nI q) N = some (nI v) ∧ isG (ldN n W q) (flt (feB n W p) 256) v := by
  have h8 := hw.2.1
  have hn' : N 216 0 = nI n := by rw [e]; exact hw.1
  have e8 : ∀ x, (8 : Int32) * nI x + nI q = nI (8 * x + q) := fun x => by rw [show (8 : Int32) = nI 8 from rfl, pk_mul, nI_add]
  have l229 : ∀ t, t < 256 → feB n W p t = true → N 229 (8 * t + q) = nI (ldN n W q t) := fun t h1 h2 => by
    unfold feB at h2
    rw [Bool.and_eq_true] at h2
    rw [(ht t h1).2 h2.1 q hq, (ld_t hw (by omega) t).1]
  generalize hF : feB n W p = F at l229
  have fs : ∀ t, t < 256 → f_X12_feelsSo (nI t) (nI p) (slS n W &&& upS n W) N = some (F t) := fun t h1 => by rw [m_feels hw ht hp h1, hF]
  have inner : ∀ t x, t < 256 → F t = true → f_X12_partBy_l21 (nI p) (nI q) (slS n W &&& upS n W) x (nI t) 0 0 N = some (.inr (mMax x (nI (cntL (ldN n W q) (ldN n W q t) (flt F 256))), nI (t + 1))) := fun t x h1 h2 => by
    unfold f_X12_partBy_l21
    obtain ⟨A, hA⟩ : ∃ A : Nat → Nat, ∀ k, A k = cntL (ldN n W q) (ldN n W q t) (flt F k) := ⟨_, fun _ => rfl⟩
    rw [← hA 256]
    refine wh_ne (fun k => (nI (A k), nI k)) 256 _ (by decide) (by rw [hA 0]; rfl) (fun k hk => ?_) ?_
    · show f_X12_partBy_21 (nI p) (nI q) _ x (nI t) (nI (A k)) (nI k) N = some (.inr (nI (A (k + 1)), nI (k + 1)))
      unfold f_X12_partBy_21
      rw [i_256 hk, cond_false, fs k hk, b1_s, i_1 k]
      have eA : A (k + 1) = cntL (ldN n W q) (ldN n W q t) (flt F (k + 1)) := hA (k + 1)
      cases c : F k
      · rw [flt_0 c, ← hA] at eA
        rw [cond_false, eA, Int32.add_zero]
      · rw [flt_1 c, cntL_a, ← hA] at eA
        rw [cond_true, e8, e8, gd_t (i_in (by omega) (by decide)), gd_t (i_in (by omega) (by decide)), i_ix (by omega), i_ix (by omega), l229 k hk c, l229 t h1 h2, dn, i_eq (by have := (ld_t hw (show q < 8 by omega) k).2; omega) (by have := (ld_t hw (show q < 8 by omega) t).2; omega)]
        by_cases hv : ldN n W q k = ldN n W q t
        · rw [if_pos hv] at eA
          rw [decide_eq_true hv, Bool.not_true, cond_false, eA, i_1]
        · rw [if_neg hv] at eA
          rw [decide_eq_false hv, Bool.not_false, cond_true, eA, Int32.add_zero]
          rfl
    · show f_X12_partBy_21 (nI p) (nI q) _ x (nI t) (nI (A 256)) (nI 256) N = _
      unfold f_X12_partBy_21
      rw [i_2566, cond_true, i_1]
  unfold f_X12_partBy f_X12_partBy_l7
  rw [m_slUp hn' h8, b1_s, e]
  -- the greatest so far, against all kept
  obtain ⟨r, e1, v, e2, e3⟩ := wh_P (b := fun s : Int32 × Int32 => f_X12_partBy_7 (nI p) (nI q) (slS n W &&& upS n W) s.1 s.2 N) (fun k (s : Int32 × Int32) => ∃ v, s.1 = nI v ∧ s.2 = nI k ∧ v ≤ 256 ∧ (∀ t, t < k → F t = true → cntL (ldN n W q) (ldN n W q t) (flt F 256) ≤ v) ∧ (v = 0 ∨ ∃ t, t < k ∧ F t = true ∧ v = cntL (ldN n W q) (ldN n W q t) (flt F 256))) (fun r => ∃ v, r = nI v ∧ isG (ldN n W q) (flt F 256) v) 256 100000 ((0 : Int32), (0 : Int32)) ⟨0, rfl, rfl, by omega, fun t ht' => absurd ht' (Nat.not_lt_zero t), Or.inl rfl⟩ (fun k hk s hs' => by
    obtain ⟨a, i⟩ := s
    obtain ⟨v, h1, h2, h3, h4, h5⟩ := hs'
    dsimp only at h1 h2
    subst h1 h2
    show ∃ s', f_X12_partBy_7 (nI p) (nI q) (slS n W &&& upS n W) (nI v) (nI k) N = some (.inr s') ∧ _
    unfold f_X12_partBy_7
    rw [i_256 hk, cond_false, fs k hk, b1_s]
    cases c : F k
    · rw [cond_false, i_1]
      refine ⟨_, rfl, v, rfl, rfl, h3, fun t h6 h7 => ?_, h5.imp id fun ⟨t, a, b, c⟩ => ⟨t, by omega, b, c⟩⟩
      by_cases htk : t = k
      · subst htk; rw [c] at h7; cases h7
      · exact h4 t (by omega) h7
    · have hcl := cntL_le (ldN n W q) (ldN n W q k) (flt F 256)
      have hfl := flt_len F 256
      rw [cond_true, inner k _ hk c, mMax_n (by omega) (by omega)]
      refine ⟨_, rfl, _, rfl, rfl, by omega, fun t h6 h7 => ?_, ?_⟩
      · by_cases htk : t = k
        · subst htk; omega
        · have := h4 t (by omega) h7
          omega
      · by_cases hv : v ≤ cntL (ldN n W q) (ldN n W q k) (flt F 256)
        · exact Or.inr ⟨k, by omega, c, by omega⟩
        · rcases h5 with h5 | ⟨t, g1, g2, g3⟩
          · omega
          · exact Or.inr ⟨t, by omega, g2, by omega⟩) (fun s hs' => by
    obtain ⟨a, i⟩ := s
    obtain ⟨v, h1, h2, h3, h4, h5⟩ := hs'
    dsimp only at h1 h2
    subst h1 h2
    show ∃ r, f_X12_partBy_7 (nI p) (nI q) (slS n W &&& upS n W) (nI v) (nI 256) N = some (.inl r) ∧ _
    unfold f_X12_partBy_7
    rw [i_2566, cond_true]
    have mem : ∀ k t, t ∈ flt F k ↔ t < k ∧ F t = true := by
      intro k
      induction k with
      | zero => intro t; exact ⟨fun h => (by cases h), fun h => absurd h.1 (Nat.not_lt_zero t)⟩
      | succ k ih =>
        intro t
        rw [flt_s, List.mem_append, ih]
        cases c : F k
        · rw [cond_false]
          constructor
          · rintro (⟨a, b⟩ | h)
            · exact ⟨by omega, b⟩
            · cases h
          · rintro ⟨a, b⟩
            refine Or.inl ⟨?_, b⟩
            by_cases htk : t = k
            · subst htk; rw [c] at b; cases b
            · omega
        · rw [cond_true, List.mem_singleton]
          constructor
          · rintro (⟨a, b⟩ | h)
            · exact ⟨by omega, b⟩
            · subst h; exact ⟨by omega, c⟩
          · rintro ⟨a, b⟩
            by_cases htk : t = k
            · exact Or.inr htk
            · exact Or.inl ⟨by omega, b⟩
    refine ⟨_, rfl, v, rfl, fun t hm => ?_, ?_⟩
    · obtain ⟨a, b⟩ := (mem 256 t).mp hm
      exact h4 t a b
    · rcases h5 with h5 | ⟨t, g1, g2, g3⟩
      · exact Or.inl h5
      · exact Or.inr ⟨t, (mem 256 t).mpr ⟨g1, g2⟩, g3⟩) (by decide)
  exact ⟨v, by rw [← e2]; exact e1, e3⟩
end
