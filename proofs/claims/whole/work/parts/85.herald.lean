/-! herald -/
section
variable {n : Nat} {M : mM}
theorem Op_herald (h : Rl n M) : OpR M f_X11_herald f_X12_herald := by
  have h8 := h.h8
  have hn := h.hn
  obtain ⟨T, hT⟩ : ∃ T : Nat → Int32, ∀ k, k < 8 → (T k = -1 ∨ ∃ j, j < 8 ∧ T k = nI j) ∧ f_X8_steps 35 (nI k) (hoS n (M 216)) M = some (T k) ∧ ∀ N : mM, N 216 = M 216 → f_X12_tellOf (nI k) N = some (T k) :=
    ⟨fun k => Classical.epsilon fun v => (v = -1 ∨ ∃ j, j < 8 ∧ v = nI j) ∧ f_X8_steps 35 (nI k) (hoS n (M 216)) M = some v ∧ ∀ N : mM, N 216 = M 216 → f_X12_tellOf (nI k) N = some v, fun k hk => Classical.epsilon_spec (p := fun v => (v = -1 ∨ ∃ j, j < 8 ∧ v = nI j) ∧ f_X8_steps 35 (nI k) (hoS n (M 216)) M = some v ∧ ∀ N : mM, N 216 = M 216 → f_X12_tellOf (nI k) N = some v) (tell_v h hk)⟩
  obtain ⟨G, hG⟩ : ∃ G : Nat → Nat, ∀ k, G k = (T k).toInt.toNat := ⟨_, fun _ => rfl⟩
  have hg : ∀ k, k < 8 → T k ≠ -1 → T k = nI (G k) ∧ G k < 8 := fun k hk hne => by
    rcases (hT k hk).1 with e | ⟨j, hj, e⟩
    · exact absurd e hne
    · rw [hG, e, i_toInt (by omega)]
      exact ⟨by congr 1, by omega⟩
  -- who does not hold tells nobody
  have hno : ∀ k, k < 8 → hs (hoS n (M 216)) k = false → T k = -1 := fun k hk hh => by
    have z : s0S n (M 216) k = 0 := S8.ext (S8.andr (S8.set _)) S8.zero fun j hj => by
      unfold s0S
      rw [hs_and, hs_bit (by omega) (by omega), hs_0]
      by_cases e : k = j
      · rw [← e, hh, Bool.and_false]
      · rw [decide_eq_false e, Bool.false_and]
    have := (C_steps h (p := k) (g := hoS n (M 216)) hk).2 fun i _ => by
      unfold stC
      rw [rc_0 (s := s0S n (M 216) k) (k := 0) z i (Nat.zero_le i), decide_eq_true rfl]
      rfl
    rw [(hT k hk).2.1] at this
    exact Option.some.inj this
  generalize hc : (fun k => decide (k < n) && !decide (T k = -1)) = c
  have hcn : ∀ k, n ≤ k → c k = false := fun k hk => by rw [← hc]; show (decide (k < n) && _) = false; rw [decide_eq_false (by omega), Bool.false_and]
  have h0 : ∀ k, k < n → c k = !decide (T k = -1) := fun k hk => by rw [← hc]; show (decide (k < n) && _) = _; rw [decide_eq_true hk, Bool.true_and]
  have hC : f_X11_herald M = some (akS c G 8).1 := by
    unfold f_X11_herald f_X11_herald_l6
    obtain ⟨r, e1, e2⟩ := wh_P (b := fun s : Int32 × Int32 × Int32 => f_X11_herald_6 s.1 s.2.1 s.2.2 M) (fun k (s : Int32 × Int32 × Int32) => s.1 = (akS c G k).1 ∧ (s.1 = -1 ∨ s.2.1 = nI (akS c G k).2) ∧ s.2.2 = nI k) (fun r => r = (akS c G 8).1) 8 100000 ((-1 : Int32), (0 : Int32), (0 : Int32)) ⟨rfl, Or.inl rfl, rfl⟩ (fun k hk s hs' => by
      obtain ⟨a, b, i⟩ := s
      obtain ⟨h1, hb, h3⟩ := hs'
      dsimp only at h1 hb h3
      subst h1 h3
      have hi := akS_i c G k
      have es : akS c G (k + 1) = akF c G k (akS c G k) := rfl
      rw [es]
      generalize akS c G k = s at hi hb ⊢
      show ∃ s', f_X11_herald_6 s.1 b (nI k) M = some (.inr s') ∧ _
      have e24 : f_X11_herald_6 s.1 b (nI k) M = f_X11_herald_24 s.1 b (nI k) (T k) M := by
        unfold f_X11_herald_6
        rw [bif_f (i_8 hk), h.ho, b1_s, has_hs (by omega)]
        cases hh : hs (hoS n (M 216)) k
        · rw [cond_false, hno k hk hh]
        · rw [cond_true, b1_s, (hT k hk).2.1, b1_s]
      rw [e24]
      unfold f_X11_herald_24 akF
      rw [i_1]
      by_cases hne : T k = -1
      · have ck : c k = false := by
          by_cases hkn : k < n
          · rw [h0 k hkn, decide_eq_true hne]; rfl
          · exact hcn k (by omega)
        rw [decide_eq_true hne, cond_true, ck, cond_false]
        exact ⟨_, rfl, rfl, hb, rfl⟩
      · obtain ⟨g1, g2⟩ := hg k hk hne
        have hkn : k < n := by
          refine Classical.byContradiction fun hc' => hne (hno k hk ?_)
          rw [hs_hos hk, decide_eq_false hc', Bool.false_and]
        have ck : c k = true := by rw [h0 k hkn, decide_eq_false hne]; rfl
        rw [decide_eq_false hne, cond_false, ck, cond_true]
        generalize G k = g at g1 g2 ⊢
        rw [g1]
        rcases hi with ⟨i1, i2⟩ | ⟨j, hj, hcj, i1, i2⟩
        · rw [i1, i2, show decide ((-1 : Int32) = -1) = true from rfl, cond_true, decide_eq_false (show ¬ 1000000 ≤ g by omega), cond_false]
          exact ⟨_, rfl, rfl, Or.inr rfl, rfl⟩
        · have hnj : ¬ nI j = (-1 : Int32) := fun z => nI_pos (show j < 2 ^ 31 by omega) (by rw [z]; decide)
          have hbj : b = nI s.2 := by
            rcases hb with hb | hb
            · rw [i1] at hb; exact absurd hb hnj
            · exact hb
          have sj : s.2 < 8 := by
            rw [i2]
            refine (hg j (by omega) fun z => ?_).2
            have := hcj
            rw [← hc] at this
            change (decide (j < n) && !decide (T j = -1)) = true at this
            rw [decide_eq_true z, Bool.not_true, Bool.and_false] at this
            cases this
          rw [i1, decide_eq_false hnj, cond_false, hbj, i_le (by omega) (by omega)]
          cases decide (s.2 ≤ g)
          · rw [cond_false, cond_false]
            exact ⟨_, rfl, rfl, Or.inr rfl, rfl⟩
          · rw [cond_true, cond_true]
            exact ⟨_, rfl, i1.symm, Or.inr rfl, rfl⟩) (fun s hs' => by
      obtain ⟨a, b, i⟩ := s
      obtain ⟨h1, hb, h3⟩ := hs'
      dsimp only at h1 hb h3
      subst h1 h3
      show ∃ r, f_X11_herald_6 _ b (nI 8) M = some (.inl r) ∧ _
      unfold f_X11_herald_6
      rw [bif_t i_88]
      exact ⟨_, rfl, rfl⟩) (by decide)
    rw [← e2]
    exact e1
  have hM : f_X12_herald M = some ((akS c G 8).1, mst M 215 0 0) := by
    have e' : mst M 215 0 0 216 = M 216 := mst_no (by decide)
    have eN : akS c G 8 = akS c G n := itr_n (fun k h1 _ z => by unfold akF; rw [hcn k h1]; rfl) 8 h8 (Nat.le_refl 8)
    unfold f_X12_herald f_X12_herald_l9
    rw [wr_e, eN]
    refine wh_ne (fun k => ((akS c G k).1, nI (akS c G k).2, nI k)) n _ (by omega) rfl (fun k hk => ?_) ?_
    · have hi := akS_i c G k
      show f_X12_herald_9 (akS c G k).1 (nI (akS c G k).2) (nI k) (mst M 215 0 0) = some (.inr ((akF c G k (akS c G k)).1, nI (akF c G k (akS c G k)).2, nI (k + 1)))
      generalize akS c G k = s at hi ⊢
      have sb : s.2 ≤ 1000000 := by
        rcases hi with ⟨-, e⟩ | ⟨j, hj, hcj, -, e⟩
        · omega
        · rw [e]
          refine Nat.le_trans (Nat.le_of_lt (hg j (by omega) fun z => ?_).2) (by decide)
          have := hcj
          rw [← hc] at this
          change (decide (j < n) && !decide (T j = -1)) = true at this
          rw [decide_eq_true z, Bool.not_true, Bool.and_false] at this
          cases this
      unfold f_X12_herald_9 f_X12_herald_23 f_X12_herald_30 akF
      rw [m_ppl (n := n) (by rw [e']; exact hn), b1_s, bif_f (i_len hk h8), (hT k (by omega)).2.2 _ e', b1_s, dn, h0 k hk, b1_s, i_1]
      by_cases hne : T k = -1
      · rw [decide_eq_true hne, Bool.not_true, cond_false, cond_false, show (1000000 : Int32) = nI 1000000 from rfl, i_le (by omega) (by decide), decide_eq_true sb, cond_true, mMin_n (by omega) (by decide), Nat.min_eq_left sb]
      · obtain ⟨g1, g2⟩ := hg k (by omega) hne
        rw [decide_eq_false hne, Bool.not_false, cond_true, cond_true]
        generalize G k = g at g1 g2 ⊢
        rw [g1, i_le (by omega) (by omega), mMin_n (by omega) (by omega)]
        by_cases hle : s.2 ≤ g
        · rw [decide_eq_true hle, cond_true, cond_true, Nat.min_eq_left hle]
        · rw [decide_eq_false hle, cond_false, cond_false, Nat.min_eq_right (by omega)]
    · show f_X12_herald_9 _ _ (nI n) (mst M 215 0 0) = _
      unfold f_X12_herald_9
      rw [m_ppl (n := n) (by rw [e']; exact hn), b1_s, bif_t (i_lee n)]
  exact OpR.q h hC hM rq_00
end
