/-! copies of towers, logs and laws; the frame of a tower -/
def FT (o : Nat) (M M' : mM) : Prop := ∀ z, (z < o ∨ o + 11 < z) → M' z = M z
theorem FT.rf {o : Nat} {M : mM} : FT o M M := fun _ _ => rfl
theorem FT.tr {o : Nat} {M M1 M2 : mM} (h : FT o M M1) (h' : FT o M1 M2) : FT o M M2 := fun z hz => by rw [h' z hz, h z hz]
theorem mAc_ne {p q : Nat} {s d n : Int32} {M : mM} {z : Nat} (h : z ≠ q) : mAc p q s d n M z = M z := if_neg h
theorem mAc_q {p q : Nat} {s d n : Int32} {M : mM} : mAc p q s d n M q = va_cpy (M p) (M q) s.toNatClampNeg d.toNatClampNeg n.toNatClampNeg := if_pos rfl
theorem mAc_8 {p q k : Nat} {M : mM} (hk : k < 8) : mAc p q 0 0 8 M q k = M p k := by
  rw [mAc_q, show (0 : Int32).toNatClampNeg = 0 from rfl, show (8 : Int32).toNatClampNeg = 8 from rfl, pk_cpy_in (Nat.zero_le _) (by omega), Nat.zero_add, Nat.sub_zero]
theorem mAc_12 {p q k : Nat} {M : mM} (hk : k < 12) : mAc p q 0 0 12 M q k = M p k := by
  rw [mAc_q, show (0 : Int32).toNatClampNeg = 0 from rfl, show (12 : Int32).toNatClampNeg = 12 from rfl, pk_cpy_in (Nat.zero_le _) (by omega), Nat.zero_add, Nat.sub_zero]
theorem mAc_360 {p q k : Nat} {M : mM} (hk : k < 360) : mAc p q 0 0 360 M q k = M p k := by
  rw [mAc_q, show (0 : Int32).toNatClampNeg = 0 from rfl, show (360 : Int32).toNatClampNeg = 360 from rfl, pk_cpy_in (Nat.zero_le _) (by omega), Nat.zero_add, Nat.sub_zero]
theorem mAc_400 {p q k : Nat} {M : mM} (hk : k < 400) : mAc p q 0 0 400 M q k = M p k := by
  rw [mAc_q, show (0 : Int32).toNatClampNeg = 0 from rfl, show (400 : Int32).toNatClampNeg = 400 from rfl, pk_cpy_in (Nat.zero_le _) (by omega), Nat.zero_add, Nat.sub_zero]
theorem acB8 {p q : Nat} (hp : mSh p = (10, 8)) (hq : mSh q = (10, 8)) : mAcB p q 0 0 8 = true := by
  unfold mAcB
  rw [hp, hq]
  exact decide_eq_true ⟨rfl, rfl, by decide, by decide, by decide, by decide, by decide⟩
theorem acB12 {p q : Nat} (hp : mSh p = (10, 12)) (hq : mSh q = (10, 12)) : mAcB p q 0 0 12 = true := by
  unfold mAcB
  rw [hp, hq]
  exact decide_eq_true ⟨rfl, rfl, by decide, by decide, by decide, by decide, by decide⟩
theorem acB360 {p q : Nat} (hp : mSh p = (10, 360)) (hq : mSh q = (10, 360)) : mAcB p q 0 0 360 = true := by
  unfold mAcB
  rw [hp, hq]
  exact decide_eq_true ⟨rfl, rfl, by decide, by decide, by decide, by decide, by decide⟩
theorem acB400 {p q : Nat} (hp : mSh p = (10, 400)) (hq : mSh q = (10, 400)) : mAcB p q 0 0 400 = true := by
  unfold mAcB
  rw [hp, hq]
  exact decide_eq_true ⟨rfl, rfl, by decide, by decide, by decide, by decide, by decide⟩
def cp1 (a b k : Nat) (M : mM) : mM := mst M a k (M b k)
def cp8 (a b j : Nat) (M : mM) : mM := mAc (b + j) (a + j) 0 0 8 M
def cpG (a b : Nat) (M : mM) : mM := cp1 a b 2 (cp1 a b 1 (mAc (b + 1) (a + 1) 0 0 360 M))
def cpT (a b : Nat) (M : mM) : mM := cpG (a + 9) (b + 9) (cp8 a b 7 (cp8 a b 6 (cp8 a b 5 (cp8 a b 4 (cp8 a b 3 (cp8 a b 2 (cp8 a b 1 (cp1 a b 14 (cp1 a b 7 (cp1 a b 6 (cp1 a b 5 (cp1 a b 4 (cp1 a b 3 (cp1 a b 2 (cp1 a b 1 (cp1 a b 0 M))))))))))))))))
theorem mTwG {o : Nat} (h : mTwB o = true) : mLgB (o + 9) = true := by
  unfold mLgB
  rw [mTw9 h, show mSh (o + 9 + 1) = (10, 360) from (mTw h).2.2.2.2.2.2.2.2.2.2.1]
  rfl
theorem G_copy {a b : Nat} {M : mM} (ha : mLgB a = true) (hb : mLgB b = true) : f_X2_copyFrom a b M = some ((), cpG a b M) := by
  unfold f_X2_copyFrom
  rw [gd_t ha, gd_t hb, gd_t (acB360 (mLgB1 hb) (mLgB1 ha))]
  rfl
theorem T_copy {a b : Nat} {M : mM} (ha : mTwB a = true) (hb : mTwB b = true) : f_X9_copyFrom a b M = some ((), cpT a b M) := by
  unfold f_X9_copyFrom
  simp only [gd_t ha, gd_t hb, gd_t (acB8 (mTw1 hb) (mTw1 ha)), gd_t (acB8 (mTw2 hb) (mTw2 ha)), gd_t (acB8 (mTw3 hb) (mTw3 ha)), gd_t (acB8 (mTw4 hb) (mTw4 ha)), gd_t (acB8 (mTw5 hb) (mTw5 ha)), gd_t (acB8 (mTw6 hb) (mTw6 ha)), gd_t (acB8 (mTw7 hb) (mTw7 ha)), wr_e, G_copy (mTwG ha) (mTwG hb), b2_s]
  rfl
section
variable {a b : Nat} {M : mM}
theorem cpT_0 (hd : a + 12 ≤ b ∨ b + 12 ≤ a) {k : Nat} (hk : k ≤ 7 ∨ k = 14) : cpT a b M a k = M b k := by
  have : k = 0 ∨ k = 1 ∨ k = 2 ∨ k = 3 ∨ k = 4 ∨ k = 5 ∨ k = 6 ∨ k = 7 ∨ k = 14 := by omega
  unfold cpT cpG cp8 cp1
  rcases this with rfl | rfl | rfl | rfl | rfl | rfl | rfl | rfl | rfl <;> simp (disch := omega) only [mAc_ne, mst_no, mst_oo, mst_nk]
theorem cpT_n {k : Nat} (hk : 7 < k) (h14 : k ≠ 14) : cpT a b M a k = M a k := by
  unfold cpT cpG cp8 cp1
  simp (disch := omega) only [mAc_ne, mst_no, mst_oo, mst_nk]
theorem cpT_j (hd : a + 12 ≤ b ∨ b + 12 ≤ a) {j k : Nat} (h1 : 1 ≤ j) (h7 : j ≤ 7) (hk : k < 8) : cpT a b M (a + j) k = M (b + j) k := by
  have : j = 1 ∨ j = 2 ∨ j = 3 ∨ j = 4 ∨ j = 5 ∨ j = 6 ∨ j = 7 := by omega
  unfold cpT cpG cp8 cp1
  rcases this with rfl | rfl | rfl | rfl | rfl | rfl | rfl <;> simp (disch := omega) only [mAc_ne, mst_no, mAc_8]
theorem cpT_9 (hd : a + 12 ≤ b ∨ b + 12 ≤ a) {k : Nat} (hk : k = 1 ∨ k = 2) : cpT a b M (a + 9) k = M (b + 9) k := by
  unfold cpT cpG cp8 cp1
  rcases hk with rfl | rfl <;> simp (disch := omega) only [mAc_ne, mst_no, mst_oo, mst_nk]
theorem cpT_10 (hd : a + 12 ≤ b ∨ b + 12 ≤ a) {k : Nat} (hk : k < 360) : cpT a b M (a + 10) k = M (b + 10) k := by
  unfold cpT cpG cp8 cp1
  rw [mst_no (by omega), mst_no (by omega), show a + 10 = a + 9 + 1 from rfl, mAc_360 hk]
  simp (disch := omega) only [mAc_ne, mst_no]
theorem cpT_F : FT a M (cpT a b M) := fun z hz => by
  unfold cpT cpG cp8 cp1
  simp (disch := omega) only [mAc_ne, mst_no]
theorem cpT_8 : cpT a b M (a + 8) = M (a + 8) := by
  unfold cpT cpG cp8 cp1
  simp (disch := omega) only [mAc_ne, mst_no]
theorem cpT_11 : cpT a b M (a + 11) = M (a + 11) := by
  unfold cpT cpG cp8 cp1
  simp (disch := omega) only [mAc_ne, mst_no]
theorem cpT_e (hd : a + 12 ≤ b ∨ b + 12 ≤ a) : eqT M b (cpT a b M) a :=
  ⟨fun k hk => cpT_0 hd hk, fun j h1 h7 k hk => cpT_j hd h1 h7 hk, fun k hk => cpT_9 hd hk, fun k hk => cpT_10 hd hk⟩
end
/-! laws -/
def cpL (a b : Nat) (M : mM) : mM := mAc (b + 4) (a + 4) 0 0 400 (mAc (b + 3) (a + 3) 0 0 12 (mAc (b + 2) (a + 2) 0 0 12 (mAc (b + 1) (a + 1) 0 0 12 (cp1 a b 6 (cp1 a b 1 (cp1 a b 0 M))))))
theorem L_copy {a b : Nat} {M : mM} (ha : mLwB a = true) (hb : mLwB b = true) (h0 : mIsB (M b 0) = true) : f_X0_copyFrom a b M = some ((), cpL a b M) := by
  unfold f_X0_copyFrom
  simp only [gd_t ha, gd_t hb, gd_t h0, gd_t (acB12 (mLw1 hb) (mLw1 ha)), gd_t (acB12 (mLw2 hb) (mLw2 ha)), gd_t (acB12 (mLw3 hb) (mLw3 ha)), gd_t (acB400 (mLw4 hb) (mLw4 ha)), wr_e]
  rfl
section
variable {a b : Nat} {M : mM}
theorem cpL_F {z : Nat} (hz : z < a ∨ a + 4 < z) : cpL a b M z = M z := by
  unfold cpL cp1
  simp (disch := omega) only [mAc_ne, mst_no]
theorem LW.cp {W : Nat → Int32} (h : LW W M b) (hd : a + 6 ≤ b ∨ b + 6 ≤ a) : LW W (cpL a b M) a := by
  refine h.mv ?_ ?_ (fun j h1 h3 k hk => ?_) (fun k hk => ?_)
  · unfold cpL cp1
    simp (disch := omega) only [mAc_ne, mst_no, mst_oo, mst_nk]
  · unfold cpL cp1
    simp (disch := omega) only [mAc_ne, mst_no, mst_oo, mst_nk]
  · have : j = 1 ∨ j = 2 ∨ j = 3 := by omega
    unfold cpL cp1
    rcases this with rfl | rfl | rfl <;> simp (disch := omega) only [mAc_ne, mst_no, mAc_12]
  · unfold cpL cp1
    rw [mAc_400 hk]
    simp (disch := omega) only [mAc_ne, mst_no]
theorem LW.isb {W : Nat → Int32} {o : Nat} (h : LW W M o) : mIsB (M o 0) = true := by
  rcases h with ⟨h, -⟩ | ⟨h, -⟩ <;> rw [h] <;> rfl
theorem LW.eq2 {W W' : Nat → Int32} {o : Nat} (h : LW W M o) (e2 : W' 2 = W 2) (e : ∀ k, 424 ≤ k → k < 1273 → W' k = W k) : LW W' M o := by
  rcases h with ⟨a, b⟩ | ⟨a, b, m, hm, c1, c2, e', T, h⟩
  · exact Or.inl ⟨a, by rw [e2]; exact b⟩
  · refine Or.inr ⟨a, by rw [e2]; exact b, m, hm, c1, by rw [e _ (by decide) (by decide)]; exact c2, e', T, fun i hi => ?_⟩
    obtain ⟨d1, d2, d3, d4, d5, d6, d7, d8, d9⟩ := h i hi
    refine ⟨by rw [e _ (by omega) (by omega)]; exact d1, by rw [e _ (by omega) (by omega)]; exact d2, d3, by rw [e _ (by omega) (by omega)]; exact d4, by rw [e _ (by omega) (by omega)]; exact d5, d6, d7, d8, fun j g1 g2 => ?_⟩
    rw [e _ (by omega) (by omega), e _ (by omega) (by omega)]
    exact d9 j g1 g2
end
/-- rows that are copied by a loop -/
theorem wh_cpG {ρ : Type} {b : Int32 × mM → Option (ρ ⊕ (Int32 × mM))} {M : mM} {p q off src N : Nat} (g : mM → ρ) (hpq : p ≠ q) (hq : q ≠ 215) (hN : N < 100000) (hs : ∀ k, k < N → ∀ M' : mM, M' 215 = M 215 → b (nI k, M') = some (.inr (nI (k + 1), mst M' q (off + k) (M' p (src + k))))) (he : ∀ M' : mM, M' 215 = M 215 → b (nI N, M') = some (.inl (g M'))) : wh 100000 b (0, M) = some (g (rs M q (va_cpy (M p) (M q) src off N))) := by
  refine wh_ne (fun k => (nI k, rs M q (va_cpy (M p) (M q) src off k))) N _ hN ?_ (fun k hk => ?_) ?_
  · have : va_cpy (M p) (M q) src off 0 = M q := by
      funext j
      exact pk_cpy_out (by omega)
    rw [this, rs_self]
    rfl
  · show b (nI k, _) = _
    rw [hs k hk _ (rs_ne (Ne.symm hq)), rs_ne hpq, rs_st]
    have : upd (va_cpy (M p) (M q) src off k) (off + k) (M p (src + k)) = va_cpy (M p) (M q) src off (k + 1) := by
      funext j
      by_cases h : j = off + k
      · subst h
        rw [upd_at, pk_cpy_in (by omega) (by omega)]
        congr 1
        omega
      · rw [upd_ne h]
        by_cases h2 : off ≤ j ∧ j < off + k
        · rw [pk_cpy_in h2.1 h2.2, pk_cpy_in h2.1 (by omega)]
        · rw [pk_cpy_out (by omega), pk_cpy_out (by omega)]
    rw [this]
  · exact he _ (rs_ne (Ne.symm hq))
theorem wh_cp {b : Int32 × mM → Option ((Unit × mM) ⊕ (Int32 × mM))} {M : mM} {p q off src N : Nat} (hpq : p ≠ q) (hq : q ≠ 215) (hN : N < 100000) (hs : ∀ k, k < N → ∀ M' : mM, M' 215 = M 215 → b (nI k, M') = some (.inr (nI (k + 1), mst M' q (off + k) (M' p (src + k))))) (he : ∀ M' : mM, M' 215 = M 215 → b (nI N, M') = some (.inl ((), M'))) : wh 100000 b (0, M) = some ((), rs M q (va_cpy (M p) (M q) src off N)) := wh_cpG (fun M' => ((), M')) hpq hq hN hs he
theorem i_lit {a k : Nat} (ha : a < 2 ^ 31) (h : k < a) : decide (nI a ≤ nI k) = false := by
  rw [i_le ha (by omega)]
  exact decide_eq_false (by omega)
section
variable {M : mM}
theorem m_keeps : f_X12_keepsAll M = some ((), rs M 219 (va_cpy (M 216) (M 219) 0 0 424)) := by
  unfold f_X12_keepsAll f_X12_keepsAll_l2
  refine wh_cp (by decide) (by decide) (by decide) (fun k hk M' _ => ?_) (fun M' _ => ?_)
  · show f_X12_keepsAll_2 (nI k) M' = _
    unfold f_X12_keepsAll_2
    rw [show (424 : Int32) = nI 424 from rfl, bif_f (i_lit (by decide) hk), gd_t (i_in (by omega) (by decide)), gd_t (i_in hk (by decide)), i_ix (by omega), i_1, Nat.zero_add]
    rfl
  · rfl
theorem m_brings : f_X12_bringsBack M = some ((), rs M 216 (va_cpy (M 219) (M 216) 0 0 424)) := by
  unfold f_X12_bringsBack f_X12_bringsBack_l2
  refine wh_cp (by decide) (by decide) (by decide) (fun k hk M' _ => ?_) (fun M' _ => ?_)
  · show f_X12_bringsBack_2 (nI k) M' = _
    unfold f_X12_bringsBack_2
    rw [show (424 : Int32) = nI 424 from rfl, bif_f (i_lit (by decide) hk), gd_t (i_in hk (by decide)), gd_t (i_in (by omega) (by decide)), i_ix (by omega), i_1, Nat.zero_add]
    rfl
  · rfl
end
