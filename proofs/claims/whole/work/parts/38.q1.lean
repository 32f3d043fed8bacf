/-! what is asked without any change: first ones -/
def itr {σ : Type} (f : Nat → σ → σ) (s : σ) : Nat → σ
  | 0 => s
  | k + 1 => f k (itr f s k)
theorem itr_s {σ : Type} (f : Nat → σ → σ) (s : σ) (k : Nat) : itr f s (k + 1) = f k (itr f s k) := rfl
theorem itr_n {σ : Type} {f : Nat → σ → σ} {s : σ} {n : Nat} (h : ∀ k, n ≤ k → k < 8 → ∀ z, f k z = z) : ∀ m, n ≤ m → m ≤ 8 → itr f s m = itr f s n := by
  intro m
  induction m with
  | zero => intro h1 _; rw [show n = 0 by omega]
  | succ m ih =>
    intro h1 h2
    by_cases hm : n ≤ m
    · rw [itr_s, h m hm (by omega), ih hm (by omega)]
    · rw [show n = m + 1 by omega]
theorem itr_congr {σ : Type} {f g : Nat → σ → σ} {s : σ} : ∀ {k : Nat}, (∀ j, j < k → ∀ z, f j z = g j z) → itr f s k = itr g s k := by
  intro k
  induction k with
  | zero => intro _; rfl
  | succ k ih => intro h; rw [itr_s, itr_s, ih fun j hj => h j (by omega), h k (by omega)]
theorem in216 {M : mM} {j : Nat} {v : Int32} {q : Nat} (h : q ≠ 215) : mst M 215 j v q = M q := mst_no h
theorem T35 : mTwB 35 = true := by decide
theorem T47 : mTwB 47 = true := by decide
theorem T59 : mTwB 59 = true := by decide
section
variable {n : Nat} {M : mM}
theorem Rl.wf (h : Rl n M) : WF n (M 216) := h.1
theorem Rl.h8 (h : Rl n M) : n ≤ 8 := h.1.2.1
theorem Rl.hn (h : Rl n M) : M 216 0 = nI n := h.1.1
theorem Rl.tr (h : Rl n M) : TR n (M 216) M 35 := h.2.2.1.1
theorem Rl.ts (h : Rl n M) : TS n (M 216) M 35 := h.2.2.1
theorem Rl.up (h : Rl n M) : M 35 1 = upS n (M 216) := h.tr.2.1
theorem Rl.as (h : Rl n M) : M 35 2 = slS n (M 216) := h.tr.2.2.1
theorem Rl.ho (h : Rl n M) : f_X9_holders 35 M = some (hoS n (M 216)) := by rw [T_hold T35, h.tr.ho]
/-- total -/
def totS (n : Nat) (W : Nat → Int32) : Int32 := itr (fun k s => s + bif decide (k < n) && upB W k then pv W k 0 else 0) 0 8
theorem C_total (h : Rl n M) : f_X11_total M = some (totS n (M 216)) := by
  unfold f_X11_total

  unfold f_X11_total_l4
  refine wh_8e (fun k => (itr (fun k s => s + bif decide (k < n) && upB (M 216) k then pv (M 216) k 0 else 0) 0 k, nI k)) _ rfl ?_ ?_
  · intro k hk
    show f_X11_total_4 _ (nI k) M = _
    unfold f_X11_total_4
    rw [bif_f (i_8 hk)]
    simp only [has_hs (show k < 32 by omega), gd_t (i_in hk i_28), i_ix (show k < 2 ^ 31 by omega), i_1, dn, b1_s, b2_s, wr_e]
    rw [itr_s]
    generalize itr (fun k s => s + bif decide (k < n) && upB (M 216) k then pv (M 216) k 0 else 0) 0 k = z
    rw [h.up, hs_ups hk]
    cases e : decide (k < n) && upB (M 216) k
    · rfl
    · rw [Bool.and_eq_true] at e
      rw [show M 36 k = pv (M 216) k 0 from (h.tr.pp (of_decide_eq_true e.1)).1]
      rfl
  · show f_X11_total_4 _ (nI 8) M = _
    unfold f_X11_total_4
    rw [bif_t i_88]
    rfl
theorem M_total (hn : M 216 0 = nI n) (h8 : n ≤ 8) : f_X12_total M = some (totS n (M 216), mst M 215 0 0) := by
  unfold f_X12_total
  rw [wr_e]
  have hn' : mst M 215 0 0 216 0 = nI n := hn
  have e : totS n (M 216) = itr (fun k s => s + bif decide (k < n) && upB (M 216) k then pv (M 216) k 0 else 0) 0 n := itr_n (fun k h1 _ z => by rw [decide_eq_false (by omega)]; exact Int32.add_zero z) 8 h8 (Nat.le_refl 8)
  rw [e]

  unfold f_X12_total_l7
  refine wh_ne (fun k => (itr (fun k s => s + bif decide (k < n) && upB (M 216) k then pv (M 216) k 0 else 0) 0 k, nI k)) n _ (by omega) rfl ?_ ?_
  · intro k hk
    show f_X12_total_7 _ (nI k) (mst M 215 0 0) = _
    unfold f_X12_total_7
    rw [m_ppl (n := n) (hn'), b1_s, bif_f (i_len hk h8), m_isUp (by omega), b1_s, show (0 : Int32) = nI 0 from rfl, m_of (by omega) (by decide), itr_s, decide_eq_true hk, in216 (by decide)]
    simp only [mhas_hs (show k < 32 by omega), gd_t (i_in (show k < 8 by omega) i_28), i_ix (show k < 2 ^ 31 by omega), i_1, dn, b1_s, b2_s, wr_e, bitE, b_or0]
    generalize itr (fun k s => s + bif decide (k < n) && upB (M 216) k then pv (M 216) k 0 else 0) 0 k = z
    cases upB (M 216) k <;> rfl
  · show f_X12_total_7 _ (nI n) (mst M 215 0 0) = _
    unfold f_X12_total_7
    rw [m_ppl (n := n) (hn'), b1_s, bif_t (i_lee n)]
/-- sleepers, reserves, fault, seed -/
theorem S8.uns {n : Nat} {W : Nat → Int32} : S8 (upS n W) := S8.set _
theorem ev_bits (n : Nat) (h : n ≤ 8) : (((1 : Int32) <<< (nI n &&& (31 : Int32))) - 1) = setOf fun p => decide (p < n) := by
  match n, h with
  | 0, _ => decide +kernel
  | 1, _ => decide +kernel
  | 2, _ => decide +kernel
  | 3, _ => decide +kernel
  | 4, _ => decide +kernel
  | 5, _ => decide +kernel
  | 6, _ => decide +kernel
  | 7, _ => decide +kernel
  | 8, _ => decide +kernel
def evS (n : Nat) : Int32 := setOf fun p => decide (p < n)
theorem C_every (h : Rl n M) : f_X9_everyone 35 M = some (evS n) := by
  unfold f_X9_everyone
  rw [gd_t T35, show M 35 0 = nI n from h.tr.1]
  exact congrArg some (ev_bits n h.h8)
theorem M_every (hn : M 216 0 = nI n) (h8 : n ≤ 8) : f_X12_everybody M = some (evS n) := by
  unfold f_X12_everybody
  rw [m_ppl hn, b1_s]
  exact congrArg some (ev_bits n h8)
theorem C_reserves (h : Rl n M) : f_X11_reserves M = some (evS n &&& (upS n (M 216) ^^^ (-1 : Int32))) := by
  unfold f_X11_reserves
  rw [C_every h, b1_s, h.up]
theorem M_reserves (hn : M 216 0 = nI n) (h8 : n ≤ 8) : f_X12_reserves M = some (evS n &&& (upS n (M 216) ^^^ (-1 : Int32)), mst M 215 0 0) := by
  unfold f_X12_reserves
  rw [wr_e, M_every (M := mst M 215 0 0) (n := n) hn h8, b1_s, m_ups (M := mst M 215 0 0) (n := n) hn h8, b1_s]
  rfl
theorem C_sleepers (h : Rl n M) : f_X11_sleepers M = some (slS n (M 216)) := by
  unfold f_X11_sleepers
  rw [h.as]
theorem M_sleepers (hn : M 216 0 = nI n) (h8 : n ≤ 8) : f_X12_sleepers M = some (slS n (M 216), mst M 215 0 0) := by
  unfold f_X12_sleepers
  rw [wr_e, m_sls (M := mst M 215 0 0) (n := n) hn h8, b1_s]
  rfl
theorem Rl.tp (h : Rl n M) : Tp M := h.2.2.2.2.1
theorem C_fault : f_X11_fault M = some (M 1 3) := rfl
theorem M_fault (h : Rl n M) : f_X12_fault M = some (M 1 3, mst M 215 0 0) := by
  obtain ⟨L, -, -, -, h4, -⟩ := h.tp
  unfold f_X12_fault
  rw [wr_e, mst_nk (by decide), h4]
/-- a ring -/
theorem C_inRing {o : Nat} (h : TR n (M 216) M o) (ho : mTwB o = true) {r : Int32} (hr : r ≠ -1) : f_X9_inRing o r M = some (rgS n (M 216) r) := by
  unfold f_X9_inRing rgS
  rw [gd_t ho]

  unfold f_X9_inRing_l4
  refine wh_8e (fun k => (setK (fun p => decide (p < n) && decide (pv (M 216) p 5 = r)) k, nI k)) _ rfl ?_ ?_
  · intro k hk
    show f_X9_inRing_4 o r _ (nI k) M = _
    unfold f_X9_inRing_4
    rw [bif_f (i_8 hk)]
    simp only [has_hs (show k < 32 by omega), gd_t (i_in hk i_28), i_ix (show k < 2 ^ 31 by omega), i_1, dn, b1_s, b2_s, wr_e]
    rw [setK_s, h.2.1, hs_ups hk]
    generalize setK (fun p => decide (p < n) && decide (pv (M 216) p 5 = r)) k = z
    cases e1 : decide (k < n)
    · rfl
    · cases e2 : upB (M 216) k
      · have : decide (pv (M 216) k 5 = r) = false := by
          refine decide_eq_false fun z => hr ?_
          unfold upB at e2
          cases e3 : decide (pv (M 216) k 5 = -1)
          · rw [e3] at e2; cases e2
          · rw [← z]; exact of_decide_eq_true e3
        rw [this]; rfl
      · rw [show M (o + 5) k = pv (M 216) k 5 from (h.pp (of_decide_eq_true e1)).2.2.2.2.2 e2]
        cases decide (pv (M 216) k 5 = r) <;> rfl
  · show f_X9_inRing_4 o r _ (nI 8) M = _
    unfold f_X9_inRing_4
    rw [bif_t i_88]
    rfl
end
