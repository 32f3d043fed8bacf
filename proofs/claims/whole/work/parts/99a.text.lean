/-! texts: what both see of the tape -/
/-- on from p while it is so, to L at most -/
def skG (L : Nat) (c : Nat → Bool) : Nat → Nat → Nat
  | 0, p => p
  | f + 1, p => bif decide (p < L) && c p then skG L c f (p + 1) else p
def sk (L : Nat) (c : Nat → Bool) (p : Nat) : Nat := skG L c (L - p) p
theorem skG_p {L : Nat} {c : Nat → Bool} : ∀ f p, L - p ≤ f → p ≤ skG L c f p ∧ (∀ i, p ≤ i → i < skG L c f p → i < L ∧ c i = true) ∧ (skG L c f p < L → c (skG L c f p) = false) ∧ (p ≤ L → skG L c f p ≤ L) := by
  intro f
  induction f with
  | zero =>
    intro p hp
    exact ⟨Nat.le_refl _, fun i h1 h2 => absurd h2 (by show ¬ i < p; omega), fun h => absurd h (by show ¬ p < L; omega), fun h => h⟩
  | succ f ih =>
    intro p hp
    show p ≤ (bif decide (p < L) && c p then skG L c f (p + 1) else p) ∧ (∀ i, p ≤ i → i < (bif decide (p < L) && c p then skG L c f (p + 1) else p) → i < L ∧ c i = true) ∧ ((bif decide (p < L) && c p then skG L c f (p + 1) else p) < L → c (bif decide (p < L) && c p then skG L c f (p + 1) else p) = false) ∧ (p ≤ L → (bif decide (p < L) && c p then skG L c f (p + 1) else p) ≤ L)
    cases e : decide (p < L) && c p
    · rw [cond_false]
      refine ⟨Nat.le_refl _, fun i h1 h2 => absurd h2 (by omega), fun h => ?_, fun h => h⟩
      rw [decide_eq_true h, Bool.true_and] at e
      exact e
    · rw [cond_true]
      rw [Bool.and_eq_true] at e
      have hpL := of_decide_eq_true e.1
      obtain ⟨a, b, d, g⟩ := ih (p + 1) (by omega)
      refine ⟨by omega, fun i h1 h2 => ?_, d, fun _ => g (by omega)⟩
      by_cases hi : i = p
      · rw [hi]; exact ⟨hpL, e.2⟩
      · exact b i (by omega) h2
theorem sk_le {L : Nat} {c : Nat → Bool} (p : Nat) : p ≤ sk L c p := (skG_p (L - p) p (Nat.le_refl _)).1
theorem sk_in {L : Nat} {c : Nat → Bool} {p i : Nat} (h1 : p ≤ i) (h2 : i < sk L c p) : i < L ∧ c i = true := (skG_p (L - p) p (Nat.le_refl _)).2.1 i h1 h2
theorem sk_at {L : Nat} {c : Nat → Bool} {p : Nat} (h : sk L c p < L) : c (sk L c p) = false := (skG_p (L - p) p (Nat.le_refl _)).2.2.1 h
theorem sk_L {L : Nat} {c : Nat → Bool} {p : Nat} (h : p ≤ L) : sk L c p ≤ L := (skG_p (L - p) p (Nat.le_refl _)).2.2.2 h
theorem sk_un {L : Nat} {c : Nat → Bool} {p q : Nat} (h1 : p ≤ q) (h2 : ∀ i, p ≤ i → i < q → i < L ∧ c i = true) (h3 : q < L → c q = false) : sk L c p = q := by
  have a := sk_le (L := L) (c := c) p
  refine Classical.byContradiction fun hc => ?_
  by_cases hlt : sk L c p < q
  · obtain ⟨b1, b2⟩ := h2 _ a hlt
    rw [sk_at b1] at b2
    cases b2
  · obtain ⟨b1, b2⟩ := sk_in (L := L) (c := c) h1 (show q < sk L c p by omega)
    rw [h3 b1] at b2
    cases b2
theorem sk_sk {L : Nat} {c : Nat → Bool} (p : Nat) : sk L c (sk L c p) = sk L c p := sk_un (Nat.le_refl _) (fun i h1 h2 => absurd h2 (by omega)) fun h => sk_at h
/-- blanks, letters, digits -/
def cB (B : Nat → Nat) (i : Nat) : Bool := decide (B i = 32)
def cL (B : Nat → Nat) (i : Nat) : Bool := decide (97 ≤ B i) && decide (B i ≤ 122)
def cD (B : Nat → Nat) (i : Nat) : Bool := decide (48 ≤ B i) && decide (B i ≤ 57)
def sB (L : Nat) (B : Nat → Nat) (p : Nat) : Nat := sk L (cB B) p
/-- a text that is right in itself -/
def txt (L : Nat) (B : Nat → Nat) : Prop := L ≤ 400 ∧ ∀ i, i < L → B i < 256
/-- where the class is -/
def tC (X : mM) (L : Nat) (B : Nat → Nat) (a : Nat) : Prop := X 1 1 = nI L ∧ (∀ i, i < L → X 2 i = nI (B i)) ∧ X 1 2 = nI a ∧ X 1 3 = -1
/-- where the reference is -/
def tM (Y : mM) (L : Nat) (B : Nat → Nat) (p : Nat) : Prop := Y 215 15 = nI L ∧ (∀ i, i < L → Y 223 i = sgn8 (B i)) ∧ Y 215 14 = nI p
def fC (X X' : mM) : Prop := (∀ z, z ≠ 1 → X' z = X z) ∧ X' 1 1 = X 1 1
def fM (Y Y' : mM) : Prop := (∀ z, z ≠ 215 → Y' z = Y z) ∧ ∀ k, k ≠ 14 → k ≠ 16 → Y' 215 k = Y 215 k
theorem fC.rf {X : mM} : fC X X := ⟨fun _ _ => rfl, rfl⟩
theorem fM.rf {X : mM} : fM X X := ⟨fun _ _ => rfl, fun _ _ _ => rfl⟩
theorem fC.tr {X Y Z : mM} (h : fC X Y) (h' : fC Y Z) : fC X Z := ⟨fun z hz => (h'.1 z hz).trans (h.1 z hz), h'.2.trans h.2⟩
theorem fM.tr {X Y Z : mM} (h : fM X Y) (h' : fM Y Z) : fM X Z := ⟨fun z hz => (h'.1 z hz).trans (h.1 z hz), fun k h1 h2 => (h'.2 k h1 h2).trans (h.2 k h1 h2)⟩
theorem fC.st {X : mM} {k : Nat} {v : Int32} (h : k ≠ 1) : fC X (mst X 1 k v) := ⟨fun z hz => mst_no hz, mst_nk (Ne.symm h)⟩
theorem fM.st {X : mM} {k : Nat} {v : Int32} (h : k = 14 ∨ k = 16) : fM X (mst X 215 k v) := ⟨fun z hz => mst_no hz, fun j h1 h2 => mst_nk (by omega)⟩
theorem tC.mv {X X' : mM} {L : Nat} {B : Nat → Nat} {a b : Nat} (h : tC X L B a) (f : fC X X') (e2 : X' 1 2 = nI b) (e3 : X' 1 3 = -1) : tC X' L B b := ⟨f.2.trans h.1, fun i hi => by rw [f.1 2 (by decide)]; exact h.2.1 i hi, e2, e3⟩
theorem tM.mv {Y Y' : mM} {L : Nat} {B : Nat → Nat} {a b : Nat} (h : tM Y L B a) (f : fM Y Y') (e : Y' 215 14 = nI b) : tM Y' L B b := ⟨(f.2 15 (by decide) (by decide)).trans h.1, fun i hi => by rw [f.1 223 (by decide)]; exact h.2.1 i hi, e⟩
theorem mst_tw (M : mM) (o k : Nat) (u v : Int32) : mst (mst M o k u) o k v = mst M o k v := by
  rw [mst_rs M, rs_st, upd_upd, ← mst_rs]
section
variable {L : Nat} {B : Nat → Nat}
theorem C_by (hT : txt L B) {X : mM} {a : Nat} (h : tC X L B a) {i : Nat} (hi : i < 2 ^ 30) : f_X7_byteAt (nI i) X = some (if i < L then nI (B i) else -1) := by
  unfold f_X7_byteAt
  rw [decide_eq_false (nI_pos (by omega)), cond_false, h.1, i_ge (by omega) (by have := hT.1; omega)]
  by_cases hL : i < L
  · have := hT.1
    rw [decide_eq_true hL, Bool.not_true, cond_false, show decide ((400 : Int32) ≤ nI i) = false from i_lit (a := 400) (by decide) (by omega), cond_false, gd_t (i_in (by omega) (by decide)), i_ix (by omega), h.2.1 i hL, if_pos hL]
  · rw [decide_eq_false hL, Bool.not_false, cond_true, if_neg hL]
theorem C_move3 (hT : txt L B) {X : mM} {p : Nat} (h1 : X 1 1 = nI L) (h2 : ∀ i, i < L → X 2 i = nI (B i)) (hp : p ≤ L) : f_X7_moveTo (nI p) X = some ((), mst X 1 2 (nI (sB L B p))) := by
  have hL := hT.1
  have hs1 := sk_le (L := L) (c := cB B) p
  have hs2 := sk_L (L := L) (c := cB B) hp
  have st : ∀ k, k < sB L B p - p → f_X7_moveTo_5 (nI (p + k)) (mst X 1 2 (nI (p + k))) = some (.inr (nI (p + (k + 1)), mst X 1 2 (nI (p + (k + 1))))) := fun k hk => by
    obtain ⟨b1, b2⟩ := sk_in (L := L) (c := cB B) (p := p) (i := p + k) (by omega) (by unfold sB at hk; omega)
    have b3 : B (p + k) = 32 := of_decide_eq_true b2
    unfold f_X7_moveTo_5
    rw [decide_eq_false (nI_pos (by omega)), cond_false, mst_nk (show 1 ≠ 2 by decide), h1, i_ge (by omega) (by omega), decide_eq_true b1, Bool.not_true, cond_false, show decide ((400 : Int32) ≤ nI (p + k)) = false from i_lit (a := 400) (by decide) (by omega), cond_false, gd_t (i_in (by omega) (by decide)), i_ix (by omega), mst_no (show 2 ≠ 1 by decide), h2 _ b1, b3, show decide (¬ nI 32 = (32 : Int32)) = false from rfl, cond_false, wr_e, i_1, mst_tw]
    rfl
  unfold f_X7_moveTo f_X7_moveTo_l5
  rw [wr_e]
  refine wh_ne (fun k => (nI (p + k), mst X 1 2 (nI (p + k)))) (sB L B p - p) _ (by unfold sB; omega) rfl st ?_
  show f_X7_moveTo_5 (nI (p + (sB L B p - p))) (mst X 1 2 (nI (p + (sB L B p - p)))) = _
  rw [show p + (sB L B p - p) = sB L B p by unfold sB; omega]
  have hq : sB L B p ≤ L := hs2
  unfold f_X7_moveTo_5
  rw [decide_eq_false (nI_pos (by omega)), cond_false, mst_nk (show 1 ≠ 2 by decide), h1, i_ge (by omega) (by omega)]
  by_cases e : sB L B p < L
  · have b3 : ¬ B (sB L B p) = 32 := of_decide_eq_false (sk_at (L := L) (c := cB B) e)
    have := hT.2 _ e
    rw [decide_eq_true e, Bool.not_true, cond_false, show decide ((400 : Int32) ≤ nI (sB L B p)) = false from i_lit (a := 400) (by decide) (by omega), cond_false, gd_t (i_in (by omega) (by decide)), i_ix (by omega), mst_no (show 2 ≠ 1 by decide), h2 _ e, dn, show decide (nI (B (sB L B p)) = (32 : Int32)) = decide (B (sB L B p) = 32) from i_eq (b := 32) (by omega) (by decide), decide_eq_false b3, Bool.not_false, cond_true]
  · rw [decide_eq_false e, Bool.not_false, cond_true]
theorem C_move (hT : txt L B) {X : mM} {a p : Nat} (h : tC X L B a) (hp : p ≤ L) : ∃ X', f_X7_moveTo (nI p) X = some ((), X') ∧ tC X' L B (sB L B p) ∧ fC X X' :=
  ⟨mst X 1 2 (nI (sB L B p)), C_move3 hT h.1 h.2.1 hp, h.mv (fC.st (by decide)) (mst_oo _ _ _ _) ((mst_nk (by decide)).trans h.2.2.2), fC.st (by decide)⟩
theorem C_wrong {X : mM} {w : Nat} (h : X 1 3 = -1) : f_X7_wrong (nI w) X = some (false, mst X 1 3 (nI w)) := by
  unfold f_X7_wrong
  rw [h]
  rfl
theorem C_wrong2 {X : mM} {v : Int32} (h : X 1 3 ≠ -1) : f_X7_wrong v X = some (false, X) := by
  unfold f_X7_wrong
  rw [decide_eq_true h, cond_true]
/-- words -/
def isW (L : Nat) (B : Nat → Nat) (a : Nat) (w : List Nat) : Bool := decide (sk L (cL B) a = a + w.length) && alK (fun k => decide (B (a + k) = w.getD k 0)) w.length
def okT (w : List Nat) : Bool := w.all (fun x => decide (97 ≤ x) && decide (x ≤ 122)) && (Nat.ble 1 w.length && Nat.ble w.length 100)
theorem okT_k {w : List Nat} (h : okT w = true) : ∀ k, k < w.length → 97 ≤ w.getD k 0 ∧ w.getD k 0 ≤ 122 := fun k hk => by
  unfold okT at h
  rw [Bool.and_eq_true, List.all_eq_true] at h
  have := h.1 (w.getD k 0) (by rw [List.getD_eq_getElem?_getD, List.getElem?_eq_getElem hk]; exact List.getElem_mem hk)
  rw [Bool.and_eq_true] at this
  exact ⟨of_decide_eq_true this.1, of_decide_eq_true this.2⟩
theorem okT_l {w : List Nat} (h : okT w = true) : 1 ≤ w.length ∧ w.length ≤ 100 := by
  unfold okT at h
  rw [Bool.and_eq_true, Bool.and_eq_true] at h
  exact ⟨Nat.ble_eq.mp h.2.1, Nat.ble_eq.mp h.2.2⟩
/-- as the class sees it -/
theorem isW_iff {a : Nat} {w : List Nat} (hw : okT w = true) : isW L B a w = true ↔ (∀ k, k < w.length → a + k < L ∧ B (a + k) = w.getD k 0) ∧ ¬ (a + w.length < L ∧ cL B (a + w.length) = true) := by
  unfold isW
  rw [Bool.and_eq_true, alK_iff, decide_eq_true_iff]
  have h0 := okT_l hw
  constructor
  · rintro ⟨h1, h2⟩
    refine ⟨fun k hk => ⟨?_, of_decide_eq_true (h2 k hk)⟩, fun ⟨b1, b2⟩ => ?_⟩
    · exact (sk_in (L := L) (c := cL B) (p := a) (i := a + k) (by omega) (by omega)).1
    · rw [← h1] at b1 b2
      rw [sk_at b1] at b2
      cases b2
  · rintro ⟨h1, h2⟩
    refine ⟨sk_un (by omega) (fun i g1 g2 => ?_) (fun g => ?_), fun k hk => decide_eq_true (h1 k hk).2⟩
    · obtain ⟨k, rfl⟩ : ∃ k, i = a + k := ⟨i - a, by omega⟩
      obtain ⟨b1, b2⟩ := h1 k (by omega)
      obtain ⟨b3, b4⟩ := okT_k hw k (by omega)
      refine ⟨b1, ?_⟩
      unfold cL
      rw [b2, decide_eq_true b3, decide_eq_true b4]
      rfl
    · cases c : cL B (a + w.length)
      · rfl
      · exact absurd ⟨g, c⟩ h2
theorem C_takes (hT : txt L B) {X : mM} {a o : Nat} (h : tC X L B a) (ha : a ≤ L) (ho : mTxB o = true) (hw : okT (mTt o) = true) : (isW L B a (mTt o) = true → a + (mTt o).length ≤ L ∧ ∃ X', f_X7_takes o X = some (true, X') ∧ tC X' L B (sB L B (a + (mTt o).length)) ∧ fC X X') ∧ (isW L B a (mTt o) = false → f_X7_takes o X = some (false, X)) := by
  have hL := hT.1
  obtain ⟨l1, l2⟩ := okT_l hw
  have byt : ∀ i, i ≤ 500 → f_X7_byteAt (X 1 2 + nI i) X = some (if a + i < L then nI (B (a + i)) else -1) := fun i hi => by
    rw [h.2.2.1, nI_add]
    exact C_by hT h (by omega)
  -- one letter
  have st : ∀ k, k < (mTt o).length → f_X7_takes_5 o (nI (mTt o).length) (nI k) X = bif decide (a + k < L) && decide (B (a + k) = (mTt o).getD k 0) then some (.inr (nI (k + 1))) else some (.inl (false, X)) := fun k hk => by
    obtain ⟨c1, c2⟩ := okT_k hw k hk
    unfold f_X7_takes_5
    rw [i_ge (by omega) (by omega), decide_eq_true hk, Bool.not_true, cond_false, byt k (by omega), b1_s, gd_t (i_in hk (by omega)), i_ix (by omega), i_1]
    by_cases e : a + k < L
    · have := hT.2 _ e
      rw [if_pos e, decide_eq_true e, Bool.true_and, i_eq (by omega) (by omega)]
    · rw [if_neg e, decide_eq_false e, Bool.false_and, cond_false, decide_eq_false fun z => nI_pos (show (mTt o).getD k 0 < 2 ^ 31 by omega) (by rw [← z]; decide), cond_false]
  have bad : ∀ k, k < (mTt o).length → (∀ j, j < k → a + j < L ∧ B (a + j) = (mTt o).getD j 0) → ¬ (a + k < L ∧ B (a + k) = (mTt o).getD k 0) → f_X7_takes o X = some (false, X) := fun k hk hj hk' => by
    unfold f_X7_takes f_X7_takes_l5
    rw [gd_t ho]
    refine wh_ne (fun j => nI j) k _ (by omega) rfl (fun j hj' => ?_) ?_
    · obtain ⟨e1, e2⟩ := hj j hj'
      show f_X7_takes_5 o (nI (mTt o).length) (nI j) X = _
      rw [st j (by omega), decide_eq_true e1, decide_eq_true e2]
      rfl
    · show f_X7_takes_5 o (nI (mTt o).length) (nI k) X = _
      rw [st k hk]
      by_cases e1 : a + k < L
      · rw [decide_eq_true e1, decide_eq_false fun e2 => hk' ⟨e1, e2⟩]
        rfl
      · rw [decide_eq_false e1]
        rfl
  have all : (∀ k, k < (mTt o).length → a + k < L ∧ B (a + k) = (mTt o).getD k 0) → f_X7_takes o X = f_X7_takes_5 o (nI (mTt o).length) (nI (mTt o).length) X >>= fun r => match r with | .inl e => some e | .inr _ => none := fun hall => by
    unfold f_X7_takes f_X7_takes_l5
    rw [gd_t ho]
    have e5 : ∃ r, f_X7_takes_5 o (nI (mTt o).length) (nI (mTt o).length) X = some (.inl r) := by
      unfold f_X7_takes_5
      rw [i_lee, cond_true, byt _ (by omega), b1_s]
      obtain ⟨X', m1, -, -⟩ := C_move hT h (p := a + (mTt o).length) (by have := (hall ((mTt o).length - 1) (by omega)).1; omega)
      have m2 : f_X7_takes_37 o (nI (mTt o).length) X = some (true, X') := by
        unfold f_X7_takes_37
        rw [h.2.2.1, nI_add, m1, b2_s]
      rw [m2]
      rcases Bool.eq_false_or_eq_true (decide ((if a + (mTt o).length < L then nI (B (a + (mTt o).length)) else -1) < (97 : Int32))) with c | c
      · rw [c]; exact ⟨_, rfl⟩
      · rw [c, cond_false]
        rcases Bool.eq_false_or_eq_true (decide ((122 : Int32) < (if a + (mTt o).length < L then nI (B (a + (mTt o).length)) else -1))) with c | c
        · rw [c]; exact ⟨_, rfl⟩
        · rw [c]; exact ⟨_, rfl⟩
    obtain ⟨r, hr⟩ := e5
    rw [hr]
    show _ = some r
    refine wh_ne (fun j => nI j) (mTt o).length _ (by omega) rfl (fun j hj' => ?_) hr
    obtain ⟨e1, e2⟩ := hall j hj'
    show f_X7_takes_5 o (nI (mTt o).length) (nI j) X = _
    rw [st j hj', decide_eq_true e1, decide_eq_true e2]
    rfl
  -- the byte behind
  have beh : (∀ k, k < (mTt o).length → a + k < L ∧ B (a + k) = (mTt o).getD k 0) → a + (mTt o).length ≤ L ∧ (cL B (a + (mTt o).length) = true → a + (mTt o).length < L → f_X7_takes o X = some (false, X)) ∧ (¬ (a + (mTt o).length < L ∧ cL B (a + (mTt o).length) = true) → ∃ X', f_X7_takes o X = some (true, X') ∧ tC X' L B (sB L B (a + (mTt o).length)) ∧ fC X X') := fun hall => by
    have hle : a + (mTt o).length ≤ L := by have := (hall ((mTt o).length - 1) (by omega)).1; omega
    obtain ⟨X', m1, m2, m3⟩ := C_move hT h hle
    have m4 : f_X7_takes_37 o (nI (mTt o).length) X = some (true, X') := by
      unfold f_X7_takes_37
      rw [h.2.2.1, nI_add, m1, b2_s]
    refine ⟨hle, fun hc hl => ?_, fun hc => ⟨X', ?_, m2, m3⟩⟩
    · have hb := hT.2 _ hl
      unfold cL at hc
      rw [Bool.and_eq_true] at hc
      have c1 := of_decide_eq_true hc.1
      have c2 := of_decide_eq_true hc.2
      rw [all hall]
      unfold f_X7_takes_5
      rw [i_lee, cond_true, byt _ (by omega), b1_s, if_pos hl, show decide (nI (B (a + (mTt o).length)) < (97 : Int32)) = false from (i_lt (b := 97) (by omega) (by decide)).trans (decide_eq_false (by omega)), cond_false, show decide ((122 : Int32) < nI (B (a + (mTt o).length))) = false from (i_lt (a := 122) (by decide) (by omega)).trans (decide_eq_false (by omega)), cond_false]
      rfl
    · rw [all hall]
      unfold f_X7_takes_5
      rw [i_lee, cond_true, byt _ (by omega), b1_s, m4]
      by_cases hl : a + (mTt o).length < L
      · have hb := hT.2 _ hl
        rw [if_pos hl, show decide (nI (B (a + (mTt o).length)) < (97 : Int32)) = decide (B (a + (mTt o).length) < 97) from i_lt (b := 97) (by omega) (by decide), show decide ((122 : Int32) < nI (B (a + (mTt o).length))) = decide (122 < B (a + (mTt o).length)) from i_lt (a := 122) (by decide) (by omega)]
        by_cases c1 : B (a + (mTt o).length) < 97
        · rw [decide_eq_true c1]; rfl
        · rw [decide_eq_false c1, cond_false]
          by_cases c2 : 122 < B (a + (mTt o).length)
          · rw [decide_eq_true c2]; rfl
          · exfalso
            refine hc ⟨hl, ?_⟩
            unfold cL
            rw [decide_eq_true (by omega), decide_eq_true (by omega)]
            rfl
      · rw [if_neg hl]
        rfl
  constructor
  · intro hi
    obtain ⟨h1, h2⟩ := (isW_iff hw).mp hi
    obtain ⟨b1, -, b3⟩ := beh h1
    exact ⟨b1, b3 h2⟩
  · intro hi
    by_cases hall : ∀ k, k < (mTt o).length → a + k < L ∧ B (a + k) = (mTt o).getD k 0
    · obtain ⟨-, b2, -⟩ := beh hall
      by_cases hc : a + (mTt o).length < L ∧ cL B (a + (mTt o).length) = true
      · exact b2 hc.2 hc.1
      · rw [(isW_iff hw).mpr ⟨hall, hc⟩] at hi
        cases hi
    · have hex : alK (fun k => decide (a + k < L) && decide (B (a + k) = (mTt o).getD k 0)) (mTt o).length = false := by
        cases c : alK (fun k => decide (a + k < L) && decide (B (a + k) = (mTt o).getD k 0)) (mTt o).length
        · rfl
        · refine absurd (fun k hk => ?_) hall
          have := alK_iff.mp c k hk
          rw [Bool.and_eq_true] at this
          exact ⟨of_decide_eq_true this.1, of_decide_eq_true this.2⟩
      obtain ⟨k, k1, k2, k3⟩ := alK_first hex
      refine bad k k1 (fun j hj => ?_) (fun ⟨e1, e2⟩ => ?_)
      · have := alK_iff.mp k2 j hj
        rw [Bool.and_eq_true] at this
        exact ⟨of_decide_eq_true this.1, of_decide_eq_true this.2⟩
      · rw [decide_eq_true e1, decide_eq_true e2] at k3
        cases k3
end
