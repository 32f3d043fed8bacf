/-! reliefs one behind another: in any order the same -/
theorem dsy {a b : Nat} : decide (a = b) = decide (b = a) := decide_eq_decide.mpr ⟨Eq.symm, Eq.symm⟩
section
variable {n : Nat} {W : Nat → Int32}
theorem sw_5 {p o q : Nat} (hp : p < n) (hq : q < n) (h8 : n ≤ 8) : pv (wSw n W p o) q 5 = if q = p then -1 else if q = o then pv W p 5 else pv W q 5 := by
  unfold wSw
  rw [wD_5 hq h8, hs_bit (by omega) (by omega), wS_5 hq h8]
  by_cases h : q = p
  · rw [if_pos h, decide_eq_true h.symm, cond_true]
  · rw [if_neg h, decide_eq_false (Ne.symm h), cond_false]
/-- who is on whom behind it, by bits -/
def ren (p o : Nat) (s : Int32) (j : Nat) : Bool := !decide (j = p) && (hs s j || (hs s p && decide (j = o)))
theorem sw_6 (hw : WF n W) {p o q : Nat} (hp : p < n) (ho : o < n) (hq : q < n) {j : Nat} (hj : j < 32) : hs (pv (wSw n W p o) q 6) j = (!decide (q = p) && ren p o (if q = o then pv W p 6 else pv W q 6) j) := by
  have h8 := hw.2.1
  unfold wSw
  rw [wD_6 hq h8, hs_bit (by omega) (by omega)]
  by_cases h : q = p
  · rw [decide_eq_true h.symm, cond_true, decide_eq_true h, hs_0]; rfl
  · rw [decide_eq_false (Ne.symm h), cond_false, decide_eq_false h, Bool.not_false, Bool.true_and, hs_and, hs_nn hj, hs_bit (by omega) hj, wS_6 hq h8, dsy]
    unfold ren
    by_cases e : q = o
    · rw [if_pos e, if_pos e, hw.self hp, Bool.false_and, Bool.or_false, Bool.and_comm]
    · rw [if_neg e, if_neg e]
      cases hs (pv W q 6) p
      · rw [cond_false, Bool.false_and, Bool.or_false, Bool.and_comm]
      · rw [cond_true, hs_or, hs_bit (by omega) hj, Bool.true_and, Bool.and_comm, dsy (a := o)]
theorem sw_c {p o q c : Nat} (hq : q < 8) (hc : c < 7) (h5 : c ≠ 5) (h6 : c ≠ 6) : pv (wSw n W p o) q c = pv W q c := by
  unfold wSw
  rw [wD_c hq hc h5 h6, wS_c hq hc h5 h6]
theorem sw_n {p o q c : Nat} (hq : q < 8) (hn : n ≤ q) (hc : c < 7) : pv (wSw n W p o) q c = pv W q c := by
  unfold wSw
  rw [wD_out hn hq hc]
  unfold wS2
  rw [pXn_out hn hq hc]
theorem sw_up {p o q : Nat} (hp : p < n) (hq : q < n) (h8 : n ≤ 8) (hu : upB W p = true) : upB (wSw n W p o) q = ((upB W q || decide (q = o)) && !decide (q = p)) := by
  unfold wSw
  rw [wD_up hq h8, wS_up hq h8 hu, hs_bit (by omega) (by omega), dsy (a := p)]
theorem ren_b : ∀ a b c d x y z : Bool, (d = true → a = false) → (c = true → b = false) → (!b && ((!a && (x || (y && c))) || (z && d))) = (!a && ((!b && (x || (z && d))) || (y && c))) := by decide
theorem ren_c {p o p' o' : Nat} (d1 : p ≠ p') (d2 : p ≠ o') (d3 : o ≠ p') {j : Nat} {s t t' : Int32} (h1 : hs t j = ren p o s j) (h2 : hs t p' = ren p o s p') (h3 : hs t' j = ren p' o' s j) (h4 : hs t' p = ren p' o' s p) : ren p' o' t j = ren p o t' j := by
  unfold ren at h1 h2 h3 h4 ⊢
  rw [h1, h2, h3, h4, decide_eq_false (Ne.symm d1), decide_eq_false (Ne.symm d3), decide_eq_false d1, decide_eq_false d2, Bool.and_false, Bool.and_false, Bool.or_false, Bool.or_false, Bool.not_false, Bool.true_and, Bool.true_and]
  refine ren_b _ _ _ _ _ _ _ (fun h => decide_eq_false fun e => ?_) (fun h => decide_eq_false fun e => ?_)
  · have := of_decide_eq_true h; omega
  · have := of_decide_eq_true h; omega
theorem sw_cm (hw : WF n W) {p o p' o' : Nat} (hp : p < n) (ho : o < n) (hp' : p' < n) (ho' : o' < n) (d1 : p ≠ p') (d2 : p ≠ o') (d3 : o ≠ p') (d4 : o ≠ o') (hu : upB W p = true) (hd : upB W o = false) (hu' : upB W p' = true) (hd' : upB W o' = false) : wSw n (wSw n W p o) p' o' = wSw n (wSw n W p' o') p o := by
  have h8 := hw.2.1
  have d5 : p ≠ o := fun e => by rw [e, hd] at hu; cases hu
  have d6 : p' ≠ o' := fun e => by rw [e, hd'] at hu'; cases hu'
  have hw1 : WF n (wSw n W p o) := hw.sw hp ho hu hd
  have hw2 : WF n (wSw n W p' o') := hw.sw hp' ho' hu' hd'
  refine W_ext (fun q c hq hc => ?_) (fun k hk => by rw [wSw_o hk, wSw_o hk, wSw_o hk, wSw_o hk])
  by_cases hqn : q < n
  · by_cases h5 : c = 5
    · subst h5
      rw [sw_5 hp' hqn h8, sw_5 hp hqn h8, sw_5 hp hqn h8, sw_5 hp' hqn h8, sw_5 hp hp' h8, sw_5 hp' hp h8]
      rw [if_neg (Ne.symm d1), if_neg (Ne.symm d3), if_neg d1, if_neg d2]
      repeat' split
      all_goals first | rfl | (exfalso; omega)
    · by_cases h6 : c = 6
      · subst h6
        refine hs_ext fun j hj => ?_
        rw [sw_6 hw1 hp' ho' hqn hj, sw_6 hw2 hp ho hqn hj]
        have a1 : ∀ q, q < n → ∀ i, i < 32 → hs (pv (wSw n W p o) q 6) i = (!decide (q = p) && ren p o (if q = o then pv W p 6 else pv W q 6) i) := fun q hq i hi => sw_6 hw hp ho hq hi
        have a2 : ∀ q, q < n → ∀ i, i < 32 → hs (pv (wSw n W p' o') q 6) i = (!decide (q = p') && ren p' o' (if q = o' then pv W p' 6 else pv W q 6) i) := fun q hq i hi => sw_6 hw hp' ho' hq hi
        by_cases e1 : q = p
        · subst e1
          rw [decide_eq_true (rfl : q = q), Bool.not_true, Bool.false_and, if_neg d2, decide_eq_false d1, Bool.not_false, Bool.true_and]
          have z : ∀ i, i < 32 → hs (pv (wSw n W q o) q 6) i = false := fun i hi => by rw [a1 q hqn i hi, decide_eq_true (rfl : q = q)]; rfl
          unfold ren
          rw [z j hj, z p' (by omega)]
          cases decide (j = p') <;> rfl
        · by_cases e2 : q = p'
          · subst e2
            rw [decide_eq_true (rfl : q = q), Bool.not_true, Bool.false_and, if_neg (Ne.symm d3), decide_eq_false e1, Bool.not_false, Bool.true_and]
            have z : ∀ i, i < 32 → hs (pv (wSw n W q o') q 6) i = false := fun i hi => by rw [a2 q hqn i hi, decide_eq_true (rfl : q = q)]; rfl
            unfold ren
            rw [z j hj, z p (by omega)]
            cases decide (j = p) <;> rfl
          · rw [decide_eq_false e1, decide_eq_false e2, Bool.not_false, Bool.true_and, Bool.true_and]
            have fin : ∀ s : Int32, ∀ x y, x < n → y < n → x ≠ p → y ≠ p' → (if x = o then pv W p 6 else pv W x 6) = s → (if y = o' then pv W p' 6 else pv W y 6) = s → ren p' o' (pv (wSw n W p o) x 6) j = ren p o (pv (wSw n W p' o') y 6) j := fun s x y hx hy n1 n2 e e' => by
              refine ren_c (s := s) d1 d2 d3 ?_ ?_ ?_ ?_
              · rw [a1 x hx j hj, e, decide_eq_false n1]; rfl
              · rw [a1 x hx p' (by omega), e, decide_eq_false n1]; rfl
              · rw [a2 y hy j hj, e', decide_eq_false n2]; rfl
              · rw [a2 y hy p (by omega), e', decide_eq_false n2]; rfl
            by_cases e3 : q = o'
            · rw [if_pos e3, if_neg (by omega)]
              exact fin (pv W p' 6) p' q hp' hqn (Ne.symm d1) e2 (by rw [if_neg (Ne.symm d3)]) (by rw [if_pos e3])
            · rw [if_neg e3]
              by_cases e4 : q = o
              · rw [if_pos e4]
                exact fin (pv W p 6) q p hqn hp e1 d1 (by rw [if_pos e4]) (by rw [if_neg d2])
              · rw [if_neg e4]
                exact fin (pv W q 6) q q hqn hqn e1 e2 (by rw [if_neg e4]) (by rw [if_neg e3])
      · rw [sw_c hq hc h5 h6, sw_c hq hc h5 h6, sw_c hq hc h5 h6, sw_c hq hc h5 h6]
  · rw [sw_n hq (by omega) hc, sw_n hq (by omega) hc, sw_n hq (by omega) hc, sw_n hq (by omega) hc]
/-- rows that are apart, and what each wants -/
def Dst (n m : Nat) (P O : Nat → Nat) : Prop := (∀ r, r < m → P r < n ∧ O r < n) ∧ ∀ r s, r < m → s < m → r ≠ s → P r ≠ P s ∧ P r ≠ O s ∧ O r ≠ P s ∧ O r ≠ O s
def caB (W : Nat → Int32) (P O : Nat → Nat) (r : Nat) : Bool := upB W (P r) && !upB W (O r)
theorem caB_o {P O : Nat → Nat} {r : Nat} (h : caB W P O r = true) : upB W (P r) = true ∧ upB W (O r) = false := by
  unfold caB at h
  rw [Bool.and_eq_true] at h
  refine ⟨h.1, ?_⟩
  cases z : upB W (O r)
  · rfl
  · rw [z] at h; exact absurd h.2 (by decide)
/-- behind those of D among the first k rows -/
def wR (n : Nat) (W : Nat → Int32) (P O : Nat → Nat) (D : Nat → Bool) : Nat → Nat → Int32
  | 0 => W
  | k + 1 => bif D k then wSw n (wR n W P O D k) (P k) (O k) else wR n W P O D k
theorem wR_s {P O : Nat → Nat} (D : Nat → Bool) (k : Nat) : wR n W P O D (k + 1) = bif D k then wSw n (wR n W P O D k) (P k) (O k) else wR n W P O D k := rfl
theorem wR_cg {P O : Nat → Nat} {D D' : Nat → Bool} : ∀ {k : Nat}, (∀ j, j < k → D j = D' j) → wR n W P O D k = wR n W P O D' k := by
  intro k
  induction k with
  | zero => intro _; rfl
  | succ k ih => intro h; rw [wR_s, wR_s, ih fun j hj => h j (by omega), h k (by omega)]
theorem wR_o {P O : Nat → Nat} {D : Nat → Bool} {j : Nat} (hj : j < 8 ∨ 64 ≤ j) : ∀ k, wR n W P O D k j = W j := by
  intro k
  induction k with
  | zero => rfl
  | succ k ih =>
    rw [wR_s]
    cases D k
    · exact ih
    · exact (wSw_o hj).trans ih
theorem wR_up (hw : WF n W) {m : Nat} {P O : Nat → Nat} (hA : Dst n m P O) {D : Nat → Bool} : ∀ {k : Nat}, (∀ j, j < k → D j = true → j < m ∧ caB W P O j = true) → WF n (wR n W P O D k) ∧ ∀ q, q < n → (∀ j, j < k → D j = true → q ≠ P j ∧ q ≠ O j) → upB (wR n W P O D k) q = upB W q := by
  intro k
  induction k with
  | zero => intro _; exact ⟨hw, fun _ _ _ => rfl⟩
  | succ k ih =>
    intro h
    have h8 := hw.2.1
    obtain ⟨i1, i2⟩ := ih fun j hj => h j (by omega)
    rw [wR_s]
    cases c : D k
    · exact ⟨i1, fun q hq hn => i2 q hq fun j hj => hn j (by omega)⟩
    · obtain ⟨g1, g2⟩ := h k (by omega) c
      obtain ⟨g3, g4⟩ := caB_o g2
      obtain ⟨p1, p2⟩ := hA.1 k g1
      have out : ∀ j, j < k → D j = true → P k ≠ P j ∧ P k ≠ O j ∧ O k ≠ P j ∧ O k ≠ O j := fun j hj hD => hA.2 k j g1 (h j (by omega) hD).1 (by omega)
      have u1 : upB (wR n W P O D k) (P k) = true := by rw [i2 _ p1 fun j hj hD => ⟨(out j hj hD).1, (out j hj hD).2.1⟩]; exact g3
      have u2 : upB (wR n W P O D k) (O k) = false := by rw [i2 _ p2 fun j hj hD => ⟨(out j hj hD).2.2.1, (out j hj hD).2.2.2⟩]; exact g4
      refine ⟨i1.sw p1 p2 u1 u2, fun q hq hn => ?_⟩
      rw [cond_true, sw_up p1 hq h8 u1, i2 q hq fun j hj => hn j (by omega), decide_eq_false (hn k (by omega) c).1, decide_eq_false (hn k (by omega) c).2, Bool.or_false, Bool.not_false, Bool.and_true]
theorem wR_ca (hw : WF n W) {m : Nat} {P O : Nat → Nat} (hA : Dst n m P O) {D : Nat → Bool} {k r : Nat} (h : ∀ j, j < k → D j = true → j < m ∧ caB W P O j = true) (hr : r < m) (hD : ∀ j, j < k → D j = true → j ≠ r) : caB (wR n W P O D k) P O r = caB W P O r := by
  obtain ⟨-, i2⟩ := wR_up hw hA h
  obtain ⟨p1, p2⟩ := hA.1 r hr
  have out : ∀ j, j < k → D j = true → P r ≠ P j ∧ P r ≠ O j ∧ O r ≠ P j ∧ O r ≠ O j := fun j hj hj' => hA.2 r j hr (h j hj hj').1 (Ne.symm (hD j hj hj'))
  unfold caB
  rw [i2 _ p1 fun j hj hD => ⟨(out j hj hD).1, (out j hj hD).2.1⟩, i2 _ p2 fun j hj hD => ⟨(out j hj hD).2.2.1, (out j hj hD).2.2.2⟩]
/-- one more, as the last or in its place -/
theorem wR_add (hw : WF n W) {m : Nat} {P O : Nat → Nat} (hA : Dst n m P O) {D : Nat → Bool} {r : Nat} (hr : r < m) (hc : caB W P O r = true) (hDr : D r = false) : ∀ {k : Nat}, r < k → (∀ j, j < k → D j = true → j < m ∧ caB W P O j = true) → wSw n (wR n W P O D k) (P r) (O r) = wR n W P O (fun j => D j || decide (j = r)) k := by
  intro k
  induction k with
  | zero => intro h; exact absurd h (Nat.not_lt_zero r)
  | succ k ih =>
    intro hrk h
    have hD : ∀ j, D j = true → j ≠ r := fun j hj e => by rw [e, hDr] at hj; cases hj
    by_cases e : r = k
    · subst e
      rw [wR_s, wR_s, hDr, cond_false, decide_eq_true rfl, Bool.or_true, cond_true]
      exact congrArg (fun z => wSw n z (P r) (O r)) (wR_cg fun j hj => by
        show D j = (D j || decide (j = r))
        rw [decide_eq_false (by omega), Bool.or_false])
    · rw [wR_s, wR_s (fun j => D j || decide (j = r)), decide_eq_false (Ne.symm e), Bool.or_false, ← ih (by omega) fun j hj => h j (by omega)]
      cases c : D k
      · rfl
      · rw [cond_true, cond_true]
        have hk := h k (by omega) c
        obtain ⟨w1, -⟩ := wR_up hw hA (D := D) (k := k) fun j hj => h j (by omega)
        have c1 := wR_ca hw hA (D := D) (k := k) (r := k) (fun j hj => h j (by omega)) hk.1 (fun j hj _ => by omega)
        have c2 := wR_ca hw hA (D := D) (k := k) (r := r) (fun j hj => h j (by omega)) hr (fun j _ => hD j)
        rw [hk.2] at c1
        rw [hc] at c2
        obtain ⟨u1, u2⟩ := caB_o c1
        obtain ⟨u3, u4⟩ := caB_o c2
        obtain ⟨d1, d2, d3, d4⟩ := hA.2 k r hk.1 hr (Ne.symm e)
        exact sw_cm w1 (hA.1 k hk.1).1 (hA.1 k hk.1).2 (hA.1 r hr).1 (hA.1 r hr).2 d1 d2 d3 d4 u1 u2 u3 u4
/-- all of the first k -/
def alK (c : Nat → Bool) : Nat → Bool
  | 0 => true
  | k + 1 => alK c k && c k
theorem alK_s (c : Nat → Bool) (k : Nat) : alK c (k + 1) = (alK c k && c k) := rfl
theorem alK_iff {c : Nat → Bool} : ∀ {k : Nat}, alK c k = true ↔ ∀ j, j < k → c j = true := by
  intro k
  induction k with
  | zero => exact ⟨fun _ j hj => absurd hj (Nat.not_lt_zero j), fun _ => rfl⟩
  | succ k ih =>
    rw [alK_s, Bool.and_eq_true, ih]
    constructor
    · rintro ⟨h1, h2⟩ j hj
      by_cases e : j = k
      · rw [e]; exact h2
      · exact h1 j (by omega)
    · intro h
      exact ⟨fun j hj => h j (by omega), h k (by omega)⟩
theorem alK_first {c : Nat → Bool} : ∀ {m : Nat}, alK c m = false → ∃ k, k < m ∧ alK c k = true ∧ c k = false := by
  intro m
  induction m with
  | zero => intro h; cases h
  | succ m ih =>
    intro h
    cases c1 : alK c m
    · obtain ⟨k, h1, h2, h3⟩ := ih c1
      exact ⟨k, by omega, h2, h3⟩
    · rw [alK_s, c1, Bool.true_and] at h
      exact ⟨m, by omega, c1, h⟩
theorem alK_cg {c d : Nat → Bool} {k : Nat} (h : ∀ j, j < k → c j = d j) : alK c k = alK d k := bool_iff (by
  rw [alK_iff, alK_iff]
  exact ⟨fun g j hj => by rw [← h j hj]; exact g j hj, fun g j hj => by rw [h j hj]; exact g j hj⟩)
/-- whether it stands behind those of D -/
def sAf (n : Nat) (W : Nat → Int32) (P O : Nat → Nat) (D : Nat → Bool) : Bool := alK (fun j => !D j || caB W P O j) 4 && stB n (wR n W P O D 4) (fun _ => 0)
theorem sAf_cg {P O : Nat → Nat} {D D' : Nat → Bool} (h : ∀ j, j < 4 → D j = D' j) : sAf n W P O D = sAf n W P O D' := by
  unfold sAf
  rw [wR_cg h, alK_cg fun j hj => by rw [h j hj]]
theorem sAf_0 {P O : Nat → Nat} : sAf n W P O (fun _ => false) = stB n W (fun _ => 0) := rfl
theorem sAf_1 {P O : Nat → Nat} {r : Nat} (hr : r < 4) : sAf n W P O (fun j => decide (j = r)) = (caB W P O r && stB n (wSw n W (P r) (O r)) (fun _ => 0)) := by
  match r, hr with
  | 0, _ => show ((true && (!true || caB W P O 0)) && (!false || _) && (!false || _) && (!false || _) && _) = _; rw [Bool.not_true, Bool.false_or, Bool.not_false, Bool.true_or, Bool.true_or, Bool.true_or, Bool.true_and, Bool.and_true, Bool.and_true, Bool.and_true]; rfl
  | 1, _ => show ((true && (!false || _)) && (!true || caB W P O 1) && (!false || _) && (!false || _) && _) = _; rw [Bool.not_true, Bool.false_or, Bool.not_false, Bool.true_or, Bool.true_or, Bool.true_or, Bool.true_and, Bool.true_and, Bool.and_true, Bool.and_true]; rfl
  | 2, _ => show ((true && (!false || _)) && (!false || _) && (!true || caB W P O 2) && (!false || _) && _) = _; rw [Bool.not_true, Bool.false_or, Bool.not_false, Bool.true_or, Bool.true_or, Bool.true_or, Bool.true_and, Bool.true_and, Bool.true_and, Bool.and_true]; rfl
  | 3, _ => show ((true && (!false || _)) && (!false || _) && (!false || _) && (!true || caB W P O 3) && _) = _; rw [Bool.not_true, Bool.false_or, Bool.not_false, Bool.true_or, Bool.true_or, Bool.true_or, Bool.true_and, Bool.true_and, Bool.true_and, Bool.true_and]; rfl
end
