/-! how a tower of the class stands for a world of the reference -/
/-- the latest fallen, latest first -/
def LR (W : Nat → Int32) (M : mM) (g : Nat) : Prop := ∃ x c : Nat, x < 60 ∧ c ≤ 60 ∧ M g 1 = nI x ∧ M g 2 = nI c ∧ W 6 = nI c ∧ ∀ a, a < c → ∀ w, w < 6 → M (g + 1) ((x + 59 - a) % 60 * 6 + w) = W (64 + 6 * a + w)
def TR (n : Nat) (W : Nat → Int32) (M : mM) (o : Nat) : Prop := M o 0 = nI n ∧ M o 1 = upS n W ∧ M o 2 = slS n W ∧ M o 3 = W 3 ∧ M o 4 = W 4 ∧ M o 5 = W 5 ∧ M o 6 = W 7 ∧ M o 7 = W 1 ∧
  (∀ p, p < n → M (o + 1) p = pv W p 0 ∧ M (o + 2) p = pv W p 1 ∧ M (o + 3) p = pv W p 2 ∧ M (o + 4) p = pv W p 4 ∧ M (o + 6) p = pv W p 6 ∧ (upB W p = true → M (o + 5) p = pv W p 5)) ∧
  (∀ p, n ≤ p → p < 8 → M (o + 3) p = 0 ∧ M (o + 4) p = 0 ∧ M (o + 6) p = 0) ∧ LR W M (o + 9)
/-- what it bears and who is trodden on is as it stands -/
def TS (n : Nat) (W : Nat → Int32) (M : mM) (o : Nat) : Prop := TR n W M o ∧ M o 14 = tTrod M o 8 ∧ ∀ p, p < 8 → M (o + 7) p = rCar n W (fun _ => 0) p
/-- a world that is right in itself (whether it stands is another thing) -/
def WF (n : Nat) (W : Nat → Int32) : Prop := W 0 = nI n ∧ n ≤ 8 ∧
  (∀ p, p < n → (pv W p 3 = 0 ∨ pv W p 3 = 1) ∧ (pv W p 5 = -1 ∨ ∃ r, r ≤ 4 ∧ pv W p 5 = nI r) ∧ S8 (pv W p 6) ∧ (decide (pv W p 5 ≤ 0) = true → pv W p 6 = 0) ∧ (∀ q, q < 8 → hs (pv W p 6) q = true → q < n ∧ pv W q 5 + 1 = pv W p 5 ∧ upB W q = true)) ∧
  (∀ p, p < n → (∃ x, 1 ≤ x ∧ x ≤ 99 ∧ pv W p 0 = nI x) ∧ (∃ x, x ≤ 999 ∧ pv W p 1 = nI x) ∧ (∃ x, x ≤ 999 ∧ pv W p 2 = nI x) ∧ (∃ x, x ≤ 99 ∧ pv W p 4 = nI x)) ∧
  (∃ x, x ≤ 12 ∧ W 1 = nI x) ∧ (∃ x, x ≤ 23 ∧ W 3 = nI x) ∧ (∃ x, x ≤ 9999 ∧ W 4 = nI x) ∧ (∃ x, x ≤ 8 ∧ W 5 = nI x)
/-- what is of a world that is only thought of: those up, those who hold -/
def hgG (n : Nat) (W : Nat → Int32) (ups hd : Int32) : Int32 := setOf fun p => decide (p < n) && (hs ups p && (!decide (pv W p 5 ≤ 0) && decide (pv W p 6 &&& hd = 0)))
def caG (n : Nat) (W : Nat → Int32) (ups hd : Int32) (b : Nat → Int32) : Nat → Int32 := car (fun r p => decide (p < n) && (hs ups p && decide (pv W p 5 = nI r))) (fun p => pv W p 0) (fun p => pv W p 6 &&& hd) b
def ywG (n : Nat) (W : Nat → Int32) (ups hd : Int32) (b : Nat → Int32) : Int32 := setOf fun p => decide (p < n) && (hs hd p && !decide (caG n W ups hd b p ≤ pv W p 2))
def stG (n : Nat) (W : Nat → Int32) (ups hd : Int32) (b : Nat → Int32) : Bool := decide (hgG n W ups hd = 0) && decide (ywG n W ups hd b = 0)
/-- what is borne below 8 does not rest on what was there -/
theorem shK_in {by' each over : Int32} {b b' : Nat → Int32} (h : ∀ j, j < 8 → b j = b' j) : ∀ {k : Nat}, k ≤ 8 → (shK by' each over b k).1 = (shK by' each over b' k).1 ∧ ∀ j, j < 8 → (shK by' each over b k).2 j = (shK by' each over b' k).2 j := by
  intro k
  induction k with
  | zero => intro _; exact ⟨rfl, h⟩
  | succ k ih =>
    intro hk
    obtain ⟨e1, e2⟩ := ih (by omega)
    rw [shK_s, shK_s]
    cases hs by' k
    · exact ⟨e1, e2⟩
    · refine ⟨?_, fun j hj => ?_⟩
      · show _ + _ = _ + _
        rw [e1]
      · show upd _ k _ j = upd _ k _ j
        by_cases hjk : j = k
        · subst hjk; rw [upd_at, upd_at, e1, e2 j hj]
        · rw [upd_ne hjk, upd_ne hjk, e2 j hj]
theorem shS_in {load by' : Int32} {b b' : Nat → Int32} (h : ∀ j, j < 8 → b j = b' j) {j : Nat} (hj : j < 8) : shS load by' b j = shS load by' b' j := by
  unfold shS
  cases decide (bc by' = 0)
  · exact (shK_in h (Nat.le_refl 8)).2 j hj
  · exact h j hj
theorem carP_in {act : Nat → Bool} {wt by' b b' : Nat → Int32} (h : ∀ j, j < 8 → b j = b' j) : ∀ {k : Nat}, k ≤ 8 → ∀ j, j < 8 → carP act wt by' b k j = carP act wt by' b' k j := by
  intro k
  induction k with
  | zero => intro _; exact h
  | succ k ih =>
    intro hk j hj
    have e := ih (by omega)
    rw [carP_s, carP_s]
    cases act k
    · exact e j hj
    · show shS _ _ _ j = shS _ _ _ j
      rw [e k (by omega)]
      exact shS_in e hj
theorem carR_in {act : Nat → Nat → Bool} {wt by' b b' : Nat → Int32} (h : ∀ j, j < 8 → b j = b' j) : ∀ {r : Nat}, ∀ j, j < 8 → carR act wt by' b r j = carR act wt by' b' r j := by
  intro r
  induction r with
  | zero => exact h
  | succ r ih => rw [carR_s, carR_s]; exact carP_in ih (Nat.le_refl 8)
theorem car_in {act : Nat → Nat → Bool} {wt by' b b' : Nat → Int32} {j : Nat} (hj : j < 8) : car act wt by' b j = car act wt by' b' j := by
  unfold car
  exact carR_in (fun j hj => by unfold zr8; rw [if_pos hj, if_pos hj]) j hj
theorem caG_in {n : Nat} {W : Nat → Int32} {ups hd : Int32} {b b' : Nat → Int32} {j : Nat} (hj : j < 8) : caG n W ups hd b j = caG n W ups hd b' j := car_in hj
theorem rCar_in {n : Nat} {W b b' : Nat → Int32} {j : Nat} (hj : j < 8) : rCar n W b j = rCar n W b' j := car_in hj
theorem stG_in {n : Nat} {W : Nat → Int32} {ups hd : Int32} (b b' : Nat → Int32) : stG n W ups hd b = stG n W ups hd b' := by
  unfold stG ywG
  rw [show setOf (fun p => decide (p < n) && (hs hd p && !decide (caG n W ups hd b p ≤ pv W p 2))) = setOf (fun p => decide (p < n) && (hs hd p && !decide (caG n W ups hd b' p ≤ pv W p 2))) from set_congr fun j hj => by rw [caG_in (b' := b') hj]]
section
variable {n : Nat} {W : Nat → Int32}
theorem hs_ups {p : Nat} (hp : p < 8) : hs (upS n W) p = (decide (p < n) && upB W p) := hs_set8 hp
theorem hs_sls {p : Nat} (hp : p < 8) : hs (slS n W) p = (decide (p < n) && slB W p) := hs_set8 hp
theorem hs_hos {p : Nat} (hp : p < 8) : hs (hoS n W) p = (decide (p < n) && hoB W p) := hs_set8 hp
theorem ho_of : upS n W &&& (slS n W ^^^ (-1 : Int32)) = hoS n W := S8.ext (S8.andl (S8.set _)) (S8.set _) fun j hj => by
  rw [hs_and, hs_not (by omega), hs_ups hj, hs_sls hj, hs_hos hj]
  unfold hoB
  cases decide (j < n) <;> cases upB W j <;> cases slB W j <;> rfl
theorem upB_le {p : Nat} (h : upB W p = false) : decide (pv W p 5 ≤ 0) = true := by
  unfold upB at h
  cases e : decide (pv W p 5 = -1)
  · rw [e] at h; cases h
  · rw [of_decide_eq_true e]; decide
theorem upB_ri {p r : Nat} (hr : r < 2 ^ 31) (h : upB W p = false) : decide (pv W p 5 = nI r) = false := by
  unfold upB at h
  cases e : decide (pv W p 5 = -1)
  · rw [e] at h; cases h
  · rw [of_decide_eq_true e]
    refine decide_eq_false fun z => ?_
    have h1 : ¬ (nI r < 0) := nI_pos hr
    rw [← z] at h1
    exact h1 (by decide)
/-- as the world is -/
theorem caG_r {b : Nat → Int32} : caG n W (upS n W) (hoS n W) b = rCar n W b := by
  unfold caG rCar
  refine car_congr (fun r p h1 h4 hp => ?_) (fun r p h1 h4 hp ha => ⟨rfl, rfl⟩)
  unfold rAct
  rw [hs_ups hp]
  cases h : upB W p
  · rw [upB_ri (by omega) h]; cases decide (p < n) <;> rfl
  · cases decide (p < n) <;> rfl
theorem hgG_r : hgG n W (upS n W) (hoS n W) = hgS n W := by
  unfold hgG hgS
  refine set_congr fun p hp => ?_
  unfold hgB rBy
  rw [hs_ups hp]
  cases h : upB W p
  · rw [upB_le h]; cases decide (p < n) <;> rfl
  · cases decide (p < n) <;> rfl
theorem ywG_r {b : Nat → Int32} : ywG n W (upS n W) (hoS n W) b = gwS n W b := by
  unfold ywG gwS
  refine set_congr fun p hp => ?_
  rw [caG_r, hs_hos hp]
  cases decide (p < n) <;> rfl
theorem or0 {a b : Int32} : (a ||| b = 0) ↔ (a = 0 ∧ b = 0) := by
  constructor
  · intro h
    constructor
    · refine hs_ext fun j hj => ?_
      have := hs_or a b j
      rw [h, hs_0] at this
      rw [hs_0]
      cases e : hs a j
      · rfl
      · rw [e] at this; cases this
    · refine hs_ext fun j hj => ?_
      have := hs_or a b j
      rw [h, hs_0] at this
      rw [hs_0]
      cases e : hs b j
      · rfl
      · rw [e, Bool.or_true] at this; cases this
  · rintro ⟨rfl, rfl⟩
    rfl
theorem stB_G {b : Nat → Int32} : stB n W b = stG n W (upS n W) (hoS n W) b := by
  unfold stB stG
  rw [hgG_r, ywG_r]
  by_cases h1 : gwS n W b = 0
  · by_cases h2 : hgS n W = 0
    · rw [decide_eq_true (or0.mpr ⟨h1, h2⟩), decide_eq_true h1, decide_eq_true h2]; rfl
    · rw [decide_eq_false (fun z => h2 (or0.mp z).2), decide_eq_false h2]; rfl
  · rw [decide_eq_false (fun z => h1 (or0.mp z).1), decide_eq_false h1, Bool.and_false]
theorem stB_in (b b' : Nat → Int32) : stB n W b = stB n W b' := by rw [stB_G, stB_G, stG_in b b']
variable {M : mM} {o : Nat}
theorem TR.ho (h : TR n W M o) : M o 1 &&& (M o 2 ^^^ (-1 : Int32)) = hoS n W := by
  obtain ⟨-, h1, h2, -⟩ := h
  rw [h1, h2, ho_of]
theorem TR.pp (h : TR n W M o) {p : Nat} (hp : p < n) : M (o + 1) p = pv W p 0 ∧ M (o + 2) p = pv W p 1 ∧ M (o + 3) p = pv W p 2 ∧ M (o + 4) p = pv W p 4 ∧ M (o + 6) p = pv W p 6 ∧ (upB W p = true → M (o + 5) p = pv W p 5) := h.2.2.2.2.2.2.2.2.1 p hp
theorem TR.p0 (h : TR n W M o) {p : Nat} (hp : n ≤ p) (h8 : p < 8) : M (o + 3) p = 0 ∧ M (o + 4) p = 0 ∧ M (o + 6) p = 0 := h.2.2.2.2.2.2.2.2.2.1 p hp h8
/-- a set of those who are up -/
def sub (a b : Int32) : Prop := ∀ p, p < 8 → hs a p = true → hs b p = true
theorem sub_ups {ups : Int32} (h : sub ups (upS n W)) {p : Nat} (hp : p < 8) (hu : hs ups p = true) : p < n ∧ upB W p = true := by
  have := h p hp hu
  rw [hs_ups hp, Bool.and_eq_true] at this
  exact ⟨of_decide_eq_true this.1, this.2⟩
theorem TR.car (h : TR n W M o) {ups hd : Int32} (hu : sub ups (upS n W)) {b : Nat → Int32} : tCar M o ups hd b = caG n W ups hd b := by
  unfold tCar caG
  refine car_congr (fun r p h1 h4 hp => ?_) (fun r p h1 h4 hp ha => ?_)
  · unfold tAct
    cases e : hs ups p
    · cases decide (p < n) <;> rfl
    · obtain ⟨g1, g2⟩ := sub_ups hu hp e
      rw [decide_eq_true g1, (h.pp g1).2.2.2.2.2 g2]
      rfl
  · unfold tAct at ha
    rw [Bool.and_eq_true] at ha
    obtain ⟨g1, g2⟩ := sub_ups hu hp ha.1
    unfold tBy
    exact ⟨(h.pp g1).1, by rw [(h.pp g1).2.2.2.2.1]⟩
theorem TR.hg (h : TR n W M o) {ups hd : Int32} (hu : sub ups (upS n W)) : setOf (tHang M o ups hd) = hgG n W ups hd := by
  unfold hgG
  refine set_congr fun p hp => ?_
  unfold tHang
  cases e : hs ups p
  · cases decide (p < n) <;> rfl
  · obtain ⟨g1, g2⟩ := sub_ups hu hp e
    rw [decide_eq_true g1, (h.pp g1).2.2.2.2.2 g2, (h.pp g1).2.2.2.2.1]
    rfl
theorem TR.st (h : TR n W M o) {ups hd : Int32} (hu : sub ups (upS n W)) (hh : sub hd ups) {b : Nat → Int32} : tStandB M o ups hd b = stG n W ups hd b := by
  unfold tStandB stG
  rw [h.hg hu]
  congr 2
  refine congrArg (fun z => z = (0 : Int32)) (set_congr fun p hp => ?_)
  rw [h.car hu]
  cases e : hs hd p
  · cases decide (p < n) <;> rfl
  · obtain ⟨g1, g2⟩ := sub_ups hu hp (hh p hp e)
    rw [decide_eq_true g1, (h.pp g1).2.2.1]
    rfl
theorem sub_rf {a : Int32} : sub a a := fun _ _ h => h
theorem sub_and {a b : Int32} : sub (a &&& b) a := fun p _ h => by
  rw [hs_and, Bool.and_eq_true] at h
  exact h.1
theorem sub.tr {a b c : Int32} (h1 : sub a b) (h2 : sub b c) : sub a c := fun p hp h => h2 p hp (h1 p hp h)
theorem sub_hos : sub (hoS n W) (upS n W) := by rw [← ho_of]; exact sub_and
/-- what the class's tower says of standing -/
theorem TR.stands (h : TR n W M o) (ho : mTwB o = true) {ups sl : Int32} (hu : sub ups (upS n W)) : ∃ M', f_X9_stands o ups sl M = some (stG n W ups (ups &&& (sl ^^^ (-1 : Int32))) (fun _ => 0), M') ∧ ∀ z, z ≠ o + 8 → M' z = M z := by
  refine ⟨_, by rw [T_stands ho, h.st hu sub_and, stG_in _ (fun _ => 0)], fun z hz => ?_⟩
  cases decide (setOf (tHang M o ups (ups &&& (sl ^^^ (-1 : Int32)))) = 0)
  · rfl
  · exact rs_ne hz
theorem TR.frame {M' : mM} (h : TR n W M o) (hf : ∀ j, j < 11 → j ≠ 7 → j ≠ 8 → ∀ k, (j = 0 → k < 8) → M' (o + j) k = M (o + j) k) (hl : M' (o + 9) = M (o + 9)) : TR n W M' o := by
  obtain ⟨a0, a1, a2, a3, a4, a5, a6, a7, a8, a9, a10⟩ := h
  have e0 : ∀ k, k < 8 → M' o k = M o k := fun k hk => hf 0 (by decide) (by decide) (by decide) k (fun _ => hk)
  have ej : ∀ j, 0 < j → j < 11 → j ≠ 7 → j ≠ 8 → M' (o + j) = M (o + j) := fun j h1 h2 h3 h4 => funext fun k => hf j h2 h3 h4 k (by omega)
  refine ⟨by rw [e0 0 (by decide)]; exact a0, by rw [e0 1 (by decide)]; exact a1, by rw [e0 2 (by decide)]; exact a2, by rw [e0 3 (by decide)]; exact a3, by rw [e0 4 (by decide)]; exact a4, by rw [e0 5 (by decide)]; exact a5, by rw [e0 6 (by decide)]; exact a6, by rw [e0 7 (by decide)]; exact a7, fun p hp => ?_, fun p hp h8 => ?_, ?_⟩
  · rw [ej 1 (by decide) (by decide) (by decide) (by decide), ej 2 (by decide) (by decide) (by decide) (by decide), ej 3 (by decide) (by decide) (by decide) (by decide), ej 4 (by decide) (by decide) (by decide) (by decide), ej 5 (by decide) (by decide) (by decide) (by decide), ej 6 (by decide) (by decide) (by decide) (by decide)]
    exact a8 p hp
  · rw [ej 3 (by decide) (by decide) (by decide) (by decide), ej 4 (by decide) (by decide) (by decide) (by decide), ej 6 (by decide) (by decide) (by decide) (by decide)]
    exact a9 p hp h8
  · obtain ⟨x, c, h1, h2, h3, h4, h5, h6⟩ := a10
    have e10 : M' (o + 9 + 1) = M (o + 9 + 1) := ej 10 (by decide) (by decide) (by decide) (by decide)
    exact ⟨x, c, h1, h2, by rw [hl]; exact h3, by rw [hl]; exact h4, h5, by rw [e10]; exact h6⟩
end
