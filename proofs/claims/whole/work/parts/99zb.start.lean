/-! the world of the texts at the law's entry -/
def nkF : List Cond := flatC (Jvm.Cond.and given_1 narrow_1)
def nkR : List (String × Nat × Nat) := [("WakeTower$TowerText", 54, 81), ("WakeTower$TowerText", 90, 91), ("WakeTower$TowerText", 95, 101), ("WakeTower$TowerText", 66, 109), ("WakeTower$TowerText", 107, 115), ("WakeTower$TowerText", 109, 123), ("WakeTower$TowerText", 70, 129), ("WakeTower$TowerText", 74, 139), ("WakeTower$TowerText", 82, 147), ("WakeTower$TowerText", 86, 155), ("WakeTower", 98, 162), ("WakeTower", 108, 183), ("WakeTower$LawText", 41, 205), ("WakeTower$LawText", 47, 213), ("WakeTower$LawText", 49, 221), ("WakeTower$LawText", 55, 231), ("WakeTower$LawText", 79, 237), ("WakeTower$LawText", 86, 255), ("WakeTower$LawText", 88, 263), ("WakeTower$LawText", 100, 290), ("WakeTower$LawText", 102, 299), ("WakeTower$LawText", 106, 322), ("WakeTower$LawText", 77, 340), ("WakeTower$LawText", 68, 347), ("WakeTower", 374, 353), ("WakeTower", 180, 380), ("WakeTower", 379, 414), ("WakeTower", 377, 446), ("WakeTower", 383, 471)]
def nkQ : List Nat := [9999, 9999, 9999, 9999, 9999, 9999, 9999, 9999, 9999, 9999, 9999, 9999, 9999, 9999, 9999, 9999, 9999, 254, 9999, 9999, 280, 289, 9999, 9999, 321, 9999, 339, 9999, 9999, 9999, 9999, 9999, 9999, 9999, 497, 509, 519, 526, 535, 543, 554, 564, 573, 582, 591, 600, 611, 618, 626, 635, 643, 653, 666, 676, 684, 691]
def nkT (i : Nat) : Term := .string (nkR.getD i ("", 0, 0)).1 (nkR.getD i ("", 0, 0)).2.1
def nkV (i : Nat) : Term := .field (nkT i) "java/lang/String" "value" "[B"
def nkE (i : Nat) : List Cond := [.exactly (nkT i) "java/lang/String", .eq (.field (nkT i) "java/lang/String" "coder" "B") (.int 0), .arrayOf (nkV i) .byte, .eq (.length (nkV i)) (.int (Int32.ofNat (mTl.getD i 0)))] ++ (List.range (mTl.getD i 0)).map (fun j => .eq (.elem (nkV i) (.int (Int32.ofNat j))) (.int ((mTb.getD i []).getD j 0)))
theorem nk_all : (List.range 29).all (fun i => decide ((nkF.drop (nkR.getD i ("", 0, 0)).2.2).take (4 + mTl.getD i 0) = nkE i)) = true := by decide +kernel
theorem nk_dis : (List.range 29).all (fun i => (List.range 29).all (fun j => decide (i = j) || !(decide (mTl.getD i 0 = mTl.getD j 0)) || (List.range (mTl.getD i 0)).any (fun k => !(decide ((mTb.getD i []).getD k 0 = (mTb.getD j []).getD k 0))))) = true := by decide +kernel
def nkJ (q : String × Nat × String × Nat) (k : Nat) : Bool := Nat.blt q.2.2.2 29 && decide (Cond.stringRef q.1 q.2.1 q.2.2.1 ∈ lw_tbl) && (decide (q.1 = (nkR.getD q.2.2.2 ("", 0, 0)).1 ∧ q.2.1 = (nkR.getD q.2.2.2 ("", 0, 0)).2.1) || decide (nkF[k]? = some (Cond.eq (nkT q.2.2.2) (.string q.1 q.2.1))))
theorem nk_q : mStr.zipIdx.all (fun z => nkJ z.1 (nkQ.getD z.2 0)) = true := by decide +kernel
theorem nk_nc : (List.range 5).all (fun E => (List.range 5).all (fun F => decide (E = F) || decide (Cond.not (.castable (mEx E) (mEx F)) ∈ nkF))) = true := by decide +kernel
theorem nk_in {i : Nat} (hi : i < 29) : ∀ w ∈ nkE i, w ∈ nkF := by
  have h : (nkF.drop (nkR.getD i ("", 0, 0)).2.2).take (4 + mTl.getD i 0) = nkE i := of_decide_eq_true (List.all_eq_true.mp nk_all i (List.mem_range.mpr hi))
  intro w hw
  rw [← h] at hw
  exact List.mem_of_mem_drop (List.mem_of_mem_take hw)
theorem nk_eqR {args : Array Value} {s : State} {t u : Term} {a : Nat} (h : (Cond.eq t u).before args s = true) (ht : t.eval args s none [] s = some (.ref a)) : u.eval args s none [] s = some (.ref a) := by
  cases hv : u.eval args s none [] s with
  | none => simp [Cond.before, Cond.holds, Cond.value, ht, hv] at h
  | some w =>
    simp only [Cond.before, Cond.holds, Cond.value, ht, hv] at h
    cases w <;> simp_all
section
variable {args : Array Value} {s : State} {A : Nat → Prop}
theorem nk_b (h : (Jvm.Cond.and given_1 narrow_1).before args s = true) {w : Cond} (hw : w ∈ nkF) : w.before args s = true := flat_of_before _ h w hw
theorem st_one (h : (Jvm.Cond.and given_1 narrow_1).before args s = true) (hA : ∀ a : Nat, a < s.heap.size → ¬ A a) {i : Nat} (hi : i < 29) : ∃ q : Nat × Nat, (nkT i).eval args s none [] s = some (.ref q.1) ∧ va_O "java/lang/String" q.1 A s s.heap ∧ va_OF "java/lang/String" "coder" "B" (.int 0) q.1 A s s.heap ∧ va_OF "java/lang/String" "value" "[B" (.ref q.2) q.1 A s s.heap ∧ va_T .byte q.2 (mTl.getD i 0) (fun j => .int ((mTb.getD i []).getD j 0)) A s s.heap := by
  have hin := nk_in hi
  have hm := mTx_ok i hi
  have hl : mTl.getD i 0 < 2 ^ 31 := by rw [hm.1]; omega
  have g : ∀ w ∈ nkE i, w.before args s = true := fun w hw => nk_b h (hin w hw)
  have z0 : ∀ k : Nat, k < 1 → k = 0 := fun k hk => by omega
  obtain ⟨adK, adV, hS, ht⟩ := vk_Sof (args := args) (s := s) (N := 1) (tm := fun _ => nkT i) (len := [mTl.getD i 0]) (byt := [mTb.getD i []]) (A := A)
    (fun k hk => by rw [z0 k hk]; exact hl)
    (fun k hk => g _ (List.mem_append_left _ (List.mem_of_getElem? (i := 0) rfl)))
    (fun k hk => g _ (List.mem_append_left _ (List.mem_of_getElem? (i := 1) rfl)))
    (fun k hk => g _ (List.mem_append_left _ (List.mem_of_getElem? (i := 2) rfl)))
    (fun k hk => by rw [z0 k hk]; exact g _ (List.mem_append_left _ (List.mem_of_getElem? (i := 3) rfl)))
    (fun k hk j hj => by
      rw [z0 k hk] at hj ⊢
      exact g _ (List.mem_append_right _ (List.mem_map.mpr ⟨j, List.mem_range.mpr hj, rfl⟩)))
    (fun a b ha hb hab => absurd ((z0 a ha).trans (z0 b hb).symm) hab) hA
  exact ⟨(adK 0, adV 0), ht 0 Nat.one_pos, hS.1 0 Nat.one_pos⟩
theorem st_all (h : (Jvm.Cond.and given_1 narrow_1).before args s = true) (hA : ∀ a : Nat, a < s.heap.size → ¬ A a) : ∃ adK adV : Nat → Nat, vk_S 29 mTl mTb adK adV A s s.heap ∧ ∀ i : Nat, i < 29 → (nkT i).eval args s none [] s = some (.ref (adK i)) := by
  have h0 : ∀ i : Nat, ∃ q : Nat × Nat, i < 29 → (nkT i).eval args s none [] s = some (.ref q.1) ∧ va_O "java/lang/String" q.1 A s s.heap ∧ va_OF "java/lang/String" "coder" "B" (.int 0) q.1 A s s.heap ∧ va_OF "java/lang/String" "value" "[B" (.ref q.2) q.1 A s s.heap ∧ va_T .byte q.2 (mTl.getD i 0) (fun j => .int ((mTb.getD i []).getD j 0)) A s s.heap := by
    intro i
    by_cases hi : i < 29
    · obtain ⟨q, hq⟩ := st_one h hA hi
      exact ⟨q, fun _ => hq⟩
    · exact ⟨(0, 0), fun z => absurd z hi⟩
  obtain ⟨ad, had⟩ := Classical.axiomOfChoice h0
  refine ⟨fun i => (ad i).1, fun i => (ad i).2, ⟨fun i hi => (had i hi).2, fun i j hi hj e => ?_⟩, fun i hi => (had i hi).1⟩
  obtain ⟨-, -, -, f1, t1⟩ := had i hi
  obtain ⟨-, -, -, f2, t2⟩ := had j hj
  obtain ⟨cf, k, x, f, cell, a1, a2, a3, a4, a5, a6⟩ := f1
  obtain ⟨cf', k', x', f', cell', b1, b2, b3, b4, b5, b6⟩ := f2
  cases Option.some.inj (a1.symm.trans b1)
  have e : (ad i).1 = (ad j).1 := e
  rw [e] at a3
  cases Option.some.inj (a3.symm.trans b3)
  have ev : (ad i).2 = (ad j).2 := Value.ref.inj (Option.some.inj (a5.symm.trans b5))
  obtain ⟨c1, d1, d2, d3, d4, d5, d6, d7⟩ := t1
  obtain ⟨c2, g1, g2, g3, g4, g5, g6, g7⟩ := t2
  rw [ev] at d1
  cases Option.some.inj (d1.symm.trans g1)
  have hm := mTx_ok i hi
  have hn := mTx_ok j hj
  have hl1 : mTl.getD i 0 < 2 ^ 31 := by rw [hm.1]; omega
  have hl2 : mTl.getD j 0 < 2 ^ 31 := by rw [hn.1]; omega
  have en : mTl.getD i 0 = mTl.getD j 0 := (nI_eq hl1 hl2).mp (d5.symm.trans g5)
  have hb : ∀ k, k < mTl.getD i 0 → (mTb.getD i []).getD k 0 = (mTb.getD j []).getD k 0 := fun k hk => Value.int.inj (Option.some.inj ((d6 k hk).symm.trans (g6 k (by rw [← en]; exact hk))))
  by_cases hij : i = j
  · exact hij
  · exfalso
    have hd : (decide (i = j) || !(decide (mTl.getD i 0 = mTl.getD j 0)) || (List.range (mTl.getD i 0)).any (fun k => !(decide ((mTb.getD i []).getD k 0 = (mTb.getD j []).getD k 0)))) = true := List.all_eq_true.mp (List.all_eq_true.mp nk_dis i (List.mem_range.mpr hi)) j (List.mem_range.mpr hj)
    rw [decide_eq_false hij, decide_eq_true en] at hd
    have hd : (List.range (mTl.getD i 0)).any (fun k => !(decide ((mTb.getD i []).getD k 0 = (mTb.getD j []).getD k 0))) = true := hd
    obtain ⟨k, hk, hk2⟩ := List.any_eq_true.mp hd
    have hk2 : (!(decide ((mTb.getD i []).getD k 0 = (mTb.getD j []).getD k 0))) = true := hk2
    rw [decide_eq_true (hb k (List.mem_range.mp hk))] at hk2
    exact absurd hk2 (by decide)
theorem st_txt (h : (Jvm.Cond.and given_1 narrow_1).before args s = true) (hts : ∀ w ∈ lw_tbl, w.before args s = true) {adK : Nat → Nat} (hk : ∀ i : Nat, i < 29 → (nkT i).eval args s none [] s = some (.ref (adK i))) : ∀ (j : Nat) (q : String × Nat × String × Nat), mStr[j]? = some q → vk_R q.1 q.2.1 q.2.2.1 (adK q.2.2.2) s := by
  intro j q hq
  have h1 : nkJ q (nkQ.getD j 0) = true := List.all_eq_true.mp nk_q (q, j) (by rw [List.mem_zipIdx_iff_getElem?]; exact hq)
  unfold nkJ at h1
  simp only [Bool.and_eq_true, Bool.or_eq_true, decide_eq_true_eq] at h1
  obtain ⟨⟨ha, hb⟩, hc⟩ := h1
  have ha := Nat.blt_eq.mp ha
  refine vk_R.of (A := args) (hts _ hb) ?_
  rcases hc with ⟨e1, e2⟩ | hc
  · have := hk _ ha
    unfold nkT at this
    rw [← e1, ← e2] at this
    exact this
  · exact nk_eqR (nk_b h (List.mem_of_getElem? hc)) (hk _ ha)
theorem cN_0 (hts : ∀ w ∈ lw_tbl, w.before args s = true) : cN s := ⟨fun w hw => va_Nw.of (by
  have h9 := (List.mem_filter.mp hw).2
  cases w <;> first | rfl | cases h9) (hts w (List.mem_filter.mp hw).1), va_AO.of (hts _ (List.mem_of_getElem? (i := 342) (by decide +kernel)))⟩
theorem xt_0 {G : mG} (h : (Jvm.Cond.and given_1 narrow_1).before args s = true) (hts : ∀ w ∈ lw_tbl, w.before args s = true) (hz : gZ G = s.heap.size) {adK adV : Nat → Nat} (hS : vk_S 29 mTl mTb adK adV (mA G) s s.heap) (hk : ∀ i : Nat, i < 29 → (nkT i).eval args s none [] s = some (.ref (adK i))) (ha : ∀ j : Nat, gA G (400 + j) = adK j) (hv : gV G = adV) : mXt G s s.heap := by
  have hA : ∀ a : Nat, a < s.heap.size → ¬ mA G a := fun a h1 h2 => by
    have h2 : gZ G ≤ a := h2
    omega
  have e : (fun j => gA G (400 + j)) = adK := funext ha
  refine ⟨by rw [e, hv]; exact hS, fun j q hq => by rw [ha]; exact st_txt h hts hk j q hq, ?_, ?_, ?_, ?_, (cN_0 hts).1, ?_⟩
  · exact vx_Zqof (hts _ (List.mem_of_getElem? (i := 934) (by decide +kernel))) (hts _ (List.mem_of_getElem? (i := 135) (by decide +kernel))) (nk_b h (List.mem_of_getElem? (i := 9) (by decide +kernel))) hA
  · exact vx_Zqof (hts _ (List.mem_of_getElem? (i := 936) (by decide +kernel))) (hts _ (List.mem_of_getElem? (i := 135) (by decide +kernel))) (nk_b h (List.mem_of_getElem? (i := 10) (by decide +kernel))) hA
  · exact va_Zof (hts _ (List.mem_of_getElem? (i := 797) (by decide +kernel))) (hts _ (List.mem_of_getElem? (i := 130) (by decide +kernel))) (va_eqt (nk_b h (List.mem_of_getElem? (i := 4) (by decide +kernel)))) hA
  · have z : va_Zq "jdk/internal/util/Preconditions" "SIOOBE_FORMATTER" "Ljava/util/function/BiFunction;" (mA G) s s.heap := va_Zqof (hts _ (List.mem_of_getElem? (i := 817) (by decide +kernel))) (hts _ (List.mem_of_getElem? (i := 132) (by decide +kernel))) (nk_b h (List.mem_of_getElem? (i := 5) (by decide +kernel))) hA
    rcases z with z | ⟨t, z⟩
    · exact ⟨none, z⟩
    · exact ⟨some t, z⟩
  · intro E F hE hF hne
    have h1 : (decide (E = F) || decide (Cond.not (.castable (mEx E) (mEx F)) ∈ nkF)) = true := List.all_eq_true.mp (List.all_eq_true.mp nk_nc E (List.mem_range.mpr hE)) F (List.mem_range.mpr hF)
    rw [decide_eq_false hne] at h1
    exact va_Nc.of (nk_b h (of_decide_eq_true h1))
end
