/-! the law, from its entry to its loop -/
theorem iL_0 : decode code 0 = .ok (.new 8, 3) := by decide +kernel
theorem iL_3 : decode code 3 = .ok (.dup, 1) := by decide +kernel
theorem iL_4 : decode code 4 = .ok (.invokespecial 129, 3) := by decide +kernel
theorem iL_7 : decode code 7 = .ok (.astore_n 1, 1) := by decide +kernel
theorem iL_8 : decode code 8 = .ok (.new 130, 3) := by decide +kernel
theorem iL_11 : decode code 11 = .ok (.dup, 1) := by decide +kernel
theorem iL_12 : decode code 12 = .ok (.invokespecial 132, 3) := by decide +kernel
theorem iL_15 : decode code 15 = .ok (.astore_n 2, 1) := by decide +kernel
theorem iL_16 : decode code 16 = .ok (.iconst 1, 1) := by decide +kernel
theorem iL_17 : decode code 17 = .ok (.newarray .long, 2) := by decide +kernel
theorem iL_19 : decode code 19 = .ok (.astore_n 3, 1) := by decide +kernel
theorem iL_20 : decode code 20 = .ok (.iconst 0, 1) := by decide +kernel
theorem iL_21 : decode code 21 = .ok (.istore 4, 2) := by decide +kernel
theorem w_code : (mT 372).2.1 = code := rfl
theorem w_cls : (mT 372).1.cls = RL := rfl
theorem w_kl : mKl 372 = 7 := rfl
theorem w_pc : mPc (mKc 372) 13 = 23 := by decide +kernel
theorem w_kn {s : State} {args : Array Value} (hts : ∀ w ∈ mGw, w.before args s = true) : ∃ (dC : Nat → ClassId) (dI : Nat → Nat → Nat), ∀ (k : Nat) (q : vw_C), vwCl[k]? = some q → u_Kn s q.1 q.2.1 q.2.2 (dC k) (dI k) := by
  have key : ∀ (a : Nat) (q : vw_C) (n : Nat), vwCl[a]? = some q → Cond.instantiable q.1 n ∈ mGw → ∃ z : ClassId × (Nat → Nat), ∀ q' : vw_C, vwCl[a]? = some q' → u_Kn s q'.1 q'.2.1 q'.2.2 z.1 z.2 := by
    intro a q n h hi
    obtain ⟨cC, iS, hk⟩ := u_known hts ((mCl_ok a q h).1) (hts _ hi)
    exact ⟨(cC, iS), fun q' h' => by rw [h] at h'; cases h'; exact hk⟩
  have h0 : ∀ a : Nat, ∃ z : ClassId × (Nat → Nat), ∀ q' : vw_C, vwCl[a]? = some q' → u_Kn s q'.1 q'.2.1 q'.2.2 z.1 z.2 := by
    intro a
    match a with
    | 0 => exact key 0 (RX0, TX0, 8) 8 rfl (mGw_of (i := 303) (by decide +kernel) (by decide +kernel))
    | 1 => exact key 1 (RX2, TX2, 3) 3 rfl (mGw_of (i := 187) (by decide +kernel) (by decide +kernel))
    | 2 => exact key 2 (RX3, TX3, 3) 3 rfl (mGw_of (i := 336) (by decide +kernel) (by decide +kernel))
    | 3 => exact key 3 (RX4, TX4, 4) 4 rfl (mGw_of (i := 395) (by decide +kernel) (by decide +kernel))
    | 4 => exact key 4 (RX5, TX5, 3) 3 rfl (mGw_of (i := 379) (by decide +kernel) (by decide +kernel))
    | 5 => exact key 5 (RX6, TX6, 5) 5 rfl (mGw_of (i := 356) (by decide +kernel) (by decide +kernel))
    | 6 => exact key 6 (RX7, TX7, 4) 4 rfl (mGw_of (i := 155) (by decide +kernel) (by decide +kernel))
    | 7 => exact key 7 (RX9, TX9, 20) 20 rfl (mGw_of (i := 181) (by decide +kernel) (by decide +kernel))
    | 8 => exact key 8 (RX11, TX11, 12) 12 rfl (mGw_of (i := 147) (by decide +kernel) (by decide +kernel))
    | 9 => exact key 9 (RX12, TX12, 27) 27 rfl (mGw_of (i := 1504) (by decide +kernel) (by decide +kernel))
    | k + 10 =>
      obtain ⟨z, -⟩ := key 0 (RX0, TX0, 8) 8 rfl (mGw_of (i := 303) (by decide +kernel) (by decide +kernel))
      refine ⟨z, fun q' h' => ?_⟩
      rw [List.getElem?_eq_none (by show 10 ≤ k + 10; omega)] at h'
      cases h'
  obtain ⟨f, hf⟩ := Classical.axiomOfChoice h0
  exact ⟨fun a => (f a).1, fun a => (f a).2, fun k q hq => hf k q hq⟩
theorem w_arr {s : State} {args : Array Value} {ty : FieldType} (h : (Cond.arrayClass ty).before args s = true) : ∃ c : ClassId, ArrOfT s c ty ∧ s.vm.findClass ("[" ++ ty.toString) = some c := by
  obtain ⟨c, k, comp, h1, h2, h3⟩ := Cond.arrayClass_spec (args := args) (first := s) (o := none) (s := s) (idx := []) h
  exact ⟨c, fun n z => ⟨fun k h => (by cases h), k, h2, comp, h3⟩, h1⟩
theorem w_tys {s : State} {args : Array Value} (hts : ∀ w ∈ lw_tbl, w.before args s = true) : ∃ gc : Nat → ClassId, ∀ (k : Nat) (q : ClassId × FieldType), ([(gc 10, .int), (gc 11, .byte), (gc 12, .boolean), (gc 13, .long), (gc 14, .object "WakeTower$Tower")] : List (ClassId × FieldType))[k]? = some q → ArrOfT s q.1 q.2 ∧ va_RA s q.1 q.2 := by
  obtain ⟨c0, a0, b0⟩ := w_arr (ty := .int) (hts _ (List.mem_of_getElem? (i := 179) (by decide +kernel)))
  obtain ⟨c1, a1, b1⟩ := w_arr (ty := .byte) (hts _ (List.mem_of_getElem? (i := 976) (by decide +kernel)))
  obtain ⟨c2, a2, b2⟩ := w_arr (ty := .boolean) (hts _ (List.mem_of_getElem? (i := 413) (by decide +kernel)))
  obtain ⟨c3, a3, b3⟩ := w_arr (ty := .long) (hts _ (List.mem_of_getElem? (i := 2238) (by decide +kernel)))
  obtain ⟨comp, c4, k4, f1, f2, f3, f4, f5⟩ := Cond.arrayOver_spec (n := "WakeTower$Tower") (args := args) (first := s) (o := none) (s := s) (idx := []) (hts _ (List.mem_of_getElem? (i := 342) (by decide +kernel)))
  refine ⟨fun k => [c0, c1, c2, c3, c4].getD (k - 10) c0, fun k q hq => ?_⟩
  match k, hq with
  | 0, hq => cases hq; exact ⟨a0, b0⟩
  | 1, hq => cases hq; exact ⟨a1, b1⟩
  | 2, hq => cases hq; exact ⟨a2, b2⟩
  | 3, hq => cases hq; exact ⟨a3, b3⟩
  | 4, hq => cases hq; exact ⟨fun n z => ⟨fun k h => (by cases h), k4, f3, comp, f4⟩, k4, comp, f3, f4, f1, f5⟩
  | k + 5, hq => simp at hq
theorem wt_c {G G' : mG} (h : gC G = gC G') : wtX11 G = wtX11 G' ∧ wtX12 G = wtX12 G' := by
  constructor
  · funext q u
    unfold wtX11 wtX3 wtX7 wtX9 wtX0 wtX6 wtX5 wtX4
    rw [h]
  · funext a
    unfold wtX12
    rw [h]
set_option maxHeartbeats 8000000 in
set_option maxRecDepth 100000 in
theorem w_entry {p : Program} {l : Launch} {e : Env} {s : State} {m : MethodId} {below : List Frame} {meth : Method} {c : Code} {Q : State → Prop} (G : mG) {b : Nat} (hx : p.tables.exec = Jvm.exec) (hb : c.code = code) (hml : c.maxLocals = 7) (hown : s.vm.findClass RL = some m.cls) (hg : ∀ w ∈ mGw, w.before #[Value.ref b] s = true) (hN : cN s) (hK : va_K (gD G) vwCl (mTys G) s)
    (kk : ∀ (q0 : Nat) (u0 : (Nat → Nat → Nat) × Nat × (Nat → Nat → Nat)) (q8 : Nat) (u8 : Nat → Nat) (q17 : Nat) (H : Heap) (locs : List Loc) (ls : Array Slot), lv_has ls 7 [(4, .int 0), (3, .ref q17), (2, .ref q8), (1, .ref q0), (0, .ref b)] → va_P (gD G) vwCl ((wtX11 G q0 u0 ++ wtX12 G (cns q8 u8)) ++ [(q17, (.inl (gC G 13, 1, .inr (.inl (fun _ => 0))) : va_E))]) H → va_D (fun q => s.heap.size ≤ q) ((wtX11 G q0 u0 ++ wtX12 G (cns q8 u8)) ++ [(q17, (.inl (gC G 13, 1, .inr (.inl (fun _ => 0))) : va_E))]) → va_S (fun q => s.heap.size ≤ q) s.heap H locs →
      W p l e room_1 s m #[Value.ref b] below meth c H locs 232 31923 Q (F0 m 23 ls [])) :
    W p l e room_1 s m #[Value.ref b] below meth c s.heap [] 0 0 Q (entryFrame m ([Value.ref b] : List Value).toArray 7) := by
  have hA : ∀ q : Nat, s.heap.size ≤ q → (fun q => s.heap.size ≤ q) q := fun _ h => h
  have hS : va_S (fun q => s.heap.size ≤ q) s.heap s.heap [] := va_S.rf
  have hP : va_P (gD G) vwCl [] s.heap := fun k q h => by simp at h
  have hD : va_D (fun q => s.heap.size ≤ q) [] := ⟨fun i j p q h => by simp at h, fun k q h => by simp at h⟩
  have hl := lv_entry ([.ref b]) (n := 7) (Nat.le_of_ble_eq_true rfl)
  rw [lg_entry_eq]
  generalize (lg_sl ([.ref b]) ++ List.replicate (7 - (lg_sl ([.ref b])).length) Slot.unset).toArray = ls at hl ⊢
  have hl : lv_has ls 7 [(0, .ref b)] := hl
  refine m_make (own := RL) (C := RX11) (T := TX11) (N := 12) (ci := 8) (ix := 8) (iy := 129) (nL := 7) (ty := tyX11) (fs := [.null, .null, .null, .null, .null, .null, .null, .null, .null, .null, .null, .int 0]) (w1 := fun q u => wtX11 G q u) (B := atX11 G) hx hb hown hg ((mCl_ok 8 (RX11, TX11, 12) rfl).1) tyX11_ok (hg _ (mGw_of (i := 146) (by decide +kernel) (by decide +kernel))) (hg _ (mGw_of (i := 147) (by decide +kernel) (by decide +kernel))) (hg _ (mGw_of (i := 118) (by decide +kernel) (by decide +kernel))) rfl dfX11 (fun q sz => ctX11 l G q sz) (fun A q u t h => ⟨h.1, h.2.2⟩) (fun q H1 h1 h2 => m_preC hN hK h1 h2) (m_iniI (maxL := 1) ⟨hx, hb, hml, hown, hg⟩ (mGood winX11) rfl rfl rfl (hg _ (mGw_of (i := 148) (by decide +kernel) (by decide +kernel))) (hg _ (mGw_of (i := 118) (by decide +kernel) (by decide +kernel))) (hg _ (mGw_of (i := 149) (by decide +kernel) (by decide +kernel))) rfl (by decide +kernel) ⟨Nat.le_of_ble_eq_true rfl, Nat.le_of_ble_eq_true rfl⟩) hK hP hD hS hA hl.1 (Nat.le_of_ble_eq_true rfl) (Nat.le_of_ble_eq_true rfl) (Nat.le_of_ble_eq_true rfl) iL_0 iL_3 iL_4 (fun q0 u0 H locs hP hD hS => ?_)
  have hP : va_P (gD G) vwCl (wtX11 G q0 u0) H := hP
  have hD : va_D (fun q => s.heap.size ≤ q) (wtX11 G q0 u0) := hD
  refine W.cs (cells' := 215) (slots' := 15505) (by omega) (by omega) ?_
  refine lv_astore_n (lv' := [(1, .ref q0), (0, .ref b)]) hx hb iL_7 rfl hl (by decide) rfl (fun ls hl => ?_)
  refine m_make (own := RL) (C := RX12) (T := TX12) (N := 27) (ci := 9) (ix := 130) (iy := 132) (nL := 7) (ty := tyX12) (fs := [.int 0, .null, .null, .null, .null, .null, .int 0, .int 0, .null, .null, .int 0, .int 0, .null, .int 0, .int 0, .int 0, .int 0, .int 0, .int 0, .null, .int 0, .null, .null, .null, .null, .null, .null]) (w1 := fun q u => wtX12 G (cns q u)) (B := atX12 G) hx hb hown hg ((mCl_ok 9 (RX12, TX12, 27) rfl).1) tyX12_ok (hg _ (mGw_of (i := 1503) (by decide +kernel) (by decide +kernel))) (hg _ (mGw_of (i := 1504) (by decide +kernel) (by decide +kernel))) (hg _ (mGw_of (i := 127) (by decide +kernel) (by decide +kernel))) rfl dfX12 (fun q sz => ctX12 l G q sz) (fun A q u t h => ⟨h.1, h.2.2⟩) (fun q H1 h1 h2 => m_preL hK h1 h2) (m_iniI (maxL := 1) ⟨hx, hb, hml, hown, hg⟩ (mGood winX12) rfl rfl rfl (hg _ (mGw_of (i := 1505) (by decide +kernel) (by decide +kernel))) (hg _ (mGw_of (i := 127) (by decide +kernel) (by decide +kernel))) (hg _ (mGw_of (i := 1506) (by decide +kernel) (by decide +kernel))) rfl (by decide +kernel) ⟨Nat.le_of_ble_eq_true rfl, Nat.le_of_ble_eq_true rfl⟩) hK hP hD hS hA hl.1 (Nat.le_of_ble_eq_true rfl) (Nat.le_of_ble_eq_true rfl) (Nat.le_of_ble_eq_true rfl) iL_8 iL_11 iL_12 (fun q8 u8 H locs hP hD hS => ?_)
  have hP : va_P (gD G) vwCl (wtX11 G q0 u0 ++ wtX12 G (cns q8 u8)) H := hP
  have hD : va_D (fun q => s.heap.size ≤ q) (wtX11 G q0 u0 ++ wtX12 G (cns q8 u8)) := hD
  refine W.cs (cells' := 231) (slots' := 31922) (by omega) (by omega) ?_
  refine lv_astore_n (lv' := [(2, .ref q8), (1, .ref q0), (0, .ref b)]) hx hb iL_15 rfl hl (by decide) rfl (fun ls hl => ?_)
  refine lv_iconst hx hb (v := 1) iL_16 rfl ?_
  refine va_nw hx hb (atype := .long) (ty := .long) (hg _ (mGw_of (i := 2238) (by decide +kernel) (by decide +kernel))) rfl hK hP hD hS hA (t0 := 3) (cI := gC G 13) rfl (fun _ _ h => ra_long h) (N' := 1) (a0 := (1, .inr (.inl (fun _ => 0)))) (fun _ => rfl) (by decide) (by decide) (by decide) (Nat.le_of_ble_eq_true rfl) (Nat.le_of_ble_eq_true rfl) iL_17 (fun q17 H hP hD hS => ?_)
  refine W.cs (cells' := 232) (slots' := 31923) (by omega) (by omega) ?_
  refine lv_astore_n (lv' := [(3, .ref q17), (2, .ref q8), (1, .ref q0), (0, .ref b)]) hx hb iL_19 rfl hl (by decide) rfl (fun ls hl => ?_)
  refine lv_iconst hx hb (v := 0) iL_20 rfl ?_
  refine lv_istore (lv' := [(4, .int 0), (3, .ref q17), (2, .ref q8), (1, .ref q0), (0, .ref b)]) hx hb iL_21 hl (by decide) rfl (fun ls hl => ?_)
  exact kk q0 u0 q8 u8 q17 H _ ls hl hP hD hS
