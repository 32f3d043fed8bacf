/-! the constructor of the acts kept: a row of twelve towers -/
theorem iX3_0 : decode cX3_init 0 = .ok (.aload_n 0, 1) := by decide +kernel
theorem iX3_1 : decode cX3_init 1 = .ok (.invokespecial 1, 3) := by decide +kernel
theorem iX3_4 : decode cX3_init 4 = .ok (.aload_n 0, 1) := by decide +kernel
theorem iX3_5 : decode cX3_init 5 = .ok (.bipush 12, 2) := by decide +kernel
theorem iX3_7 : decode cX3_init 7 = .ok (.anewarray 9, 3) := by decide +kernel
theorem iX3_10 : decode cX3_init 10 = .ok (.putfield 11, 3) := by decide +kernel
theorem iX3_13 : decode cX3_init 13 = .ok (.aload_n 0, 1) := by decide +kernel
theorem iX3_14 : decode cX3_init 14 = .ok (.iconst 0, 1) := by decide +kernel
theorem iX3_15 : decode cX3_init 15 = .ok (.putfield 15, 3) := by decide +kernel
theorem iX3_18 : decode cX3_init 18 = .ok (.aload_n 0, 1) := by decide +kernel
theorem iX3_19 : decode cX3_init 19 = .ok (.iconst 0, 1) := by decide +kernel
theorem iX3_20 : decode cX3_init 20 = .ok (.putfield 19, 3) := by decide +kernel
theorem iX3_23 : decode cX3_init 23 = .ok (.iconst 0, 1) := by decide +kernel
theorem iX3_24 : decode cX3_init 24 = .ok (.istore_n 1, 1) := by decide +kernel
theorem iX3_25 : decode cX3_init 25 = .ok (.iload_n 1, 1) := by decide +kernel
theorem iX3_26 : decode cX3_init 26 = .ok (.bipush 12, 2) := by decide +kernel
theorem iX3_28 : decode cX3_init 28 = .ok (.if_icmp .ge 22, 3) := by decide +kernel
theorem iX3_31 : decode cX3_init 31 = .ok (.aload_n 0, 1) := by decide +kernel
theorem iX3_32 : decode cX3_init 32 = .ok (.getfield 11, 3) := by decide +kernel
theorem iX3_35 : decode cX3_init 35 = .ok (.iload_n 1, 1) := by decide +kernel
theorem iX3_36 : decode cX3_init 36 = .ok (.new 9, 3) := by decide +kernel
theorem iX3_39 : decode cX3_init 39 = .ok (.dup, 1) := by decide +kernel
theorem iX3_40 : decode cX3_init 40 = .ok (.invokespecial 22, 3) := by decide +kernel
theorem iX3_43 : decode cX3_init 43 = .ok (.aastore, 1) := by decide +kernel
theorem iX3_44 : decode cX3_init 44 = .ok (.iinc 1 1, 3) := by decide +kernel
theorem iX3_47 : decode cX3_init 47 = .ok (.goto (-22), 3) := by decide +kernel
theorem iX3_50 : decode cX3_init 50 = .ok (.return_, 1) := by decide +kernel
def wiX3 : List Cond := .code yX3_init cX3_init 2 none :: mGw
theorem winX3 : ∀ w ∈ wiX3, w ∈ mGw := fun w hw => by
  rcases List.mem_cons.mp hw with h | h
  · rw [h]; exact mGw_of (i := 339) (by decide +kernel) (by decide +kernel)
  · exact h
theorem dfX3 : ∀ j, j < 3 → defaultValue (tyX3 j) = vp_V [.null, .int 0, .int 0] j := fun j hj => by
  rcases (show j = 0 ∨ j = 1 ∨ j = 2 by omega) with rfl | rfl | rfl <;> rfl
def wtX3 (G : mG) (q : Nat) (u : Nat → Nat → Nat) : va_W := (q, .inr (2, [.ref (u 0 0), .int 0, .int 0])) :: (u 0 0, .inl (gC G 14, 12, .inr (.inr (.inr (.inr (fun j => some (u (j + 1) 0))))))) :: (List.range 12).flatMap (fun t => wtX9 G (u (t + 1)))
def atX3 (G : mG) (A : Nat → Prop) (h0 : Nat) (u : Nat → Nat → Nat) (t : State) : Prop := va_P (gD G) vwCl (wtX3 G h0 u) t.heap ∧ va_K (gD G) vwCl (mTys G) t ∧ va_D A (wtX3 G h0 u)
set_option maxHeartbeats 8000000 in
set_option maxRecDepth 100000 in
theorem lpX3 {p : Program} {l : Launch} {e : Env} {R : Room} {s : State} {m : MethodId} {args : Array Value} {below : List Frame} {meth : Method} {c : Code} {Q : State → Prop} {A : Nat → Prop} (G : mG) {h0 q7 : Nat}
    (hx : p.tables.exec = Jvm.exec) (hb : c.code = cX3_init) (hml : c.maxLocals = 2) (hown : s.vm.findClass RX3 = some m.cls) (hg : ∀ w ∈ mGw, w.before args s = true) (hK : va_K (gD G) vwCl (mTys G) s) (hN : cN s) (hA : ∀ q : Nat, s.heap.size ≤ q → A q)
    (hRc : R.cells = 145) (hRs : R.slots = 5472) (hRf : R.frames = 3) (hRl : R.locals = 52)
    (kk : ∀ (v : Nat → Nat → Nat) (f : Nat → Option Nat) (H : Heap) (locs : List Loc) (ls : Array Slot), (∀ j, j < 12 → f j = some (v j 0)) → va_P (gD G) vwCl ((h0, .inr (2, [.ref q7, .int 0, .int 0])) :: (q7, .inl (gC G 14, 12, .inr (.inr (.inr (.inr f))))) :: (List.range 12).flatMap (fun t => wtX9 G (v t))) H → va_D A ((h0, .inr (2, [.ref q7, .int 0, .int 0])) :: (q7, .inl (gC G 14, 12, .inr (.inr (.inr (.inr f))))) :: (List.range 12).flatMap (fun t => wtX9 G (v t))) → va_S A s.heap H locs →
      W p l e R s m args below meth c H locs 145 5472 Q (F0 m 50 ls [])) :
    ∀ (k i : Nat), i + k = 12 → ∀ (v : Nat → Nat → Nat) (f : Nat → Option Nat) (H : Heap) (locs : List Loc) (ls : Array Slot), (∀ j, j < i → f j = some (v j 0)) → lv_has ls 2 [(1, .int (nI i)), (0, .ref h0)] →
      va_P (gD G) vwCl ((h0, .inr (2, [.ref q7, .int 0, .int 0])) :: (q7, .inl (gC G 14, 12, .inr (.inr (.inr (.inr f))))) :: (List.range i).flatMap (fun t => wtX9 G (v t))) H → va_D A ((h0, .inr (2, [.ref q7, .int 0, .int 0])) :: (q7, .inl (gC G 14, 12, .inr (.inr (.inr (.inr f))))) :: (List.range i).flatMap (fun t => wtX9 G (v t))) → va_S A s.heap H locs →
      W p l e R s m args below meth c H locs (1 + 12 * i) (12 + 455 * i) Q (F0 m 25 ls []) := by
  intro k
  induction k with
  | zero =>
    intro i hi v f H locs ls hf hl hP hD hS
    have hi : i = 12 := hi
    subst hi
    refine lv_iload_n hx hb iX3_25 rfl (lv_at hl 0 rfl) ?_
    refine lv_bipush hx hb (v := 12) iX3_26 rfl ?_
    refine lv_icmp_ge (tgt := 50) hx hb iX3_28 (by decide) (fun _ => ?_) (fun h => absurd (show (12 : Int32) ≤ nI 12 by decide) h)
    exact kk v f H locs ls hf hP hD hS
  | succ k ih =>
    intro i hi v f H locs ls hf hl hP hD hS
    have hi12 : i < 12 := by omega
    refine lv_iload_n hx hb iX3_25 rfl (lv_at hl 0 rfl) ?_
    refine lv_bipush hx hb (v := 12) iX3_26 rfl ?_
    refine lv_icmp_ge (tgt := 50) hx hb iX3_28 (by decide) (fun h => absurd (show nI 12 ≤ nI i from h) (nI_ge (a := i) (b := 12) hi12 (by decide))) (fun _ => ?_)
    refine lv_aload_n hx hb iX3_31 rfl (lv_at hl 1 rfl) ?_
    refine va_get (D := gD G) (ci := 2) (v := .ref q7) (C := RX3) (T := TX3) (N := 3) hx hb hg ((mCl_ok 2 (RX3, TX3, 3) rfl).1) hown hK hP 0 rfl rfl 0 (by decide) (hg _ (mGw_of (i := 344) (by decide +kernel) (by decide +kernel))) (fun _ h9 => h9) rfl iX3_32 ?_
    refine lv_iload_n hx hb iX3_35 rfl (lv_at hl 0 rfl) ?_
    refine m_make (own := RX3) (C := RX9) (T := TX9) (N := 20) (ci := 7) (ix := 9) (iy := 22) (nL := 2) (ty := tyX9) (fs := [.int 0, .int 0, .int 0, .int 0, .int 0, .int 0, .int 0, .int 0, .null, .null, .null, .null, .null, .null, .int 0, .null, .null, .null, .null, .int 0]) (w1 := fun q u => wtX9 G (cns q u)) (B := atX9 G) hx hb hown hg ((mCl_ok 7 (RX9, TX9, 20) rfl).1) tyX9_ok (hg _ (mGw_of (i := 341) (by decide +kernel) (by decide +kernel))) (hg _ (mGw_of (i := 181) (by decide +kernel) (by decide +kernel))) (hg _ (mGw_of (i := 120) (by decide +kernel) (by decide +kernel))) rfl dfX9 (fun q sz => ctX9 l G q sz) (fun A q u t h => ⟨h.1, h.2.2⟩) (fun q H1 h1 h2 => m_preC hN hK h1 h2) (m_iniN (maxL := 1) ⟨hx, hb, hml, hown, hg⟩ (mGood winX9) rfl rfl rfl (hN.1 _ (List.mem_filter.mpr ⟨List.mem_of_getElem? (i := 343) (by decide +kernel), rfl⟩)) (hg _ (mGw_of (i := 120) (by decide +kernel) (by decide +kernel))) (hg _ (mGw_of (i := 183) (by decide +kernel) (by decide +kernel))) rfl (by decide +kernel) ⟨by rw [hRf]; decide, by rw [hRl]; decide⟩) hK hP hD hS hA hl.1 (Nat.le_of_ble_eq_true rfl) (by rw [hRc]; omega) (by rw [hRs]; omega) iX3_36 iX3_39 iX3_40 (fun q u H locs hP hD hS => ?_)
    have hin : vp_in (nI i) 12 := vp_in_nI hi12 (by decide)
    have hcl : (nI i).toNatClampNeg = i := nI_clamp (by omega)
    generalize hF : (List.range i).flatMap (fun t => wtX9 G (v t)) = F at hP hD
    have hP : va_P (gD G) vwCl (((h0, .inr (2, [.ref q7, .int 0, .int 0])) :: (q7, .inl (gC G 14, 12, .inr (.inr (.inr (.inr f))))) :: F) ++ wtX9 G (cns q u)) H := hP
    have hv : (((h0, (.inr (2, [.ref q7, .int 0, .int 0]) : va_E)) :: (q7, .inl (gC G 14, 12, .inr (.inr (.inr (.inr f))))) :: F) ++ wtX9 G (cns q u))[F.length + 2]? = (wtX9 G (cns q u))[0]? := m_at0 _ _ _ rfl
    refine va_astq hx hb hK hP hD hS 1 4 (F.length + 2) 7 (r := (RX9, TX9, 20)) (a := q7) (v := q) (f := f) rfl rfl hv rfl hin iX3_43 (fun H locs hP hD hS => ?_)
    rw [hcl] at hP hD
    have hvt : (List.range (i + 1)).flatMap (fun t => wtX9 G (va_up v i (cns q u) t)) = F ++ wtX9 G (cns q u) := by
      rw [List.range_succ, List.flatMap_append, ← hF]
      congr 1
      · rw [List.flatMap_def, List.flatMap_def]
        congr 1
        exact List.map_congr_left fun t ht => by rw [show va_up v i (cns q u) t = v t from if_neg (Nat.ne_of_lt (List.mem_range.mp ht))]
      · show wtX9 G (va_up v i (cns q u) i) ++ [] = _
        rw [List.append_nil, show va_up v i (cns q u) i = cns q u from if_pos rfl]
    have hP : va_P (gD G) vwCl ((h0, .inr (2, [.ref q7, .int 0, .int 0])) :: (q7, .inl (gC G 14, 12, .inr (.inr (.inr (.inr (va_up f i (some q))))))) :: (List.range (i + 1)).flatMap (fun t => wtX9 G (va_up v i (cns q u) t))) H := by rw [hvt]; exact hP
    have hD : va_D A ((h0, .inr (2, [.ref q7, .int 0, .int 0])) :: (q7, .inl (gC G 14, 12, .inr (.inr (.inr (.inr (va_up f i (some q))))))) :: (List.range (i + 1)).flatMap (fun t => wtX9 G (va_up v i (cns q u) t))) := by rw [hvt]; exact hD
    refine lv_iinc (k := 0) (v := nI (i + 1)) (lv' := [(1, .int (nI (i + 1))), (0, .ref h0)]) hx hb iX3_44 hl rfl (nI_succ i).symm (by decide) rfl (fun ls hl => ?_)
    refine lv_goto (tgt := 25) hx hb iX3_47 (by decide) ?_
    refine W.cs (cells' := 1 + 12 * (i + 1)) (slots' := 12 + 455 * (i + 1)) (by omega) (by omega) ?_
    refine ih (i + 1) (by omega) _ _ H locs ls (fun j hj => ?_) hl hP hD hS
    by_cases hji : j = i
    · show (if j = i then some q else f j) = some ((if j = i then cns q u else v j) 0)
      rw [if_pos hji, if_pos hji]
      rfl
    · show (if j = i then some q else f j) = some ((if j = i then cns q u else v j) 0)
      rw [if_neg hji, if_neg hji]
      exact hf j (by omega)
set_option maxHeartbeats 8000000 in
set_option maxRecDepth 100000 in
theorem ctX3 (l : Launch) (G : mG) (h0 sz : Nat) : Met l yX3_init wiX3 ({ frames := 3, cells := 145, slots := 5472, locals := 52 }) (va_Pc [.ref h0] (fun U => U.heap.size = sz ∧ va_P (gD G) vwCl [(h0, .inr (2, [.null, .int 0, .int 0]))] U.heap ∧ va_K (gD G) vwCl (mTys G) U ∧ va_D (fun _ => True) [(h0, .inr (2, [.null, .int 0, .int 0]))] ∧ cN U)) (va_Qv (fun _ : Nat → Nat → Nat => True) (atX3 G (va_A [(h0, .inr (2, [.null, .int 0, .int 0]))] sz) h0) (va_A [(h0, .inr (2, [.null, .int 0, .int 0]))] sz)) 145 5472 (va_A [(h0, .inr (2, [.null, .int 0, .int 0]))] sz) := by
  refine Met.ofW (cc := cX3_init) (maxL := 2) (ret := none) (by decide) rfl ?_
  intro p e s m args below meth c s₁ B hml hv
  obtain ⟨rfl, hsz, hP, hK, hD0, hN⟩ := hv
  have hx := B.exec
  have hb := B.bytes
  have hr := B.returns
  have hts := atoms_spec (ws := wiX3) B.pre
  have hg : ∀ w ∈ mGw, w.before _ s = true := fun w hw => hts w (List.mem_cons_of_mem _ hw)
  have hown : s.vm.findClass RX3 = some m.cls := findClass_of_methodNamed B.named
  have hin : meth.name = "<init>" := (name_of_methodNamed B.named B.method).1
  subst hsz
  have hD := hD0.self (sz := s.heap.size)
  generalize hAe : va_A [(h0, .inr (2, [.null, .int 0, .int 0]))] s.heap.size = A at hD ⊢
  have hA : ∀ q : Nat, s.heap.size ≤ q → A q := fun q h => by rw [← hAe]; exact Or.inr h
  have hS : va_S A s.heap s.heap [] := va_S.rf
  have hP : va_P (gD G) vwCl [(h0, .inr (2, [.null, .int 0, .int 0]))] s.heap := hP
  have hl := lv_entry ([.ref h0]) (n := 2) (Nat.le_of_ble_eq_true rfl)
  rw [lg_entry_eq]
  generalize (lg_sl ([.ref h0]) ++ List.replicate (2 - (lg_sl ([.ref h0])).length) Slot.unset).toArray = ls at hl ⊢
  have hl : lv_has ls 2 [(0, .ref h0)] := hl
  refine lv_aload_n hx hb iX3_0 rfl (lv_at hl 0 rfl) ?_
  refine W.objInit hx hb hown (hg _ (mGw_of (i := 340) (by decide +kernel) (by decide +kernel))) (hg _ (mGw_of (i := 152) (by decide +kernel) (by decide +kernel))) (hg _ (mGw_of (i := 153) (by decide +kernel) (by decide +kernel))) rfl (by rw [hml]; exact hl.1) rfl iX3_1 (Nat.le_of_ble_eq_true rfl) (Nat.le_of_ble_eq_true rfl) ?_
  refine W.eq (g2 := F0 m 4 ls []) rfl ?_
  refine lv_aload_n hx hb iX3_4 rfl (lv_at hl 0 rfl) ?_
  refine lv_bipush hx hb (v := 12) iX3_5 rfl ?_
  refine va_nwq hx hb hown (hg _ (mGw_of (i := 341) (by decide +kernel) (by decide +kernel))) hN.2 hK hP hD hS hA (t0 := 4) (cI := gC G 14) rfl (N' := 12) (by decide) (by decide) (by decide) (Nat.le_of_ble_eq_true rfl) (Nat.le_of_ble_eq_true rfl) iX3_7 (fun q7 H hP hD hS => ?_)
  have hP : va_P (gD G) vwCl [(h0, .inr (2, [.null, .int 0, .int 0])), (q7, .inl (gC G 14, 12, .inr (.inr (.inr (.inr (fun _ => none))))))] H := hP
  have hD : va_D A [(h0, .inr (2, [.null, .int 0, .int 0])), (q7, .inl (gC G 14, 12, .inr (.inr (.inr (.inr (fun _ => none))))))] := hD
  refine W.cs (cells' := 1) (slots' := 12) (by omega) (by omega) ?_
  refine va_putF (D := gD G) (ci := 2) (v := .ref q7) (ty := .array (.object "WakeTower$Tower")) (C := RX3) (T := TX3) (N := 3) hx hb hg ((mCl_ok 2 (RX3, TX3, 3) rfl).1) tyX3 tyX3_ok nmX3 hown hK hP hD hS 0 rfl rfl 0 (by decide) (hg _ (mGw_of (i := 344) (by decide +kernel) (by decide +kernel))) (fun _ h9 => h9) rfl hin rfl (by decide +kernel) rfl rfl (Nat.le_of_ble_eq_true rfl) iX3_10 (fun H locs hP hD hS => ?_)
  have hP : va_P (gD G) vwCl [(h0, .inr (2, [.ref q7, .int 0, .int 0])), (q7, .inl (gC G 14, 12, .inr (.inr (.inr (.inr (fun _ => none))))))] H := hP
  have hD : va_D A [(h0, .inr (2, [.ref q7, .int 0, .int 0])), (q7, .inl (gC G 14, 12, .inr (.inr (.inr (.inr (fun _ => none))))))] := hD
  refine lv_aload_n hx hb iX3_13 rfl (lv_at hl 0 rfl) ?_
  refine lv_iconst hx hb (v := 0) iX3_14 rfl ?_
  refine va_put (D := gD G) (ci := 2) (v := .int 0) (ty := .int) (C := RX3) (T := TX3) (N := 3) hx hb hg ((mCl_ok 2 (RX3, TX3, 3) rfl).1) tyX3 tyX3_ok nmX3 hown hK hP hD hS 0 rfl rfl 1 (by decide) (hg _ (mGw_of (i := 345) (by decide +kernel) (by decide +kernel))) (fun _ h9 => h9) rfl (by decide +kernel) rfl rfl (Nat.le_of_ble_eq_true rfl) iX3_15 (fun H locs hP hD hS => ?_)
  have hP : va_P (gD G) vwCl [(h0, .inr (2, [.ref q7, .int 0, .int 0])), (q7, .inl (gC G 14, 12, .inr (.inr (.inr (.inr (fun _ => none))))))] H := hP
  have hD : va_D A [(h0, .inr (2, [.ref q7, .int 0, .int 0])), (q7, .inl (gC G 14, 12, .inr (.inr (.inr (.inr (fun _ => none))))))] := hD
  refine lv_aload_n hx hb iX3_18 rfl (lv_at hl 0 rfl) ?_
  refine lv_iconst hx hb (v := 0) iX3_19 rfl ?_
  refine va_put (D := gD G) (ci := 2) (v := .int 0) (ty := .int) (C := RX3) (T := TX3) (N := 3) hx hb hg ((mCl_ok 2 (RX3, TX3, 3) rfl).1) tyX3 tyX3_ok nmX3 hown hK hP hD hS 0 rfl rfl 2 (by decide) (hg _ (mGw_of (i := 346) (by decide +kernel) (by decide +kernel))) (fun _ h9 => h9) rfl (by decide +kernel) rfl rfl (Nat.le_of_ble_eq_true rfl) iX3_20 (fun H locs hP hD hS => ?_)
  have hP : va_P (gD G) vwCl [(h0, .inr (2, [.ref q7, .int 0, .int 0])), (q7, .inl (gC G 14, 12, .inr (.inr (.inr (.inr (fun _ => none))))))] H := hP
  have hD : va_D A [(h0, .inr (2, [.ref q7, .int 0, .int 0])), (q7, .inl (gC G 14, 12, .inr (.inr (.inr (.inr (fun _ => none))))))] := hD
  refine lv_iconst hx hb (v := 0) iX3_23 rfl ?_
  refine lv_istore_n (lv' := [(1, .int 0), (0, .ref h0)]) hx hb iX3_24 rfl hl (by decide) rfl (fun ls hl => ?_)
  refine lpX3 G hx hb hml hown hg hK hN hA rfl rfl rfl rfl ?_ 12 0 rfl (fun _ => cns 0 (fun _ => 0)) (fun _ => none) H locs ls (fun j hj => absurd hj (Nat.not_lt_zero j)) hl hP hD hS
  intro v f H locs ls hf hP hD hS
  have hP : va_P (gD G) vwCl ((h0, .inr (2, [.ref q7, .int 0, .int 0])) :: (q7, .inl (gC G 14, 12, .inr (.inr (.inr (.inr (fun j => some (v j 0))))))) :: (List.range 12).flatMap (fun t => wtX9 G (v t))) H := hP.alter (k := 1) (x' := .inl (gC G 14, 12, .inr (.inr (.inr (.inr (fun j => some (v j 0))))))) rfl (va_at_q hf)
  have hD : va_D A ((h0, .inr (2, [.ref q7, .int 0, .int 0])) :: (q7, .inl (gC G 14, 12, .inr (.inr (.inr (.inr (fun j => some (v j 0))))))) :: (List.range 12).flatMap (fun t => wtX9 G (v t))) := hD.set (p := 1) rfl
  exact W.vret hx hb hr (fun t ht hW => ⟨⟨(fun k => match k with | 0 => fun _ => q7 | k + 1 => v k), rfl, trivial, by rw [ht]; exact hP, va_K.moved hW.alike hK, hD⟩, hS.F ht⟩) hS.2.2 iX3_50
