/-! the constructors of those that make arrays only -/
theorem iX2_0 : decode cX2_init 0 = .ok (.aload_n 0, 1) := by decide +kernel
theorem iX2_1 : decode cX2_init 1 = .ok (.invokespecial 3, 3) := by decide +kernel
theorem iX2_4 : decode cX2_init 4 = .ok (.aload_n 0, 1) := by decide +kernel
theorem iX2_5 : decode cX2_init 5 = .ok (.sipush 360, 3) := by decide +kernel
theorem iX2_8 : decode cX2_init 8 = .ok (.newarray .int, 2) := by decide +kernel
theorem iX2_10 : decode cX2_init 10 = .ok (.putfield 11, 3) := by decide +kernel
theorem iX2_13 : decode cX2_init 13 = .ok (.aload_n 0, 1) := by decide +kernel
theorem iX2_14 : decode cX2_init 14 = .ok (.iconst 0, 1) := by decide +kernel
theorem iX2_15 : decode cX2_init 15 = .ok (.putfield 15, 3) := by decide +kernel
theorem iX2_18 : decode cX2_init 18 = .ok (.aload_n 0, 1) := by decide +kernel
theorem iX2_19 : decode cX2_init 19 = .ok (.iconst 0, 1) := by decide +kernel
theorem iX2_20 : decode cX2_init 20 = .ok (.putfield 19, 3) := by decide +kernel
theorem iX2_23 : decode cX2_init 23 = .ok (.return_, 1) := by decide +kernel
def wiX2 : List Cond := .code yX2_init cX2_init 1 none :: mGw
def atX2 (G : mG) (A : Nat → Prop) (h0 : Nat) (u : Nat → Nat) (t : State) : Prop := va_P (gD G) vwCl [(h0, .inr (1, [.ref (u 0), .int 0, .int 0])), (u 0, .inl (gC G 10, 360, .inl (fun _ => 0)))] t.heap ∧ va_K (gD G) vwCl (mTys G) t ∧ va_D A [(h0, .inr (1, [.ref (u 0), .int 0, .int 0])), (u 0, .inl (gC G 10, 360, .inl (fun _ => 0)))]
theorem huX2 : ∀ w ∈ u_ws RX2 TX2 3, w ∈ wiX2 := fun w hw => List.mem_cons_of_mem _ ((mCl_ok 1 (RX2, TX2, 3) rfl).1 w hw)
set_option maxHeartbeats 4000000 in
set_option maxRecDepth 100000 in
theorem ctX2 (l : Launch) (G : mG) (h0 sz : Nat) : Met l yX2_init wiX2 ({ frames := 1, cells := 1, slots := 360, locals := 12 }) (va_Pc [.ref h0] (fun U => U.heap.size = sz ∧ va_P (gD G) vwCl [(h0, .inr (1, [.null, .int 0, .int 0]))] U.heap ∧ va_K (gD G) vwCl (mTys G) U ∧ va_D (fun _ => True) [(h0, .inr (1, [.null, .int 0, .int 0]))])) (va_Qv (fun _ : Nat → Nat => True) (atX2 G (va_A [(h0, .inr (1, [.null, .int 0, .int 0]))] sz) h0) (va_A [(h0, .inr (1, [.null, .int 0, .int 0]))] sz)) 1 360 (va_A [(h0, .inr (1, [.null, .int 0, .int 0]))] sz) := by
  refine Met.ofW (cc := cX2_init) (maxL := 1) (ret := none) (by decide) rfl ?_
  intro p e s m args below meth c s₁ B hml hv
  obtain ⟨rfl, hsz, hP, hK, hD0⟩ := hv
  have hx := B.exec
  have hb := B.bytes
  have hr := B.returns
  have hts := atoms_spec (ws := wiX2) B.pre
  have hown : s.vm.findClass RX2 = some m.cls := findClass_of_methodNamed B.named
  have hin : meth.name = "<init>" := (name_of_methodNamed B.named B.method).1
  subst hsz
  have hD := hD0.self (sz := s.heap.size)
  generalize hAe : va_A [(h0, .inr (1, [.null, .int 0, .int 0]))] s.heap.size = A at hD ⊢
  have hA : ∀ q : Nat, s.heap.size ≤ q → A q := fun q h => by rw [← hAe]; exact Or.inr h
  have hS : va_S A s.heap s.heap [] := va_S.rf
  have hP : va_P (gD G) vwCl [(h0, .inr (1, [.null, .int 0, .int 0]))] s.heap := hP
  have hl := lv_entry ([.ref h0]) (n := 1) (Nat.le_of_ble_eq_true rfl)
  rw [lg_entry_eq]
  generalize (lg_sl ([.ref h0]) ++ List.replicate (1 - (lg_sl ([.ref h0])).length) Slot.unset).toArray = ls at hl ⊢
  have hl : lv_has ls 1 [(0, .ref h0)] := hl
  refine lv_aload_n hx hb iX2_0 rfl (lv_at hl 0 rfl) ?_
  refine W.objInit hx hb hown (hts _ (List.mem_cons_of_mem _ (mGw_of (i := 191) (by decide +kernel) (by decide +kernel)))) (hts _ (List.mem_cons_of_mem _ (mGw_of (i := 152) (by decide +kernel) (by decide +kernel)))) (hts _ (List.mem_cons_of_mem _ (mGw_of (i := 153) (by decide +kernel) (by decide +kernel)))) rfl (by rw [hml]; exact hl.1) rfl iX2_1 (Nat.le_of_ble_eq_true rfl) (Nat.le_of_ble_eq_true rfl) ?_
  refine W.eq (g2 := F0 m 4 ls []) rfl ?_
  refine lv_aload_n hx hb iX2_4 rfl (lv_at hl 0 rfl) ?_
  refine lv_sipush hx hb (v := 360) iX2_5 rfl ?_
  refine va_nw hx hb (atype := .int) (ty := .int) (hts _ (List.mem_cons_of_mem _ (mGw_of (i := 179) (by decide +kernel) (by decide +kernel)))) rfl hK hP hD hS hA (t0 := 0) (cI := gC G 10) rfl (fun _ _ h => ra_int h) (N' := 360) (a0 := (360, .inl (fun _ => 0))) (fun _ => rfl) (by decide) (by decide) (by decide) (Nat.le_of_ble_eq_true rfl) (Nat.le_of_ble_eq_true rfl) iX2_8 (fun q8 H hP hD hS => ?_)
  have hP : va_P (gD G) vwCl [(h0, .inr (1, [.null, .int 0, .int 0])), (q8, .inl (gC G 10, 360, .inl (fun _ => 0)))] H := hP
  have hD : va_D A [(h0, .inr (1, [.null, .int 0, .int 0])), (q8, .inl (gC G 10, 360, .inl (fun _ => 0)))] := hD
  refine W.cs (cells' := 1) (slots' := 360) (by omega) (by omega) ?_
  refine va_putF (D := gD G) (ci := 1) (v := .ref q8) (ty := .array .int) (C := RX2) (T := TX2) (N := 3) hx hb hts (huX2) tyX2 tyX2_ok nmX2 hown hK hP hD hS 0 rfl rfl 0 (by decide) (hts _ (List.mem_cons_of_mem _ (mGw_of (i := 192) (by decide +kernel) (by decide +kernel)))) (fun _ h9 => h9) rfl hin rfl (by decide +kernel) rfl rfl (Nat.le_of_ble_eq_true rfl) iX2_10 (fun H locs hP hD hS => ?_)
  have hP : va_P (gD G) vwCl [(h0, .inr (1, [.ref q8, .int 0, .int 0])), (q8, .inl (gC G 10, 360, .inl (fun _ => 0)))] H := hP
  have hD : va_D A [(h0, .inr (1, [.ref q8, .int 0, .int 0])), (q8, .inl (gC G 10, 360, .inl (fun _ => 0)))] := hD
  refine lv_aload_n hx hb iX2_13 rfl (lv_at hl 0 rfl) ?_
  refine lv_iconst hx hb (v := 0) iX2_14 rfl ?_
  refine va_put (D := gD G) (ci := 1) (v := .int 0) (ty := .int) (C := RX2) (T := TX2) (N := 3) hx hb hts (huX2) tyX2 tyX2_ok nmX2 hown hK hP hD hS 0 rfl rfl 1 (by decide) (hts _ (List.mem_cons_of_mem _ (mGw_of (i := 193) (by decide +kernel) (by decide +kernel)))) (fun _ h9 => h9) rfl (by decide +kernel) rfl rfl (Nat.le_of_ble_eq_true rfl) iX2_15 (fun H locs hP hD hS => ?_)
  have hP : va_P (gD G) vwCl [(h0, .inr (1, [.ref q8, .int 0, .int 0])), (q8, .inl (gC G 10, 360, .inl (fun _ => 0)))] H := hP
  have hD : va_D A [(h0, .inr (1, [.ref q8, .int 0, .int 0])), (q8, .inl (gC G 10, 360, .inl (fun _ => 0)))] := hD
  refine lv_aload_n hx hb iX2_18 rfl (lv_at hl 0 rfl) ?_
  refine lv_iconst hx hb (v := 0) iX2_19 rfl ?_
  refine va_put (D := gD G) (ci := 1) (v := .int 0) (ty := .int) (C := RX2) (T := TX2) (N := 3) hx hb hts (huX2) tyX2 tyX2_ok nmX2 hown hK hP hD hS 0 rfl rfl 2 (by decide) (hts _ (List.mem_cons_of_mem _ (mGw_of (i := 194) (by decide +kernel) (by decide +kernel)))) (fun _ h9 => h9) rfl (by decide +kernel) rfl rfl (Nat.le_of_ble_eq_true rfl) iX2_20 (fun H locs hP hD hS => ?_)
  have hP : va_P (gD G) vwCl [(h0, .inr (1, [.ref q8, .int 0, .int 0])), (q8, .inl (gC G 10, 360, .inl (fun _ => 0)))] H := hP
  have hD : va_D A [(h0, .inr (1, [.ref q8, .int 0, .int 0])), (q8, .inl (gC G 10, 360, .inl (fun _ => 0)))] := hD
  exact W.vret hx hb hr (fun t ht hW => ⟨⟨(fun k => [q8].getD k 0), rfl, trivial, by rw [ht]; exact hP, va_K.moved hW.alike hK, hD⟩, hS.F ht⟩) hS.2.2 iX2_23
theorem iX0_0 : decode cX0_init 0 = .ok (.aload_n 0, 1) := by decide +kernel
theorem iX0_1 : decode cX0_init 1 = .ok (.invokespecial 1, 3) := by decide +kernel
theorem iX0_4 : decode cX0_init 4 = .ok (.aload_n 0, 1) := by decide +kernel
theorem iX0_5 : decode cX0_init 5 = .ok (.iconst 0, 1) := by decide +kernel
theorem iX0_6 : decode cX0_init 6 = .ok (.putfield 7, 3) := by decide +kernel
theorem iX0_9 : decode cX0_init 9 = .ok (.aload_n 0, 1) := by decide +kernel
theorem iX0_10 : decode cX0_init 10 = .ok (.iconst 0, 1) := by decide +kernel
theorem iX0_11 : decode cX0_init 11 = .ok (.putfield 13, 3) := by decide +kernel
theorem iX0_14 : decode cX0_init 14 = .ok (.aload_n 0, 1) := by decide +kernel
theorem iX0_15 : decode cX0_init 15 = .ok (.bipush 12, 2) := by decide +kernel
theorem iX0_17 : decode cX0_init 17 = .ok (.newarray .int, 2) := by decide +kernel
theorem iX0_19 : decode cX0_init 19 = .ok (.putfield 17, 3) := by decide +kernel
theorem iX0_22 : decode cX0_init 22 = .ok (.aload_n 0, 1) := by decide +kernel
theorem iX0_23 : decode cX0_init 23 = .ok (.bipush 12, 2) := by decide +kernel
theorem iX0_25 : decode cX0_init 25 = .ok (.newarray .int, 2) := by decide +kernel
theorem iX0_27 : decode cX0_init 27 = .ok (.putfield 21, 3) := by decide +kernel
theorem iX0_30 : decode cX0_init 30 = .ok (.aload_n 0, 1) := by decide +kernel
theorem iX0_31 : decode cX0_init 31 = .ok (.bipush 12, 2) := by decide +kernel
theorem iX0_33 : decode cX0_init 33 = .ok (.newarray .int, 2) := by decide +kernel
theorem iX0_35 : decode cX0_init 35 = .ok (.putfield 24, 3) := by decide +kernel
theorem iX0_38 : decode cX0_init 38 = .ok (.aload_n 0, 1) := by decide +kernel
theorem iX0_39 : decode cX0_init 39 = .ok (.sipush 400, 3) := by decide +kernel
theorem iX0_42 : decode cX0_init 42 = .ok (.newarray .int, 2) := by decide +kernel
theorem iX0_44 : decode cX0_init 44 = .ok (.putfield 29, 3) := by decide +kernel
theorem iX0_47 : decode cX0_init 47 = .ok (.aload_n 0, 1) := by decide +kernel
theorem iX0_48 : decode cX0_init 48 = .ok (.iconst 0, 1) := by decide +kernel
theorem iX0_49 : decode cX0_init 49 = .ok (.putfield 32, 3) := by decide +kernel
theorem iX0_52 : decode cX0_init 52 = .ok (.aload_n 0, 1) := by decide +kernel
theorem iX0_53 : decode cX0_init 53 = .ok (.bipush 64, 2) := by decide +kernel
theorem iX0_55 : decode cX0_init 55 = .ok (.newarray .int, 2) := by decide +kernel
theorem iX0_57 : decode cX0_init 57 = .ok (.putfield 35, 3) := by decide +kernel
theorem iX0_60 : decode cX0_init 60 = .ok (.return_, 1) := by decide +kernel
def wiX0 : List Cond := .code yX0_init cX0_init 1 none :: mGw
def atX0 (G : mG) (A : Nat → Prop) (h0 : Nat) (u : Nat → Nat) (t : State) : Prop := va_P (gD G) vwCl [(h0, .inr (0, [.int 0, .int 0, .ref (u 0), .ref (u 1), .ref (u 2), .ref (u 3), .int 0, .ref (u 4)])), (u 0, .inl (gC G 10, 12, .inl (fun _ => 0))), (u 1, .inl (gC G 10, 12, .inl (fun _ => 0))), (u 2, .inl (gC G 10, 12, .inl (fun _ => 0))), (u 3, .inl (gC G 10, 400, .inl (fun _ => 0))), (u 4, .inl (gC G 10, 64, .inl (fun _ => 0)))] t.heap ∧ va_K (gD G) vwCl (mTys G) t ∧ va_D A [(h0, .inr (0, [.int 0, .int 0, .ref (u 0), .ref (u 1), .ref (u 2), .ref (u 3), .int 0, .ref (u 4)])), (u 0, .inl (gC G 10, 12, .inl (fun _ => 0))), (u 1, .inl (gC G 10, 12, .inl (fun _ => 0))), (u 2, .inl (gC G 10, 12, .inl (fun _ => 0))), (u 3, .inl (gC G 10, 400, .inl (fun _ => 0))), (u 4, .inl (gC G 10, 64, .inl (fun _ => 0)))]
theorem huX0 : ∀ w ∈ u_ws RX0 TX0 8, w ∈ wiX0 := fun w hw => List.mem_cons_of_mem _ ((mCl_ok 0 (RX0, TX0, 8) rfl).1 w hw)
set_option maxHeartbeats 4000000 in
set_option maxRecDepth 100000 in
theorem ctX0 (l : Launch) (G : mG) (h0 sz : Nat) : Met l yX0_init wiX0 ({ frames := 1, cells := 5, slots := 500, locals := 12 }) (va_Pc [.ref h0] (fun U => U.heap.size = sz ∧ va_P (gD G) vwCl [(h0, .inr (0, [.int 0, .int 0, .null, .null, .null, .null, .int 0, .null]))] U.heap ∧ va_K (gD G) vwCl (mTys G) U ∧ va_D (fun _ => True) [(h0, .inr (0, [.int 0, .int 0, .null, .null, .null, .null, .int 0, .null]))])) (va_Qv (fun _ : Nat → Nat => True) (atX0 G (va_A [(h0, .inr (0, [.int 0, .int 0, .null, .null, .null, .null, .int 0, .null]))] sz) h0) (va_A [(h0, .inr (0, [.int 0, .int 0, .null, .null, .null, .null, .int 0, .null]))] sz)) 5 500 (va_A [(h0, .inr (0, [.int 0, .int 0, .null, .null, .null, .null, .int 0, .null]))] sz) := by
  refine Met.ofW (cc := cX0_init) (maxL := 1) (ret := none) (by decide) rfl ?_
  intro p e s m args below meth c s₁ B hml hv
  obtain ⟨rfl, hsz, hP, hK, hD0⟩ := hv
  have hx := B.exec
  have hb := B.bytes
  have hr := B.returns
  have hts := atoms_spec (ws := wiX0) B.pre
  have hown : s.vm.findClass RX0 = some m.cls := findClass_of_methodNamed B.named
  have hin : meth.name = "<init>" := (name_of_methodNamed B.named B.method).1
  subst hsz
  have hD := hD0.self (sz := s.heap.size)
  generalize hAe : va_A [(h0, .inr (0, [.int 0, .int 0, .null, .null, .null, .null, .int 0, .null]))] s.heap.size = A at hD ⊢
  have hA : ∀ q : Nat, s.heap.size ≤ q → A q := fun q h => by rw [← hAe]; exact Or.inr h
  have hS : va_S A s.heap s.heap [] := va_S.rf
  have hP : va_P (gD G) vwCl [(h0, .inr (0, [.int 0, .int 0, .null, .null, .null, .null, .int 0, .null]))] s.heap := hP
  have hl := lv_entry ([.ref h0]) (n := 1) (Nat.le_of_ble_eq_true rfl)
  rw [lg_entry_eq]
  generalize (lg_sl ([.ref h0]) ++ List.replicate (1 - (lg_sl ([.ref h0])).length) Slot.unset).toArray = ls at hl ⊢
  have hl : lv_has ls 1 [(0, .ref h0)] := hl
  refine lv_aload_n hx hb iX0_0 rfl (lv_at hl 0 rfl) ?_
  refine W.objInit hx hb hown (hts _ (List.mem_cons_of_mem _ (mGw_of (i := 307) (by decide +kernel) (by decide +kernel)))) (hts _ (List.mem_cons_of_mem _ (mGw_of (i := 152) (by decide +kernel) (by decide +kernel)))) (hts _ (List.mem_cons_of_mem _ (mGw_of (i := 153) (by decide +kernel) (by decide +kernel)))) rfl (by rw [hml]; exact hl.1) rfl iX0_1 (Nat.le_of_ble_eq_true rfl) (Nat.le_of_ble_eq_true rfl) ?_
  refine W.eq (g2 := F0 m 4 ls []) rfl ?_
  refine lv_aload_n hx hb iX0_4 rfl (lv_at hl 0 rfl) ?_
  refine lv_iconst hx hb (v := 0) iX0_5 rfl ?_
  refine va_put (D := gD G) (ci := 0) (v := .int 0) (ty := .boolean) (C := RX0) (T := TX0) (N := 8) hx hb hts (huX0) tyX0 tyX0_ok nmX0 hown hK hP hD hS 0 rfl rfl 0 (by decide) (hts _ (List.mem_cons_of_mem _ (mGw_of (i := 308) (by decide +kernel) (by decide +kernel)))) (fun _ h9 => h9) rfl (by decide +kernel) rfl rfl (Nat.le_of_ble_eq_true rfl) iX0_6 (fun H locs hP hD hS => ?_)
  have hP : va_P (gD G) vwCl [(h0, .inr (0, [.int 0, .int 0, .null, .null, .null, .null, .int 0, .null]))] H := hP
  have hD : va_D A [(h0, .inr (0, [.int 0, .int 0, .null, .null, .null, .null, .int 0, .null]))] := hD
  refine lv_aload_n hx hb iX0_9 rfl (lv_at hl 0 rfl) ?_
  refine lv_iconst hx hb (v := 0) iX0_10 rfl ?_
  refine va_put (D := gD G) (ci := 0) (v := .int 0) (ty := .int) (C := RX0) (T := TX0) (N := 8) hx hb hts (huX0) tyX0 tyX0_ok nmX0 hown hK hP hD hS 0 rfl rfl 1 (by decide) (hts _ (List.mem_cons_of_mem _ (mGw_of (i := 310) (by decide +kernel) (by decide +kernel)))) (fun _ h9 => h9) rfl (by decide +kernel) rfl rfl (Nat.le_of_ble_eq_true rfl) iX0_11 (fun H locs hP hD hS => ?_)
  have hP : va_P (gD G) vwCl [(h0, .inr (0, [.int 0, .int 0, .null, .null, .null, .null, .int 0, .null]))] H := hP
  have hD : va_D A [(h0, .inr (0, [.int 0, .int 0, .null, .null, .null, .null, .int 0, .null]))] := hD
  refine lv_aload_n hx hb iX0_14 rfl (lv_at hl 0 rfl) ?_
  refine lv_bipush hx hb (v := 12) iX0_15 rfl ?_
  refine va_nw hx hb (atype := .int) (ty := .int) (hts _ (List.mem_cons_of_mem _ (mGw_of (i := 179) (by decide +kernel) (by decide +kernel)))) rfl hK hP hD hS hA (t0 := 0) (cI := gC G 10) rfl (fun _ _ h => ra_int h) (N' := 12) (a0 := (12, .inl (fun _ => 0))) (fun _ => rfl) (by decide) (by decide) (by decide) (Nat.le_of_ble_eq_true rfl) (Nat.le_of_ble_eq_true rfl) iX0_17 (fun q17 H hP hD hS => ?_)
  have hP : va_P (gD G) vwCl [(h0, .inr (0, [.int 0, .int 0, .null, .null, .null, .null, .int 0, .null])), (q17, .inl (gC G 10, 12, .inl (fun _ => 0)))] H := hP
  have hD : va_D A [(h0, .inr (0, [.int 0, .int 0, .null, .null, .null, .null, .int 0, .null])), (q17, .inl (gC G 10, 12, .inl (fun _ => 0)))] := hD
  refine W.cs (cells' := 1) (slots' := 12) (by omega) (by omega) ?_
  refine va_putF (D := gD G) (ci := 0) (v := .ref q17) (ty := .array .int) (C := RX0) (T := TX0) (N := 8) hx hb hts (huX0) tyX0 tyX0_ok nmX0 hown hK hP hD hS 0 rfl rfl 2 (by decide) (hts _ (List.mem_cons_of_mem _ (mGw_of (i := 312) (by decide +kernel) (by decide +kernel)))) (fun _ h9 => h9) rfl hin rfl (by decide +kernel) rfl rfl (Nat.le_of_ble_eq_true rfl) iX0_19 (fun H locs hP hD hS => ?_)
  have hP : va_P (gD G) vwCl [(h0, .inr (0, [.int 0, .int 0, .ref q17, .null, .null, .null, .int 0, .null])), (q17, .inl (gC G 10, 12, .inl (fun _ => 0)))] H := hP
  have hD : va_D A [(h0, .inr (0, [.int 0, .int 0, .ref q17, .null, .null, .null, .int 0, .null])), (q17, .inl (gC G 10, 12, .inl (fun _ => 0)))] := hD
  refine lv_aload_n hx hb iX0_22 rfl (lv_at hl 0 rfl) ?_
  refine lv_bipush hx hb (v := 12) iX0_23 rfl ?_
  refine va_nw hx hb (atype := .int) (ty := .int) (hts _ (List.mem_cons_of_mem _ (mGw_of (i := 179) (by decide +kernel) (by decide +kernel)))) rfl hK hP hD hS hA (t0 := 0) (cI := gC G 10) rfl (fun _ _ h => ra_int h) (N' := 12) (a0 := (12, .inl (fun _ => 0))) (fun _ => rfl) (by decide) (by decide) (by decide) (Nat.le_of_ble_eq_true rfl) (Nat.le_of_ble_eq_true rfl) iX0_25 (fun q25 H hP hD hS => ?_)
  have hP : va_P (gD G) vwCl [(h0, .inr (0, [.int 0, .int 0, .ref q17, .null, .null, .null, .int 0, .null])), (q17, .inl (gC G 10, 12, .inl (fun _ => 0))), (q25, .inl (gC G 10, 12, .inl (fun _ => 0)))] H := hP
  have hD : va_D A [(h0, .inr (0, [.int 0, .int 0, .ref q17, .null, .null, .null, .int 0, .null])), (q17, .inl (gC G 10, 12, .inl (fun _ => 0))), (q25, .inl (gC G 10, 12, .inl (fun _ => 0)))] := hD
  refine W.cs (cells' := 2) (slots' := 24) (by omega) (by omega) ?_
  refine va_putF (D := gD G) (ci := 0) (v := .ref q25) (ty := .array .int) (C := RX0) (T := TX0) (N := 8) hx hb hts (huX0) tyX0 tyX0_ok nmX0 hown hK hP hD hS 0 rfl rfl 3 (by decide) (hts _ (List.mem_cons_of_mem _ (mGw_of (i := 313) (by decide +kernel) (by decide +kernel)))) (fun _ h9 => h9) rfl hin rfl (by decide +kernel) rfl rfl (Nat.le_of_ble_eq_true rfl) iX0_27 (fun H locs hP hD hS => ?_)
  have hP : va_P (gD G) vwCl [(h0, .inr (0, [.int 0, .int 0, .ref q17, .ref q25, .null, .null, .int 0, .null])), (q17, .inl (gC G 10, 12, .inl (fun _ => 0))), (q25, .inl (gC G 10, 12, .inl (fun _ => 0)))] H := hP
  have hD : va_D A [(h0, .inr (0, [.int 0, .int 0, .ref q17, .ref q25, .null, .null, .int 0, .null])), (q17, .inl (gC G 10, 12, .inl (fun _ => 0))), (q25, .inl (gC G 10, 12, .inl (fun _ => 0)))] := hD
  refine lv_aload_n hx hb iX0_30 rfl (lv_at hl 0 rfl) ?_
  refine lv_bipush hx hb (v := 12) iX0_31 rfl ?_
  refine va_nw hx hb (atype := .int) (ty := .int) (hts _ (List.mem_cons_of_mem _ (mGw_of (i := 179) (by decide +kernel) (by decide +kernel)))) rfl hK hP hD hS hA (t0 := 0) (cI := gC G 10) rfl (fun _ _ h => ra_int h) (N' := 12) (a0 := (12, .inl (fun _ => 0))) (fun _ => rfl) (by decide) (by decide) (by decide) (Nat.le_of_ble_eq_true rfl) (Nat.le_of_ble_eq_true rfl) iX0_33 (fun q33 H hP hD hS => ?_)
  have hP : va_P (gD G) vwCl [(h0, .inr (0, [.int 0, .int 0, .ref q17, .ref q25, .null, .null, .int 0, .null])), (q17, .inl (gC G 10, 12, .inl (fun _ => 0))), (q25, .inl (gC G 10, 12, .inl (fun _ => 0))), (q33, .inl (gC G 10, 12, .inl (fun _ => 0)))] H := hP
  have hD : va_D A [(h0, .inr (0, [.int 0, .int 0, .ref q17, .ref q25, .null, .null, .int 0, .null])), (q17, .inl (gC G 10, 12, .inl (fun _ => 0))), (q25, .inl (gC G 10, 12, .inl (fun _ => 0))), (q33, .inl (gC G 10, 12, .inl (fun _ => 0)))] := hD
  refine W.cs (cells' := 3) (slots' := 36) (by omega) (by omega) ?_
  refine va_putF (D := gD G) (ci := 0) (v := .ref q33) (ty := .array .int) (C := RX0) (T := TX0) (N := 8) hx hb hts (huX0) tyX0 tyX0_ok nmX0 hown hK hP hD hS 0 rfl rfl 4 (by decide) (hts _ (List.mem_cons_of_mem _ (mGw_of (i := 314) (by decide +kernel) (by decide +kernel)))) (fun _ h9 => h9) rfl hin rfl (by decide +kernel) rfl rfl (Nat.le_of_ble_eq_true rfl) iX0_35 (fun H locs hP hD hS => ?_)
  have hP : va_P (gD G) vwCl [(h0, .inr (0, [.int 0, .int 0, .ref q17, .ref q25, .ref q33, .null, .int 0, .null])), (q17, .inl (gC G 10, 12, .inl (fun _ => 0))), (q25, .inl (gC G 10, 12, .inl (fun _ => 0))), (q33, .inl (gC G 10, 12, .inl (fun _ => 0)))] H := hP
  have hD : va_D A [(h0, .inr (0, [.int 0, .int 0, .ref q17, .ref q25, .ref q33, .null, .int 0, .null])), (q17, .inl (gC G 10, 12, .inl (fun _ => 0))), (q25, .inl (gC G 10, 12, .inl (fun _ => 0))), (q33, .inl (gC G 10, 12, .inl (fun _ => 0)))] := hD
  refine lv_aload_n hx hb iX0_38 rfl (lv_at hl 0 rfl) ?_
  refine lv_sipush hx hb (v := 400) iX0_39 rfl ?_
  refine va_nw hx hb (atype := .int) (ty := .int) (hts _ (List.mem_cons_of_mem _ (mGw_of (i := 179) (by decide +kernel) (by decide +kernel)))) rfl hK hP hD hS hA (t0 := 0) (cI := gC G 10) rfl (fun _ _ h => ra_int h) (N' := 400) (a0 := (400, .inl (fun _ => 0))) (fun _ => rfl) (by decide) (by decide) (by decide) (Nat.le_of_ble_eq_true rfl) (Nat.le_of_ble_eq_true rfl) iX0_42 (fun q42 H hP hD hS => ?_)
  have hP : va_P (gD G) vwCl [(h0, .inr (0, [.int 0, .int 0, .ref q17, .ref q25, .ref q33, .null, .int 0, .null])), (q17, .inl (gC G 10, 12, .inl (fun _ => 0))), (q25, .inl (gC G 10, 12, .inl (fun _ => 0))), (q33, .inl (gC G 10, 12, .inl (fun _ => 0))), (q42, .inl (gC G 10, 400, .inl (fun _ => 0)))] H := hP
  have hD : va_D A [(h0, .inr (0, [.int 0, .int 0, .ref q17, .ref q25, .ref q33, .null, .int 0, .null])), (q17, .inl (gC G 10, 12, .inl (fun _ => 0))), (q25, .inl (gC G 10, 12, .inl (fun _ => 0))), (q33, .inl (gC G 10, 12, .inl (fun _ => 0))), (q42, .inl (gC G 10, 400, .inl (fun _ => 0)))] := hD
  refine W.cs (cells' := 4) (slots' := 436) (by omega) (by omega) ?_
  refine va_putF (D := gD G) (ci := 0) (v := .ref q42) (ty := .array .int) (C := RX0) (T := TX0) (N := 8) hx hb hts (huX0) tyX0 tyX0_ok nmX0 hown hK hP hD hS 0 rfl rfl 5 (by decide) (hts _ (List.mem_cons_of_mem _ (mGw_of (i := 315) (by decide +kernel) (by decide +kernel)))) (fun _ h9 => h9) rfl hin rfl (by decide +kernel) rfl rfl (Nat.le_of_ble_eq_true rfl) iX0_44 (fun H locs hP hD hS => ?_)
  have hP : va_P (gD G) vwCl [(h0, .inr (0, [.int 0, .int 0, .ref q17, .ref q25, .ref q33, .ref q42, .int 0, .null])), (q17, .inl (gC G 10, 12, .inl (fun _ => 0))), (q25, .inl (gC G 10, 12, .inl (fun _ => 0))), (q33, .inl (gC G 10, 12, .inl (fun _ => 0))), (q42, .inl (gC G 10, 400, .inl (fun _ => 0)))] H := hP
  have hD : va_D A [(h0, .inr (0, [.int 0, .int 0, .ref q17, .ref q25, .ref q33, .ref q42, .int 0, .null])), (q17, .inl (gC G 10, 12, .inl (fun _ => 0))), (q25, .inl (gC G 10, 12, .inl (fun _ => 0))), (q33, .inl (gC G 10, 12, .inl (fun _ => 0))), (q42, .inl (gC G 10, 400, .inl (fun _ => 0)))] := hD
  refine lv_aload_n hx hb iX0_47 rfl (lv_at hl 0 rfl) ?_
  refine lv_iconst hx hb (v := 0) iX0_48 rfl ?_
  refine va_put (D := gD G) (ci := 0) (v := .int 0) (ty := .int) (C := RX0) (T := TX0) (N := 8) hx hb hts (huX0) tyX0 tyX0_ok nmX0 hown hK hP hD hS 0 rfl rfl 6 (by decide) (hts _ (List.mem_cons_of_mem _ (mGw_of (i := 316) (by decide +kernel) (by decide +kernel)))) (fun _ h9 => h9) rfl (by decide +kernel) rfl rfl (Nat.le_of_ble_eq_true rfl) iX0_49 (fun H locs hP hD hS => ?_)
  have hP : va_P (gD G) vwCl [(h0, .inr (0, [.int 0, .int 0, .ref q17, .ref q25, .ref q33, .ref q42, .int 0, .null])), (q17, .inl (gC G 10, 12, .inl (fun _ => 0))), (q25, .inl (gC G 10, 12, .inl (fun _ => 0))), (q33, .inl (gC G 10, 12, .inl (fun _ => 0))), (q42, .inl (gC G 10, 400, .inl (fun _ => 0)))] H := hP
  have hD : va_D A [(h0, .inr (0, [.int 0, .int 0, .ref q17, .ref q25, .ref q33, .ref q42, .int 0, .null])), (q17, .inl (gC G 10, 12, .inl (fun _ => 0))), (q25, .inl (gC G 10, 12, .inl (fun _ => 0))), (q33, .inl (gC G 10, 12, .inl (fun _ => 0))), (q42, .inl (gC G 10, 400, .inl (fun _ => 0)))] := hD
  refine lv_aload_n hx hb iX0_52 rfl (lv_at hl 0 rfl) ?_
  refine lv_bipush hx hb (v := 64) iX0_53 rfl ?_
  refine va_nw hx hb (atype := .int) (ty := .int) (hts _ (List.mem_cons_of_mem _ (mGw_of (i := 179) (by decide +kernel) (by decide +kernel)))) rfl hK hP hD hS hA (t0 := 0) (cI := gC G 10) rfl (fun _ _ h => ra_int h) (N' := 64) (a0 := (64, .inl (fun _ => 0))) (fun _ => rfl) (by decide) (by decide) (by decide) (Nat.le_of_ble_eq_true rfl) (Nat.le_of_ble_eq_true rfl) iX0_55 (fun q55 H hP hD hS => ?_)
  have hP : va_P (gD G) vwCl [(h0, .inr (0, [.int 0, .int 0, .ref q17, .ref q25, .ref q33, .ref q42, .int 0, .null])), (q17, .inl (gC G 10, 12, .inl (fun _ => 0))), (q25, .inl (gC G 10, 12, .inl (fun _ => 0))), (q33, .inl (gC G 10, 12, .inl (fun _ => 0))), (q42, .inl (gC G 10, 400, .inl (fun _ => 0))), (q55, .inl (gC G 10, 64, .inl (fun _ => 0)))] H := hP
  have hD : va_D A [(h0, .inr (0, [.int 0, .int 0, .ref q17, .ref q25, .ref q33, .ref q42, .int 0, .null])), (q17, .inl (gC G 10, 12, .inl (fun _ => 0))), (q25, .inl (gC G 10, 12, .inl (fun _ => 0))), (q33, .inl (gC G 10, 12, .inl (fun _ => 0))), (q42, .inl (gC G 10, 400, .inl (fun _ => 0))), (q55, .inl (gC G 10, 64, .inl (fun _ => 0)))] := hD
  refine W.cs (cells' := 5) (slots' := 500) (by omega) (by omega) ?_
  refine va_putF (D := gD G) (ci := 0) (v := .ref q55) (ty := .array .int) (C := RX0) (T := TX0) (N := 8) hx hb hts (huX0) tyX0 tyX0_ok nmX0 hown hK hP hD hS 0 rfl rfl 7 (by decide) (hts _ (List.mem_cons_of_mem _ (mGw_of (i := 317) (by decide +kernel) (by decide +kernel)))) (fun _ h9 => h9) rfl hin rfl (by decide +kernel) rfl rfl (Nat.le_of_ble_eq_true rfl) iX0_57 (fun H locs hP hD hS => ?_)
  have hP : va_P (gD G) vwCl [(h0, .inr (0, [.int 0, .int 0, .ref q17, .ref q25, .ref q33, .ref q42, .int 0, .ref q55])), (q17, .inl (gC G 10, 12, .inl (fun _ => 0))), (q25, .inl (gC G 10, 12, .inl (fun _ => 0))), (q33, .inl (gC G 10, 12, .inl (fun _ => 0))), (q42, .inl (gC G 10, 400, .inl (fun _ => 0))), (q55, .inl (gC G 10, 64, .inl (fun _ => 0)))] H := hP
  have hD : va_D A [(h0, .inr (0, [.int 0, .int 0, .ref q17, .ref q25, .ref q33, .ref q42, .int 0, .ref q55])), (q17, .inl (gC G 10, 12, .inl (fun _ => 0))), (q25, .inl (gC G 10, 12, .inl (fun _ => 0))), (q33, .inl (gC G 10, 12, .inl (fun _ => 0))), (q42, .inl (gC G 10, 400, .inl (fun _ => 0))), (q55, .inl (gC G 10, 64, .inl (fun _ => 0)))] := hD
  exact W.vret hx hb hr (fun t ht hW => ⟨⟨(fun k => [q17, q25, q33, q42, q55].getD k 0), rfl, trivial, by rw [ht]; exact hP, va_K.moved hW.alike hK, hD⟩, hS.F ht⟩) hS.2.2 iX0_60
theorem iX4_0 : decode cX4_init 0 = .ok (.aload_n 0, 1) := by decide +kernel
theorem iX4_1 : decode cX4_init 1 = .ok (.invokespecial 3, 3) := by decide +kernel
theorem iX4_4 : decode cX4_init 4 = .ok (.aload_n 0, 1) := by decide +kernel
theorem iX4_5 : decode cX4_init 5 = .ok (.iconst 4, 1) := by decide +kernel
theorem iX4_6 : decode cX4_init 6 = .ok (.newarray .int, 2) := by decide +kernel
theorem iX4_8 : decode cX4_init 8 = .ok (.putfield 11, 3) := by decide +kernel
theorem iX4_11 : decode cX4_init 11 = .ok (.aload_n 0, 1) := by decide +kernel
theorem iX4_12 : decode cX4_init 12 = .ok (.iconst 4, 1) := by decide +kernel
theorem iX4_13 : decode cX4_init 13 = .ok (.newarray .int, 2) := by decide +kernel
theorem iX4_15 : decode cX4_init 15 = .ok (.putfield 15, 3) := by decide +kernel
theorem iX4_18 : decode cX4_init 18 = .ok (.aload_n 0, 1) := by decide +kernel
theorem iX4_19 : decode cX4_init 19 = .ok (.bipush 16, 2) := by decide +kernel
theorem iX4_21 : decode cX4_init 21 = .ok (.newarray .boolean, 2) := by decide +kernel
theorem iX4_23 : decode cX4_init 23 = .ok (.putfield 18, 3) := by decide +kernel
theorem iX4_26 : decode cX4_init 26 = .ok (.aload_n 0, 1) := by decide +kernel
theorem iX4_27 : decode cX4_init 27 = .ok (.iconst 0, 1) := by decide +kernel
theorem iX4_28 : decode cX4_init 28 = .ok (.putfield 22, 3) := by decide +kernel
theorem iX4_31 : decode cX4_init 31 = .ok (.return_, 1) := by decide +kernel
def wiX4 : List Cond := .code yX4_init cX4_init 1 none :: mGw
def atX4 (G : mG) (A : Nat → Prop) (h0 : Nat) (u : Nat → Nat) (t : State) : Prop := va_P (gD G) vwCl [(h0, .inr (3, [.ref (u 0), .ref (u 1), .ref (u 2), .int 0])), (u 0, .inl (gC G 10, 4, .inl (fun _ => 0))), (u 1, .inl (gC G 10, 4, .inl (fun _ => 0))), (u 2, .inl (gC G 12, 16, .inl (fun _ => 0)))] t.heap ∧ va_K (gD G) vwCl (mTys G) t ∧ va_D A [(h0, .inr (3, [.ref (u 0), .ref (u 1), .ref (u 2), .int 0])), (u 0, .inl (gC G 10, 4, .inl (fun _ => 0))), (u 1, .inl (gC G 10, 4, .inl (fun _ => 0))), (u 2, .inl (gC G 12, 16, .inl (fun _ => 0)))]
theorem huX4 : ∀ w ∈ u_ws RX4 TX4 4, w ∈ wiX4 := fun w hw => List.mem_cons_of_mem _ ((mCl_ok 3 (RX4, TX4, 4) rfl).1 w hw)
set_option maxHeartbeats 4000000 in
set_option maxRecDepth 100000 in
theorem ctX4 (l : Launch) (G : mG) (h0 sz : Nat) : Met l yX4_init wiX4 ({ frames := 1, cells := 3, slots := 24, locals := 12 }) (va_Pc [.ref h0] (fun U => U.heap.size = sz ∧ va_P (gD G) vwCl [(h0, .inr (3, [.null, .null, .null, .int 0]))] U.heap ∧ va_K (gD G) vwCl (mTys G) U ∧ va_D (fun _ => True) [(h0, .inr (3, [.null, .null, .null, .int 0]))])) (va_Qv (fun _ : Nat → Nat => True) (atX4 G (va_A [(h0, .inr (3, [.null, .null, .null, .int 0]))] sz) h0) (va_A [(h0, .inr (3, [.null, .null, .null, .int 0]))] sz)) 3 24 (va_A [(h0, .inr (3, [.null, .null, .null, .int 0]))] sz) := by
  refine Met.ofW (cc := cX4_init) (maxL := 1) (ret := none) (by decide) rfl ?_
  intro p e s m args below meth c s₁ B hml hv
  obtain ⟨rfl, hsz, hP, hK, hD0⟩ := hv
  have hx := B.exec
  have hb := B.bytes
  have hr := B.returns
  have hts := atoms_spec (ws := wiX4) B.pre
  have hown : s.vm.findClass RX4 = some m.cls := findClass_of_methodNamed B.named
  have hin : meth.name = "<init>" := (name_of_methodNamed B.named B.method).1
  subst hsz
  have hD := hD0.self (sz := s.heap.size)
  generalize hAe : va_A [(h0, .inr (3, [.null, .null, .null, .int 0]))] s.heap.size = A at hD ⊢
  have hA : ∀ q : Nat, s.heap.size ≤ q → A q := fun q h => by rw [← hAe]; exact Or.inr h
  have hS : va_S A s.heap s.heap [] := va_S.rf
  have hP : va_P (gD G) vwCl [(h0, .inr (3, [.null, .null, .null, .int 0]))] s.heap := hP
  have hl := lv_entry ([.ref h0]) (n := 1) (Nat.le_of_ble_eq_true rfl)
  rw [lg_entry_eq]
  generalize (lg_sl ([.ref h0]) ++ List.replicate (1 - (lg_sl ([.ref h0])).length) Slot.unset).toArray = ls at hl ⊢
  have hl : lv_has ls 1 [(0, .ref h0)] := hl
  refine lv_aload_n hx hb iX4_0 rfl (lv_at hl 0 rfl) ?_
  refine W.objInit hx hb hown (hts _ (List.mem_cons_of_mem _ (mGw_of (i := 399) (by decide +kernel) (by decide +kernel)))) (hts _ (List.mem_cons_of_mem _ (mGw_of (i := 152) (by decide +kernel) (by decide +kernel)))) (hts _ (List.mem_cons_of_mem _ (mGw_of (i := 153) (by decide +kernel) (by decide +kernel)))) rfl (by rw [hml]; exact hl.1) rfl iX4_1 (Nat.le_of_ble_eq_true rfl) (Nat.le_of_ble_eq_true rfl) ?_
  refine W.eq (g2 := F0 m 4 ls []) rfl ?_
  refine lv_aload_n hx hb iX4_4 rfl (lv_at hl 0 rfl) ?_
  refine lv_iconst hx hb (v := 4) iX4_5 rfl ?_
  refine va_nw hx hb (atype := .int) (ty := .int) (hts _ (List.mem_cons_of_mem _ (mGw_of (i := 179) (by decide +kernel) (by decide +kernel)))) rfl hK hP hD hS hA (t0 := 0) (cI := gC G 10) rfl (fun _ _ h => ra_int h) (N' := 4) (a0 := (4, .inl (fun _ => 0))) (fun _ => rfl) (by decide) (by decide) (by decide) (Nat.le_of_ble_eq_true rfl) (Nat.le_of_ble_eq_true rfl) iX4_6 (fun q6 H hP hD hS => ?_)
  have hP : va_P (gD G) vwCl [(h0, .inr (3, [.null, .null, .null, .int 0])), (q6, .inl (gC G 10, 4, .inl (fun _ => 0)))] H := hP
  have hD : va_D A [(h0, .inr (3, [.null, .null, .null, .int 0])), (q6, .inl (gC G 10, 4, .inl (fun _ => 0)))] := hD
  refine W.cs (cells' := 1) (slots' := 4) (by omega) (by omega) ?_
  refine va_putF (D := gD G) (ci := 3) (v := .ref q6) (ty := .array .int) (C := RX4) (T := TX4) (N := 4) hx hb hts (huX4) tyX4 tyX4_ok nmX4 hown hK hP hD hS 0 rfl rfl 0 (by decide) (hts _ (List.mem_cons_of_mem _ (mGw_of (i := 400) (by decide +kernel) (by decide +kernel)))) (fun _ h9 => h9) rfl hin rfl (by decide +kernel) rfl rfl (Nat.le_of_ble_eq_true rfl) iX4_8 (fun H locs hP hD hS => ?_)
  have hP : va_P (gD G) vwCl [(h0, .inr (3, [.ref q6, .null, .null, .int 0])), (q6, .inl (gC G 10, 4, .inl (fun _ => 0)))] H := hP
  have hD : va_D A [(h0, .inr (3, [.ref q6, .null, .null, .int 0])), (q6, .inl (gC G 10, 4, .inl (fun _ => 0)))] := hD
  refine lv_aload_n hx hb iX4_11 rfl (lv_at hl 0 rfl) ?_
  refine lv_iconst hx hb (v := 4) iX4_12 rfl ?_
  refine va_nw hx hb (atype := .int) (ty := .int) (hts _ (List.mem_cons_of_mem _ (mGw_of (i := 179) (by decide +kernel) (by decide +kernel)))) rfl hK hP hD hS hA (t0 := 0) (cI := gC G 10) rfl (fun _ _ h => ra_int h) (N' := 4) (a0 := (4, .inl (fun _ => 0))) (fun _ => rfl) (by decide) (by decide) (by decide) (Nat.le_of_ble_eq_true rfl) (Nat.le_of_ble_eq_true rfl) iX4_13 (fun q13 H hP hD hS => ?_)
  have hP : va_P (gD G) vwCl [(h0, .inr (3, [.ref q6, .null, .null, .int 0])), (q6, .inl (gC G 10, 4, .inl (fun _ => 0))), (q13, .inl (gC G 10, 4, .inl (fun _ => 0)))] H := hP
  have hD : va_D A [(h0, .inr (3, [.ref q6, .null, .null, .int 0])), (q6, .inl (gC G 10, 4, .inl (fun _ => 0))), (q13, .inl (gC G 10, 4, .inl (fun _ => 0)))] := hD
  refine W.cs (cells' := 2) (slots' := 8) (by omega) (by omega) ?_
  refine va_putF (D := gD G) (ci := 3) (v := .ref q13) (ty := .array .int) (C := RX4) (T := TX4) (N := 4) hx hb hts (huX4) tyX4 tyX4_ok nmX4 hown hK hP hD hS 0 rfl rfl 1 (by decide) (hts _ (List.mem_cons_of_mem _ (mGw_of (i := 401) (by decide +kernel) (by decide +kernel)))) (fun _ h9 => h9) rfl hin rfl (by decide +kernel) rfl rfl (Nat.le_of_ble_eq_true rfl) iX4_15 (fun H locs hP hD hS => ?_)
  have hP : va_P (gD G) vwCl [(h0, .inr (3, [.ref q6, .ref q13, .null, .int 0])), (q6, .inl (gC G 10, 4, .inl (fun _ => 0))), (q13, .inl (gC G 10, 4, .inl (fun _ => 0)))] H := hP
  have hD : va_D A [(h0, .inr (3, [.ref q6, .ref q13, .null, .int 0])), (q6, .inl (gC G 10, 4, .inl (fun _ => 0))), (q13, .inl (gC G 10, 4, .inl (fun _ => 0)))] := hD
  refine lv_aload_n hx hb iX4_18 rfl (lv_at hl 0 rfl) ?_
  refine lv_bipush hx hb (v := 16) iX4_19 rfl ?_
  refine va_nw hx hb (atype := .boolean) (ty := .boolean) (hts _ (List.mem_cons_of_mem _ (mGw_of (i := 413) (by decide +kernel) (by decide +kernel)))) rfl hK hP hD hS hA (t0 := 2) (cI := gC G 12) rfl (fun _ _ h => ra_bool h) (N' := 16) (a0 := (16, .inl (fun _ => 0))) (fun _ => rfl) (by decide) (by decide) (by decide) (Nat.le_of_ble_eq_true rfl) (Nat.le_of_ble_eq_true rfl) iX4_21 (fun q21 H hP hD hS => ?_)
  have hP : va_P (gD G) vwCl [(h0, .inr (3, [.ref q6, .ref q13, .null, .int 0])), (q6, .inl (gC G 10, 4, .inl (fun _ => 0))), (q13, .inl (gC G 10, 4, .inl (fun _ => 0))), (q21, .inl (gC G 12, 16, .inl (fun _ => 0)))] H := hP
  have hD : va_D A [(h0, .inr (3, [.ref q6, .ref q13, .null, .int 0])), (q6, .inl (gC G 10, 4, .inl (fun _ => 0))), (q13, .inl (gC G 10, 4, .inl (fun _ => 0))), (q21, .inl (gC G 12, 16, .inl (fun _ => 0)))] := hD
  refine W.cs (cells' := 3) (slots' := 24) (by omega) (by omega) ?_
  refine va_putF (D := gD G) (ci := 3) (v := .ref q21) (ty := .array .boolean) (C := RX4) (T := TX4) (N := 4) hx hb hts (huX4) tyX4 tyX4_ok nmX4 hown hK hP hD hS 0 rfl rfl 2 (by decide) (hts _ (List.mem_cons_of_mem _ (mGw_of (i := 402) (by decide +kernel) (by decide +kernel)))) (fun _ h9 => h9) rfl hin rfl (by decide +kernel) rfl rfl (Nat.le_of_ble_eq_true rfl) iX4_23 (fun H locs hP hD hS => ?_)
  have hP : va_P (gD G) vwCl [(h0, .inr (3, [.ref q6, .ref q13, .ref q21, .int 0])), (q6, .inl (gC G 10, 4, .inl (fun _ => 0))), (q13, .inl (gC G 10, 4, .inl (fun _ => 0))), (q21, .inl (gC G 12, 16, .inl (fun _ => 0)))] H := hP
  have hD : va_D A [(h0, .inr (3, [.ref q6, .ref q13, .ref q21, .int 0])), (q6, .inl (gC G 10, 4, .inl (fun _ => 0))), (q13, .inl (gC G 10, 4, .inl (fun _ => 0))), (q21, .inl (gC G 12, 16, .inl (fun _ => 0)))] := hD
  refine lv_aload_n hx hb iX4_26 rfl (lv_at hl 0 rfl) ?_
  refine lv_iconst hx hb (v := 0) iX4_27 rfl ?_
  refine va_put (D := gD G) (ci := 3) (v := .int 0) (ty := .int) (C := RX4) (T := TX4) (N := 4) hx hb hts (huX4) tyX4 tyX4_ok nmX4 hown hK hP hD hS 0 rfl rfl 3 (by decide) (hts _ (List.mem_cons_of_mem _ (mGw_of (i := 403) (by decide +kernel) (by decide +kernel)))) (fun _ h9 => h9) rfl (by decide +kernel) rfl rfl (Nat.le_of_ble_eq_true rfl) iX4_28 (fun H locs hP hD hS => ?_)
  have hP : va_P (gD G) vwCl [(h0, .inr (3, [.ref q6, .ref q13, .ref q21, .int 0])), (q6, .inl (gC G 10, 4, .inl (fun _ => 0))), (q13, .inl (gC G 10, 4, .inl (fun _ => 0))), (q21, .inl (gC G 12, 16, .inl (fun _ => 0)))] H := hP
  have hD : va_D A [(h0, .inr (3, [.ref q6, .ref q13, .ref q21, .int 0])), (q6, .inl (gC G 10, 4, .inl (fun _ => 0))), (q13, .inl (gC G 10, 4, .inl (fun _ => 0))), (q21, .inl (gC G 12, 16, .inl (fun _ => 0)))] := hD
  exact W.vret hx hb hr (fun t ht hW => ⟨⟨(fun k => [q6, q13, q21].getD k 0), rfl, trivial, by rw [ht]; exact hP, va_K.moved hW.alike hK, hD⟩, hS.F ht⟩) hS.2.2 iX4_31
theorem iX5_0 : decode cX5_init 0 = .ok (.aload_n 0, 1) := by decide +kernel
theorem iX5_1 : decode cX5_init 1 = .ok (.invokespecial 3, 3) := by decide +kernel
theorem iX5_4 : decode cX5_init 4 = .ok (.aload_n 0, 1) := by decide +kernel
theorem iX5_5 : decode cX5_init 5 = .ok (.sipush 256, 3) := by decide +kernel
theorem iX5_8 : decode cX5_init 8 = .ok (.newarray .int, 2) := by decide +kernel
theorem iX5_10 : decode cX5_init 10 = .ok (.putfield 9, 3) := by decide +kernel
theorem iX5_13 : decode cX5_init 13 = .ok (.aload_n 0, 1) := by decide +kernel
theorem iX5_14 : decode cX5_init 14 = .ok (.sipush 3328, 3) := by decide +kernel
theorem iX5_17 : decode cX5_init 17 = .ok (.newarray .int, 2) := by decide +kernel
theorem iX5_19 : decode cX5_init 19 = .ok (.putfield 15, 3) := by decide +kernel
theorem iX5_22 : decode cX5_init 22 = .ok (.aload_n 0, 1) := by decide +kernel
theorem iX5_23 : decode cX5_init 23 = .ok (.iconst 0, 1) := by decide +kernel
theorem iX5_24 : decode cX5_init 24 = .ok (.putfield 18, 3) := by decide +kernel
theorem iX5_27 : decode cX5_init 27 = .ok (.return_, 1) := by decide +kernel
def wiX5 : List Cond := .code yX5_init cX5_init 1 none :: mGw
def atX5 (G : mG) (A : Nat → Prop) (h0 : Nat) (u : Nat → Nat) (t : State) : Prop := va_P (gD G) vwCl [(h0, .inr (4, [.ref (u 0), .ref (u 1), .int 0])), (u 0, .inl (gC G 10, 256, .inl (fun _ => 0))), (u 1, .inl (gC G 10, 3328, .inl (fun _ => 0)))] t.heap ∧ va_K (gD G) vwCl (mTys G) t ∧ va_D A [(h0, .inr (4, [.ref (u 0), .ref (u 1), .int 0])), (u 0, .inl (gC G 10, 256, .inl (fun _ => 0))), (u 1, .inl (gC G 10, 3328, .inl (fun _ => 0)))]
theorem huX5 : ∀ w ∈ u_ws RX5 TX5 3, w ∈ wiX5 := fun w hw => List.mem_cons_of_mem _ ((mCl_ok 4 (RX5, TX5, 3) rfl).1 w hw)
set_option maxHeartbeats 4000000 in
set_option maxRecDepth 100000 in
theorem ctX5 (l : Launch) (G : mG) (h0 sz : Nat) : Met l yX5_init wiX5 ({ frames := 1, cells := 2, slots := 3584, locals := 12 }) (va_Pc [.ref h0] (fun U => U.heap.size = sz ∧ va_P (gD G) vwCl [(h0, .inr (4, [.null, .null, .int 0]))] U.heap ∧ va_K (gD G) vwCl (mTys G) U ∧ va_D (fun _ => True) [(h0, .inr (4, [.null, .null, .int 0]))])) (va_Qv (fun _ : Nat → Nat => True) (atX5 G (va_A [(h0, .inr (4, [.null, .null, .int 0]))] sz) h0) (va_A [(h0, .inr (4, [.null, .null, .int 0]))] sz)) 2 3584 (va_A [(h0, .inr (4, [.null, .null, .int 0]))] sz) := by
  refine Met.ofW (cc := cX5_init) (maxL := 1) (ret := none) (by decide) rfl ?_
  intro p e s m args below meth c s₁ B hml hv
  obtain ⟨rfl, hsz, hP, hK, hD0⟩ := hv
  have hx := B.exec
  have hb := B.bytes
  have hr := B.returns
  have hts := atoms_spec (ws := wiX5) B.pre
  have hown : s.vm.findClass RX5 = some m.cls := findClass_of_methodNamed B.named
  have hin : meth.name = "<init>" := (name_of_methodNamed B.named B.method).1
  subst hsz
  have hD := hD0.self (sz := s.heap.size)
  generalize hAe : va_A [(h0, .inr (4, [.null, .null, .int 0]))] s.heap.size = A at hD ⊢
  have hA : ∀ q : Nat, s.heap.size ≤ q → A q := fun q h => by rw [← hAe]; exact Or.inr h
  have hS : va_S A s.heap s.heap [] := va_S.rf
  have hP : va_P (gD G) vwCl [(h0, .inr (4, [.null, .null, .int 0]))] s.heap := hP
  have hl := lv_entry ([.ref h0]) (n := 1) (Nat.le_of_ble_eq_true rfl)
  rw [lg_entry_eq]
  generalize (lg_sl ([.ref h0]) ++ List.replicate (1 - (lg_sl ([.ref h0])).length) Slot.unset).toArray = ls at hl ⊢
  have hl : lv_has ls 1 [(0, .ref h0)] := hl
  refine lv_aload_n hx hb iX5_0 rfl (lv_at hl 0 rfl) ?_
  refine W.objInit hx hb hown (hts _ (List.mem_cons_of_mem _ (mGw_of (i := 383) (by decide +kernel) (by decide +kernel)))) (hts _ (List.mem_cons_of_mem _ (mGw_of (i := 152) (by decide +kernel) (by decide +kernel)))) (hts _ (List.mem_cons_of_mem _ (mGw_of (i := 153) (by decide +kernel) (by decide +kernel)))) rfl (by rw [hml]; exact hl.1) rfl iX5_1 (Nat.le_of_ble_eq_true rfl) (Nat.le_of_ble_eq_true rfl) ?_
  refine W.eq (g2 := F0 m 4 ls []) rfl ?_
  refine lv_aload_n hx hb iX5_4 rfl (lv_at hl 0 rfl) ?_
  refine lv_sipush hx hb (v := 256) iX5_5 rfl ?_
  refine va_nw hx hb (atype := .int) (ty := .int) (hts _ (List.mem_cons_of_mem _ (mGw_of (i := 179) (by decide +kernel) (by decide +kernel)))) rfl hK hP hD hS hA (t0 := 0) (cI := gC G 10) rfl (fun _ _ h => ra_int h) (N' := 256) (a0 := (256, .inl (fun _ => 0))) (fun _ => rfl) (by decide) (by decide) (by decide) (Nat.le_of_ble_eq_true rfl) (Nat.le_of_ble_eq_true rfl) iX5_8 (fun q8 H hP hD hS => ?_)
  have hP : va_P (gD G) vwCl [(h0, .inr (4, [.null, .null, .int 0])), (q8, .inl (gC G 10, 256, .inl (fun _ => 0)))] H := hP
  have hD : va_D A [(h0, .inr (4, [.null, .null, .int 0])), (q8, .inl (gC G 10, 256, .inl (fun _ => 0)))] := hD
  refine W.cs (cells' := 1) (slots' := 256) (by omega) (by omega) ?_
  refine va_putF (D := gD G) (ci := 4) (v := .ref q8) (ty := .array .int) (C := RX5) (T := TX5) (N := 3) hx hb hts (huX5) tyX5 tyX5_ok nmX5 hown hK hP hD hS 0 rfl rfl 0 (by decide) (hts _ (List.mem_cons_of_mem _ (mGw_of (i := 384) (by decide +kernel) (by decide +kernel)))) (fun _ h9 => h9) rfl hin rfl (by decide +kernel) rfl rfl (Nat.le_of_ble_eq_true rfl) iX5_10 (fun H locs hP hD hS => ?_)
  have hP : va_P (gD G) vwCl [(h0, .inr (4, [.ref q8, .null, .int 0])), (q8, .inl (gC G 10, 256, .inl (fun _ => 0)))] H := hP
  have hD : va_D A [(h0, .inr (4, [.ref q8, .null, .int 0])), (q8, .inl (gC G 10, 256, .inl (fun _ => 0)))] := hD
  refine lv_aload_n hx hb iX5_13 rfl (lv_at hl 0 rfl) ?_
  refine lv_sipush hx hb (v := 3328) iX5_14 rfl ?_
  refine va_nw hx hb (atype := .int) (ty := .int) (hts _ (List.mem_cons_of_mem _ (mGw_of (i := 179) (by decide +kernel) (by decide +kernel)))) rfl hK hP hD hS hA (t0 := 0) (cI := gC G 10) rfl (fun _ _ h => ra_int h) (N' := 3328) (a0 := (3328, .inl (fun _ => 0))) (fun _ => rfl) (by decide) (by decide) (by decide) (Nat.le_of_ble_eq_true rfl) (Nat.le_of_ble_eq_true rfl) iX5_17 (fun q17 H hP hD hS => ?_)
  have hP : va_P (gD G) vwCl [(h0, .inr (4, [.ref q8, .null, .int 0])), (q8, .inl (gC G 10, 256, .inl (fun _ => 0))), (q17, .inl (gC G 10, 3328, .inl (fun _ => 0)))] H := hP
  have hD : va_D A [(h0, .inr (4, [.ref q8, .null, .int 0])), (q8, .inl (gC G 10, 256, .inl (fun _ => 0))), (q17, .inl (gC G 10, 3328, .inl (fun _ => 0)))] := hD
  refine W.cs (cells' := 2) (slots' := 3584) (by omega) (by omega) ?_
  refine va_putF (D := gD G) (ci := 4) (v := .ref q17) (ty := .array .int) (C := RX5) (T := TX5) (N := 3) hx hb hts (huX5) tyX5 tyX5_ok nmX5 hown hK hP hD hS 0 rfl rfl 1 (by decide) (hts _ (List.mem_cons_of_mem _ (mGw_of (i := 385) (by decide +kernel) (by decide +kernel)))) (fun _ h9 => h9) rfl hin rfl (by decide +kernel) rfl rfl (Nat.le_of_ble_eq_true rfl) iX5_19 (fun H locs hP hD hS => ?_)
  have hP : va_P (gD G) vwCl [(h0, .inr (4, [.ref q8, .ref q17, .int 0])), (q8, .inl (gC G 10, 256, .inl (fun _ => 0))), (q17, .inl (gC G 10, 3328, .inl (fun _ => 0)))] H := hP
  have hD : va_D A [(h0, .inr (4, [.ref q8, .ref q17, .int 0])), (q8, .inl (gC G 10, 256, .inl (fun _ => 0))), (q17, .inl (gC G 10, 3328, .inl (fun _ => 0)))] := hD
  refine lv_aload_n hx hb iX5_22 rfl (lv_at hl 0 rfl) ?_
  refine lv_iconst hx hb (v := 0) iX5_23 rfl ?_
  refine va_put (D := gD G) (ci := 4) (v := .int 0) (ty := .int) (C := RX5) (T := TX5) (N := 3) hx hb hts (huX5) tyX5 tyX5_ok nmX5 hown hK hP hD hS 0 rfl rfl 2 (by decide) (hts _ (List.mem_cons_of_mem _ (mGw_of (i := 386) (by decide +kernel) (by decide +kernel)))) (fun _ h9 => h9) rfl (by decide +kernel) rfl rfl (Nat.le_of_ble_eq_true rfl) iX5_24 (fun H locs hP hD hS => ?_)
  have hP : va_P (gD G) vwCl [(h0, .inr (4, [.ref q8, .ref q17, .int 0])), (q8, .inl (gC G 10, 256, .inl (fun _ => 0))), (q17, .inl (gC G 10, 3328, .inl (fun _ => 0)))] H := hP
  have hD : va_D A [(h0, .inr (4, [.ref q8, .ref q17, .int 0])), (q8, .inl (gC G 10, 256, .inl (fun _ => 0))), (q17, .inl (gC G 10, 3328, .inl (fun _ => 0)))] := hD
  exact W.vret hx hb hr (fun t ht hW => ⟨⟨(fun k => [q8, q17].getD k 0), rfl, trivial, by rw [ht]; exact hP, va_K.moved hW.alike hK, hD⟩, hS.F ht⟩) hS.2.2 iX5_27
theorem iX6_0 : decode cX6_init 0 = .ok (.aload_n 0, 1) := by decide +kernel
theorem iX6_1 : decode cX6_init 1 = .ok (.invokespecial 3, 3) := by decide +kernel
theorem iX6_4 : decode cX6_init 4 = .ok (.aload_n 0, 1) := by decide +kernel
theorem iX6_5 : decode cX6_init 5 = .ok (.sipush 256, 3) := by decide +kernel
theorem iX6_8 : decode cX6_init 8 = .ok (.newarray .int, 2) := by decide +kernel
theorem iX6_10 : decode cX6_init 10 = .ok (.putfield 9, 3) := by decide +kernel
theorem iX6_13 : decode cX6_init 13 = .ok (.aload_n 0, 1) := by decide +kernel
theorem iX6_14 : decode cX6_init 14 = .ok (.sipush 2048, 3) := by decide +kernel
theorem iX6_17 : decode cX6_init 17 = .ok (.newarray .int, 2) := by decide +kernel
theorem iX6_19 : decode cX6_init 19 = .ok (.putfield 15, 3) := by decide +kernel
theorem iX6_22 : decode cX6_init 22 = .ok (.aload_n 0, 1) := by decide +kernel
theorem iX6_23 : decode cX6_init 23 = .ok (.bipush 8, 2) := by decide +kernel
theorem iX6_25 : decode cX6_init 25 = .ok (.newarray .int, 2) := by decide +kernel
theorem iX6_27 : decode cX6_init 27 = .ok (.putfield 18, 3) := by decide +kernel
theorem iX6_30 : decode cX6_init 30 = .ok (.aload_n 0, 1) := by decide +kernel
theorem iX6_31 : decode cX6_init 31 = .ok (.sipush 793, 3) := by decide +kernel
theorem iX6_34 : decode cX6_init 34 = .ok (.newarray .int, 2) := by decide +kernel
theorem iX6_36 : decode cX6_init 36 = .ok (.putfield 21, 3) := by decide +kernel
theorem iX6_39 : decode cX6_init 39 = .ok (.aload_n 0, 1) := by decide +kernel
theorem iX6_40 : decode cX6_init 40 = .ok (.iconst 0, 1) := by decide +kernel
theorem iX6_41 : decode cX6_init 41 = .ok (.putfield 24, 3) := by decide +kernel
theorem iX6_44 : decode cX6_init 44 = .ok (.return_, 1) := by decide +kernel
def wiX6 : List Cond := .code yX6_init cX6_init 1 none :: mGw
def atX6 (G : mG) (A : Nat → Prop) (h0 : Nat) (u : Nat → Nat) (t : State) : Prop := va_P (gD G) vwCl [(h0, .inr (5, [.ref (u 0), .ref (u 1), .ref (u 2), .ref (u 3), .int 0])), (u 0, .inl (gC G 10, 256, .inl (fun _ => 0))), (u 1, .inl (gC G 10, 2048, .inl (fun _ => 0))), (u 2, .inl (gC G 10, 8, .inl (fun _ => 0))), (u 3, .inl (gC G 10, 793, .inl (fun _ => 0)))] t.heap ∧ va_K (gD G) vwCl (mTys G) t ∧ va_D A [(h0, .inr (5, [.ref (u 0), .ref (u 1), .ref (u 2), .ref (u 3), .int 0])), (u 0, .inl (gC G 10, 256, .inl (fun _ => 0))), (u 1, .inl (gC G 10, 2048, .inl (fun _ => 0))), (u 2, .inl (gC G 10, 8, .inl (fun _ => 0))), (u 3, .inl (gC G 10, 793, .inl (fun _ => 0)))]
theorem huX6 : ∀ w ∈ u_ws RX6 TX6 5, w ∈ wiX6 := fun w hw => List.mem_cons_of_mem _ ((mCl_ok 5 (RX6, TX6, 5) rfl).1 w hw)
set_option maxHeartbeats 4000000 in
set_option maxRecDepth 100000 in
theorem ctX6 (l : Launch) (G : mG) (h0 sz : Nat) : Met l yX6_init wiX6 ({ frames := 1, cells := 4, slots := 3105, locals := 12 }) (va_Pc [.ref h0] (fun U => U.heap.size = sz ∧ va_P (gD G) vwCl [(h0, .inr (5, [.null, .null, .null, .null, .int 0]))] U.heap ∧ va_K (gD G) vwCl (mTys G) U ∧ va_D (fun _ => True) [(h0, .inr (5, [.null, .null, .null, .null, .int 0]))])) (va_Qv (fun _ : Nat → Nat => True) (atX6 G (va_A [(h0, .inr (5, [.null, .null, .null, .null, .int 0]))] sz) h0) (va_A [(h0, .inr (5, [.null, .null, .null, .null, .int 0]))] sz)) 4 3105 (va_A [(h0, .inr (5, [.null, .null, .null, .null, .int 0]))] sz) := by
  refine Met.ofW (cc := cX6_init) (maxL := 1) (ret := none) (by decide) rfl ?_
  intro p e s m args below meth c s₁ B hml hv
  obtain ⟨rfl, hsz, hP, hK, hD0⟩ := hv
  have hx := B.exec
  have hb := B.bytes
  have hr := B.returns
  have hts := atoms_spec (ws := wiX6) B.pre
  have hown : s.vm.findClass RX6 = some m.cls := findClass_of_methodNamed B.named
  have hin : meth.name = "<init>" := (name_of_methodNamed B.named B.method).1
  subst hsz
  have hD := hD0.self (sz := s.heap.size)
  generalize hAe : va_A [(h0, .inr (5, [.null, .null, .null, .null, .int 0]))] s.heap.size = A at hD ⊢
  have hA : ∀ q : Nat, s.heap.size ≤ q → A q := fun q h => by rw [← hAe]; exact Or.inr h
  have hS : va_S A s.heap s.heap [] := va_S.rf
  have hP : va_P (gD G) vwCl [(h0, .inr (5, [.null, .null, .null, .null, .int 0]))] s.heap := hP
  have hl := lv_entry ([.ref h0]) (n := 1) (Nat.le_of_ble_eq_true rfl)
  rw [lg_entry_eq]
  generalize (lg_sl ([.ref h0]) ++ List.replicate (1 - (lg_sl ([.ref h0])).length) Slot.unset).toArray = ls at hl ⊢
  have hl : lv_has ls 1 [(0, .ref h0)] := hl
  refine lv_aload_n hx hb iX6_0 rfl (lv_at hl 0 rfl) ?_
  refine W.objInit hx hb hown (hts _ (List.mem_cons_of_mem _ (mGw_of (i := 360) (by decide +kernel) (by decide +kernel)))) (hts _ (List.mem_cons_of_mem _ (mGw_of (i := 152) (by decide +kernel) (by decide +kernel)))) (hts _ (List.mem_cons_of_mem _ (mGw_of (i := 153) (by decide +kernel) (by decide +kernel)))) rfl (by rw [hml]; exact hl.1) rfl iX6_1 (Nat.le_of_ble_eq_true rfl) (Nat.le_of_ble_eq_true rfl) ?_
  refine W.eq (g2 := F0 m 4 ls []) rfl ?_
  refine lv_aload_n hx hb iX6_4 rfl (lv_at hl 0 rfl) ?_
  refine lv_sipush hx hb (v := 256) iX6_5 rfl ?_
  refine va_nw hx hb (atype := .int) (ty := .int) (hts _ (List.mem_cons_of_mem _ (mGw_of (i := 179) (by decide +kernel) (by decide +kernel)))) rfl hK hP hD hS hA (t0 := 0) (cI := gC G 10) rfl (fun _ _ h => ra_int h) (N' := 256) (a0 := (256, .inl (fun _ => 0))) (fun _ => rfl) (by decide) (by decide) (by decide) (Nat.le_of_ble_eq_true rfl) (Nat.le_of_ble_eq_true rfl) iX6_8 (fun q8 H hP hD hS => ?_)
  have hP : va_P (gD G) vwCl [(h0, .inr (5, [.null, .null, .null, .null, .int 0])), (q8, .inl (gC G 10, 256, .inl (fun _ => 0)))] H := hP
  have hD : va_D A [(h0, .inr (5, [.null, .null, .null, .null, .int 0])), (q8, .inl (gC G 10, 256, .inl (fun _ => 0)))] := hD
  refine W.cs (cells' := 1) (slots' := 256) (by omega) (by omega) ?_
  refine va_putF (D := gD G) (ci := 5) (v := .ref q8) (ty := .array .int) (C := RX6) (T := TX6) (N := 5) hx hb hts (huX6) tyX6 tyX6_ok nmX6 hown hK hP hD hS 0 rfl rfl 0 (by decide) (hts _ (List.mem_cons_of_mem _ (mGw_of (i := 361) (by decide +kernel) (by decide +kernel)))) (fun _ h9 => h9) rfl hin rfl (by decide +kernel) rfl rfl (Nat.le_of_ble_eq_true rfl) iX6_10 (fun H locs hP hD hS => ?_)
  have hP : va_P (gD G) vwCl [(h0, .inr (5, [.ref q8, .null, .null, .null, .int 0])), (q8, .inl (gC G 10, 256, .inl (fun _ => 0)))] H := hP
  have hD : va_D A [(h0, .inr (5, [.ref q8, .null, .null, .null, .int 0])), (q8, .inl (gC G 10, 256, .inl (fun _ => 0)))] := hD
  refine lv_aload_n hx hb iX6_13 rfl (lv_at hl 0 rfl) ?_
  refine lv_sipush hx hb (v := 2048) iX6_14 rfl ?_
  refine va_nw hx hb (atype := .int) (ty := .int) (hts _ (List.mem_cons_of_mem _ (mGw_of (i := 179) (by decide +kernel) (by decide +kernel)))) rfl hK hP hD hS hA (t0 := 0) (cI := gC G 10) rfl (fun _ _ h => ra_int h) (N' := 2048) (a0 := (2048, .inl (fun _ => 0))) (fun _ => rfl) (by decide) (by decide) (by decide) (Nat.le_of_ble_eq_true rfl) (Nat.le_of_ble_eq_true rfl) iX6_17 (fun q17 H hP hD hS => ?_)
  have hP : va_P (gD G) vwCl [(h0, .inr (5, [.ref q8, .null, .null, .null, .int 0])), (q8, .inl (gC G 10, 256, .inl (fun _ => 0))), (q17, .inl (gC G 10, 2048, .inl (fun _ => 0)))] H := hP
  have hD : va_D A [(h0, .inr (5, [.ref q8, .null, .null, .null, .int 0])), (q8, .inl (gC G 10, 256, .inl (fun _ => 0))), (q17, .inl (gC G 10, 2048, .inl (fun _ => 0)))] := hD
  refine W.cs (cells' := 2) (slots' := 2304) (by omega) (by omega) ?_
  refine va_putF (D := gD G) (ci := 5) (v := .ref q17) (ty := .array .int) (C := RX6) (T := TX6) (N := 5) hx hb hts (huX6) tyX6 tyX6_ok nmX6 hown hK hP hD hS 0 rfl rfl 1 (by decide) (hts _ (List.mem_cons_of_mem _ (mGw_of (i := 362) (by decide +kernel) (by decide +kernel)))) (fun _ h9 => h9) rfl hin rfl (by decide +kernel) rfl rfl (Nat.le_of_ble_eq_true rfl) iX6_19 (fun H locs hP hD hS => ?_)
  have hP : va_P (gD G) vwCl [(h0, .inr (5, [.ref q8, .ref q17, .null, .null, .int 0])), (q8, .inl (gC G 10, 256, .inl (fun _ => 0))), (q17, .inl (gC G 10, 2048, .inl (fun _ => 0)))] H := hP
  have hD : va_D A [(h0, .inr (5, [.ref q8, .ref q17, .null, .null, .int 0])), (q8, .inl (gC G 10, 256, .inl (fun _ => 0))), (q17, .inl (gC G 10, 2048, .inl (fun _ => 0)))] := hD
  refine lv_aload_n hx hb iX6_22 rfl (lv_at hl 0 rfl) ?_
  refine lv_bipush hx hb (v := 8) iX6_23 rfl ?_
  refine va_nw hx hb (atype := .int) (ty := .int) (hts _ (List.mem_cons_of_mem _ (mGw_of (i := 179) (by decide +kernel) (by decide +kernel)))) rfl hK hP hD hS hA (t0 := 0) (cI := gC G 10) rfl (fun _ _ h => ra_int h) (N' := 8) (a0 := (8, .inl (fun _ => 0))) (fun _ => rfl) (by decide) (by decide) (by decide) (Nat.le_of_ble_eq_true rfl) (Nat.le_of_ble_eq_true rfl) iX6_25 (fun q25 H hP hD hS => ?_)
  have hP : va_P (gD G) vwCl [(h0, .inr (5, [.ref q8, .ref q17, .null, .null, .int 0])), (q8, .inl (gC G 10, 256, .inl (fun _ => 0))), (q17, .inl (gC G 10, 2048, .inl (fun _ => 0))), (q25, .inl (gC G 10, 8, .inl (fun _ => 0)))] H := hP
  have hD : va_D A [(h0, .inr (5, [.ref q8, .ref q17, .null, .null, .int 0])), (q8, .inl (gC G 10, 256, .inl (fun _ => 0))), (q17, .inl (gC G 10, 2048, .inl (fun _ => 0))), (q25, .inl (gC G 10, 8, .inl (fun _ => 0)))] := hD
  refine W.cs (cells' := 3) (slots' := 2312) (by omega) (by omega) ?_
  refine va_putF (D := gD G) (ci := 5) (v := .ref q25) (ty := .array .int) (C := RX6) (T := TX6) (N := 5) hx hb hts (huX6) tyX6 tyX6_ok nmX6 hown hK hP hD hS 0 rfl rfl 2 (by decide) (hts _ (List.mem_cons_of_mem _ (mGw_of (i := 363) (by decide +kernel) (by decide +kernel)))) (fun _ h9 => h9) rfl hin rfl (by decide +kernel) rfl rfl (Nat.le_of_ble_eq_true rfl) iX6_27 (fun H locs hP hD hS => ?_)
  have hP : va_P (gD G) vwCl [(h0, .inr (5, [.ref q8, .ref q17, .ref q25, .null, .int 0])), (q8, .inl (gC G 10, 256, .inl (fun _ => 0))), (q17, .inl (gC G 10, 2048, .inl (fun _ => 0))), (q25, .inl (gC G 10, 8, .inl (fun _ => 0)))] H := hP
  have hD : va_D A [(h0, .inr (5, [.ref q8, .ref q17, .ref q25, .null, .int 0])), (q8, .inl (gC G 10, 256, .inl (fun _ => 0))), (q17, .inl (gC G 10, 2048, .inl (fun _ => 0))), (q25, .inl (gC G 10, 8, .inl (fun _ => 0)))] := hD
  refine lv_aload_n hx hb iX6_30 rfl (lv_at hl 0 rfl) ?_
  refine lv_sipush hx hb (v := 793) iX6_31 rfl ?_
  refine va_nw hx hb (atype := .int) (ty := .int) (hts _ (List.mem_cons_of_mem _ (mGw_of (i := 179) (by decide +kernel) (by decide +kernel)))) rfl hK hP hD hS hA (t0 := 0) (cI := gC G 10) rfl (fun _ _ h => ra_int h) (N' := 793) (a0 := (793, .inl (fun _ => 0))) (fun _ => rfl) (by decide) (by decide) (by decide) (Nat.le_of_ble_eq_true rfl) (Nat.le_of_ble_eq_true rfl) iX6_34 (fun q34 H hP hD hS => ?_)
  have hP : va_P (gD G) vwCl [(h0, .inr (5, [.ref q8, .ref q17, .ref q25, .null, .int 0])), (q8, .inl (gC G 10, 256, .inl (fun _ => 0))), (q17, .inl (gC G 10, 2048, .inl (fun _ => 0))), (q25, .inl (gC G 10, 8, .inl (fun _ => 0))), (q34, .inl (gC G 10, 793, .inl (fun _ => 0)))] H := hP
  have hD : va_D A [(h0, .inr (5, [.ref q8, .ref q17, .ref q25, .null, .int 0])), (q8, .inl (gC G 10, 256, .inl (fun _ => 0))), (q17, .inl (gC G 10, 2048, .inl (fun _ => 0))), (q25, .inl (gC G 10, 8, .inl (fun _ => 0))), (q34, .inl (gC G 10, 793, .inl (fun _ => 0)))] := hD
  refine W.cs (cells' := 4) (slots' := 3105) (by omega) (by omega) ?_
  refine va_putF (D := gD G) (ci := 5) (v := .ref q34) (ty := .array .int) (C := RX6) (T := TX6) (N := 5) hx hb hts (huX6) tyX6 tyX6_ok nmX6 hown hK hP hD hS 0 rfl rfl 3 (by decide) (hts _ (List.mem_cons_of_mem _ (mGw_of (i := 364) (by decide +kernel) (by decide +kernel)))) (fun _ h9 => h9) rfl hin rfl (by decide +kernel) rfl rfl (Nat.le_of_ble_eq_true rfl) iX6_36 (fun H locs hP hD hS => ?_)
  have hP : va_P (gD G) vwCl [(h0, .inr (5, [.ref q8, .ref q17, .ref q25, .ref q34, .int 0])), (q8, .inl (gC G 10, 256, .inl (fun _ => 0))), (q17, .inl (gC G 10, 2048, .inl (fun _ => 0))), (q25, .inl (gC G 10, 8, .inl (fun _ => 0))), (q34, .inl (gC G 10, 793, .inl (fun _ => 0)))] H := hP
  have hD : va_D A [(h0, .inr (5, [.ref q8, .ref q17, .ref q25, .ref q34, .int 0])), (q8, .inl (gC G 10, 256, .inl (fun _ => 0))), (q17, .inl (gC G 10, 2048, .inl (fun _ => 0))), (q25, .inl (gC G 10, 8, .inl (fun _ => 0))), (q34, .inl (gC G 10, 793, .inl (fun _ => 0)))] := hD
  refine lv_aload_n hx hb iX6_39 rfl (lv_at hl 0 rfl) ?_
  refine lv_iconst hx hb (v := 0) iX6_40 rfl ?_
  refine va_put (D := gD G) (ci := 5) (v := .int 0) (ty := .int) (C := RX6) (T := TX6) (N := 5) hx hb hts (huX6) tyX6 tyX6_ok nmX6 hown hK hP hD hS 0 rfl rfl 4 (by decide) (hts _ (List.mem_cons_of_mem _ (mGw_of (i := 365) (by decide +kernel) (by decide +kernel)))) (fun _ h9 => h9) rfl (by decide +kernel) rfl rfl (Nat.le_of_ble_eq_true rfl) iX6_41 (fun H locs hP hD hS => ?_)
  have hP : va_P (gD G) vwCl [(h0, .inr (5, [.ref q8, .ref q17, .ref q25, .ref q34, .int 0])), (q8, .inl (gC G 10, 256, .inl (fun _ => 0))), (q17, .inl (gC G 10, 2048, .inl (fun _ => 0))), (q25, .inl (gC G 10, 8, .inl (fun _ => 0))), (q34, .inl (gC G 10, 793, .inl (fun _ => 0)))] H := hP
  have hD : va_D A [(h0, .inr (5, [.ref q8, .ref q17, .ref q25, .ref q34, .int 0])), (q8, .inl (gC G 10, 256, .inl (fun _ => 0))), (q17, .inl (gC G 10, 2048, .inl (fun _ => 0))), (q25, .inl (gC G 10, 8, .inl (fun _ => 0))), (q34, .inl (gC G 10, 793, .inl (fun _ => 0)))] := hD
  exact W.vret hx hb hr (fun t ht hW => ⟨⟨(fun k => [q8, q17, q25, q34].getD k 0), rfl, trivial, by rw [ht]; exact hP, va_K.moved hW.alike hK, hD⟩, hS.F ht⟩) hS.2.2 iX6_44
theorem iX7_0 : decode cX7_init 0 = .ok (.aload_n 0, 1) := by decide +kernel
theorem iX7_1 : decode cX7_init 1 = .ok (.invokespecial 3, 3) := by decide +kernel
theorem iX7_4 : decode cX7_init 4 = .ok (.aload_n 0, 1) := by decide +kernel
theorem iX7_5 : decode cX7_init 5 = .ok (.sipush 400, 3) := by decide +kernel
theorem iX7_8 : decode cX7_init 8 = .ok (.newarray .int, 2) := by decide +kernel
theorem iX7_10 : decode cX7_init 10 = .ok (.putfield 11, 3) := by decide +kernel
theorem iX7_13 : decode cX7_init 13 = .ok (.aload_n 0, 1) := by decide +kernel
theorem iX7_14 : decode cX7_init 14 = .ok (.iconst 0, 1) := by decide +kernel
theorem iX7_15 : decode cX7_init 15 = .ok (.putfield 15, 3) := by decide +kernel
theorem iX7_18 : decode cX7_init 18 = .ok (.aload_n 0, 1) := by decide +kernel
theorem iX7_19 : decode cX7_init 19 = .ok (.iconst 0, 1) := by decide +kernel
theorem iX7_20 : decode cX7_init 20 = .ok (.putfield 19, 3) := by decide +kernel
theorem iX7_23 : decode cX7_init 23 = .ok (.aload_n 0, 1) := by decide +kernel
theorem iX7_24 : decode cX7_init 24 = .ok (.iconst (-1), 1) := by decide +kernel
theorem iX7_25 : decode cX7_init 25 = .ok (.putfield 22, 3) := by decide +kernel
theorem iX7_28 : decode cX7_init 28 = .ok (.return_, 1) := by decide +kernel
def wiX7 : List Cond := .code yX7_init cX7_init 1 none :: mGw
def atX7 (G : mG) (A : Nat → Prop) (h0 : Nat) (u : Nat → Nat) (t : State) : Prop := va_P (gD G) vwCl [(h0, .inr (6, [.ref (u 0), .int 0, .int 0, .int (-1)])), (u 0, .inl (gC G 10, 400, .inl (fun _ => 0)))] t.heap ∧ va_K (gD G) vwCl (mTys G) t ∧ va_D A [(h0, .inr (6, [.ref (u 0), .int 0, .int 0, .int (-1)])), (u 0, .inl (gC G 10, 400, .inl (fun _ => 0)))]
theorem huX7 : ∀ w ∈ u_ws RX7 TX7 4, w ∈ wiX7 := fun w hw => List.mem_cons_of_mem _ ((mCl_ok 6 (RX7, TX7, 4) rfl).1 w hw)
set_option maxHeartbeats 4000000 in
set_option maxRecDepth 100000 in
theorem ctX7 (l : Launch) (G : mG) (h0 sz : Nat) : Met l yX7_init wiX7 ({ frames := 1, cells := 1, slots := 400, locals := 12 }) (va_Pc [.ref h0] (fun U => U.heap.size = sz ∧ va_P (gD G) vwCl [(h0, .inr (6, [.null, .int 0, .int 0, .int 0]))] U.heap ∧ va_K (gD G) vwCl (mTys G) U ∧ va_D (fun _ => True) [(h0, .inr (6, [.null, .int 0, .int 0, .int 0]))])) (va_Qv (fun _ : Nat → Nat => True) (atX7 G (va_A [(h0, .inr (6, [.null, .int 0, .int 0, .int 0]))] sz) h0) (va_A [(h0, .inr (6, [.null, .int 0, .int 0, .int 0]))] sz)) 1 400 (va_A [(h0, .inr (6, [.null, .int 0, .int 0, .int 0]))] sz) := by
  refine Met.ofW (cc := cX7_init) (maxL := 1) (ret := none) (by decide) rfl ?_
  intro p e s m args below meth c s₁ B hml hv
  obtain ⟨rfl, hsz, hP, hK, hD0⟩ := hv
  have hx := B.exec
  have hb := B.bytes
  have hr := B.returns
  have hts := atoms_spec (ws := wiX7) B.pre
  have hown : s.vm.findClass RX7 = some m.cls := findClass_of_methodNamed B.named
  have hin : meth.name = "<init>" := (name_of_methodNamed B.named B.method).1
  subst hsz
  have hD := hD0.self (sz := s.heap.size)
  generalize hAe : va_A [(h0, .inr (6, [.null, .int 0, .int 0, .int 0]))] s.heap.size = A at hD ⊢
  have hA : ∀ q : Nat, s.heap.size ≤ q → A q := fun q h => by rw [← hAe]; exact Or.inr h
  have hS : va_S A s.heap s.heap [] := va_S.rf
  have hP : va_P (gD G) vwCl [(h0, .inr (6, [.null, .int 0, .int 0, .int 0]))] s.heap := hP
  have hl := lv_entry ([.ref h0]) (n := 1) (Nat.le_of_ble_eq_true rfl)
  rw [lg_entry_eq]
  generalize (lg_sl ([.ref h0]) ++ List.replicate (1 - (lg_sl ([.ref h0])).length) Slot.unset).toArray = ls at hl ⊢
  have hl : lv_has ls 1 [(0, .ref h0)] := hl
  refine lv_aload_n hx hb iX7_0 rfl (lv_at hl 0 rfl) ?_
  refine W.objInit hx hb hown (hts _ (List.mem_cons_of_mem _ (mGw_of (i := 159) (by decide +kernel) (by decide +kernel)))) (hts _ (List.mem_cons_of_mem _ (mGw_of (i := 152) (by decide +kernel) (by decide +kernel)))) (hts _ (List.mem_cons_of_mem _ (mGw_of (i := 153) (by decide +kernel) (by decide +kernel)))) rfl (by rw [hml]; exact hl.1) rfl iX7_1 (Nat.le_of_ble_eq_true rfl) (Nat.le_of_ble_eq_true rfl) ?_
  refine W.eq (g2 := F0 m 4 ls []) rfl ?_
  refine lv_aload_n hx hb iX7_4 rfl (lv_at hl 0 rfl) ?_
  refine lv_sipush hx hb (v := 400) iX7_5 rfl ?_
  refine va_nw hx hb (atype := .int) (ty := .int) (hts _ (List.mem_cons_of_mem _ (mGw_of (i := 179) (by decide +kernel) (by decide +kernel)))) rfl hK hP hD hS hA (t0 := 0) (cI := gC G 10) rfl (fun _ _ h => ra_int h) (N' := 400) (a0 := (400, .inl (fun _ => 0))) (fun _ => rfl) (by decide) (by decide) (by decide) (Nat.le_of_ble_eq_true rfl) (Nat.le_of_ble_eq_true rfl) iX7_8 (fun q8 H hP hD hS => ?_)
  have hP : va_P (gD G) vwCl [(h0, .inr (6, [.null, .int 0, .int 0, .int 0])), (q8, .inl (gC G 10, 400, .inl (fun _ => 0)))] H := hP
  have hD : va_D A [(h0, .inr (6, [.null, .int 0, .int 0, .int 0])), (q8, .inl (gC G 10, 400, .inl (fun _ => 0)))] := hD
  refine W.cs (cells' := 1) (slots' := 400) (by omega) (by omega) ?_
  refine va_putF (D := gD G) (ci := 6) (v := .ref q8) (ty := .array .int) (C := RX7) (T := TX7) (N := 4) hx hb hts (huX7) tyX7 tyX7_ok nmX7 hown hK hP hD hS 0 rfl rfl 0 (by decide) (hts _ (List.mem_cons_of_mem _ (mGw_of (i := 160) (by decide +kernel) (by decide +kernel)))) (fun _ h9 => h9) rfl hin rfl (by decide +kernel) rfl rfl (Nat.le_of_ble_eq_true rfl) iX7_10 (fun H locs hP hD hS => ?_)
  have hP : va_P (gD G) vwCl [(h0, .inr (6, [.ref q8, .int 0, .int 0, .int 0])), (q8, .inl (gC G 10, 400, .inl (fun _ => 0)))] H := hP
  have hD : va_D A [(h0, .inr (6, [.ref q8, .int 0, .int 0, .int 0])), (q8, .inl (gC G 10, 400, .inl (fun _ => 0)))] := hD
  refine lv_aload_n hx hb iX7_13 rfl (lv_at hl 0 rfl) ?_
  refine lv_iconst hx hb (v := 0) iX7_14 rfl ?_
  refine va_put (D := gD G) (ci := 6) (v := .int 0) (ty := .int) (C := RX7) (T := TX7) (N := 4) hx hb hts (huX7) tyX7 tyX7_ok nmX7 hown hK hP hD hS 0 rfl rfl 1 (by decide) (hts _ (List.mem_cons_of_mem _ (mGw_of (i := 161) (by decide +kernel) (by decide +kernel)))) (fun _ h9 => h9) rfl (by decide +kernel) rfl rfl (Nat.le_of_ble_eq_true rfl) iX7_15 (fun H locs hP hD hS => ?_)
  have hP : va_P (gD G) vwCl [(h0, .inr (6, [.ref q8, .int 0, .int 0, .int 0])), (q8, .inl (gC G 10, 400, .inl (fun _ => 0)))] H := hP
  have hD : va_D A [(h0, .inr (6, [.ref q8, .int 0, .int 0, .int 0])), (q8, .inl (gC G 10, 400, .inl (fun _ => 0)))] := hD
  refine lv_aload_n hx hb iX7_18 rfl (lv_at hl 0 rfl) ?_
  refine lv_iconst hx hb (v := 0) iX7_19 rfl ?_
  refine va_put (D := gD G) (ci := 6) (v := .int 0) (ty := .int) (C := RX7) (T := TX7) (N := 4) hx hb hts (huX7) tyX7 tyX7_ok nmX7 hown hK hP hD hS 0 rfl rfl 2 (by decide) (hts _ (List.mem_cons_of_mem _ (mGw_of (i := 165) (by decide +kernel) (by decide +kernel)))) (fun _ h9 => h9) rfl (by decide +kernel) rfl rfl (Nat.le_of_ble_eq_true rfl) iX7_20 (fun H locs hP hD hS => ?_)
  have hP : va_P (gD G) vwCl [(h0, .inr (6, [.ref q8, .int 0, .int 0, .int 0])), (q8, .inl (gC G 10, 400, .inl (fun _ => 0)))] H := hP
  have hD : va_D A [(h0, .inr (6, [.ref q8, .int 0, .int 0, .int 0])), (q8, .inl (gC G 10, 400, .inl (fun _ => 0)))] := hD
  refine lv_aload_n hx hb iX7_23 rfl (lv_at hl 0 rfl) ?_
  refine lv_iconst hx hb (v := (-1)) iX7_24 rfl ?_
  refine va_put (D := gD G) (ci := 6) (v := .int (-1)) (ty := .int) (C := RX7) (T := TX7) (N := 4) hx hb hts (huX7) tyX7 tyX7_ok nmX7 hown hK hP hD hS 0 rfl rfl 3 (by decide) (hts _ (List.mem_cons_of_mem _ (mGw_of (i := 168) (by decide +kernel) (by decide +kernel)))) (fun _ h9 => h9) rfl (by decide +kernel) rfl rfl (Nat.le_of_ble_eq_true rfl) iX7_25 (fun H locs hP hD hS => ?_)
  have hP : va_P (gD G) vwCl [(h0, .inr (6, [.ref q8, .int 0, .int 0, .int (-1)])), (q8, .inl (gC G 10, 400, .inl (fun _ => 0)))] H := hP
  have hD : va_D A [(h0, .inr (6, [.ref q8, .int 0, .int 0, .int (-1)])), (q8, .inl (gC G 10, 400, .inl (fun _ => 0)))] := hD
  exact W.vret hx hb hr (fun t ht hW => ⟨⟨(fun k => [q8].getD k 0), rfl, trivial, by rw [ht]; exact hP, va_K.moved hW.alike hK, hD⟩, hS.F ht⟩) hS.2.2 iX7_28
