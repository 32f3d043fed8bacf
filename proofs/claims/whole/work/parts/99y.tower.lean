/-! the lists of the small things; the tower's constructor -/
def wtX0 (G : mG) (a : Nat → Nat) : va_W := [(a 0, .inr (0, [.int 0, .int 0, .ref (a 1), .ref (a 2), .ref (a 3), .ref (a 4), .int 0, .ref (a 5)])), (a 1, .inl (gC G 10, 12, .inl (fun _ => 0))), (a 2, .inl (gC G 10, 12, .inl (fun _ => 0))), (a 3, .inl (gC G 10, 12, .inl (fun _ => 0))), (a 4, .inl (gC G 10, 400, .inl (fun _ => 0))), (a 5, .inl (gC G 10, 64, .inl (fun _ => 0)))]
theorem winX0 : ∀ w ∈ wiX0, w ∈ mGw := fun w hw => by
  rcases List.mem_cons.mp hw with h | h
  · rw [h]; exact mGw_of (i := 306) (by decide +kernel) (by decide +kernel)
  · exact h
theorem dfX0 : ∀ j, j < 8 → defaultValue (tyX0 j) = vp_V [.int 0, .int 0, .null, .null, .null, .null, .int 0, .null] j := fun j hj => by
  rcases (show j = 0 ∨ j = 1 ∨ j = 2 ∨ j = 3 ∨ j = 4 ∨ j = 5 ∨ j = 6 ∨ j = 7 by omega) with rfl | rfl | rfl | rfl | rfl | rfl | rfl | rfl <;> rfl
def wtX2 (G : mG) (a : Nat → Nat) : va_W := [(a 0, .inr (1, [.ref (a 1), .int 0, .int 0])), (a 1, .inl (gC G 10, 360, .inl (fun _ => 0)))]
theorem winX2 : ∀ w ∈ wiX2, w ∈ mGw := fun w hw => by
  rcases List.mem_cons.mp hw with h | h
  · rw [h]; exact mGw_of (i := 190) (by decide +kernel) (by decide +kernel)
  · exact h
theorem dfX2 : ∀ j, j < 3 → defaultValue (tyX2 j) = vp_V [.null, .int 0, .int 0] j := fun j hj => by
  rcases (show j = 0 ∨ j = 1 ∨ j = 2 by omega) with rfl | rfl | rfl <;> rfl
def wtX4 (G : mG) (a : Nat → Nat) : va_W := [(a 0, .inr (3, [.ref (a 1), .ref (a 2), .ref (a 3), .int 0])), (a 1, .inl (gC G 10, 4, .inl (fun _ => 0))), (a 2, .inl (gC G 10, 4, .inl (fun _ => 0))), (a 3, .inl (gC G 12, 16, .inl (fun _ => 0)))]
theorem winX4 : ∀ w ∈ wiX4, w ∈ mGw := fun w hw => by
  rcases List.mem_cons.mp hw with h | h
  · rw [h]; exact mGw_of (i := 398) (by decide +kernel) (by decide +kernel)
  · exact h
theorem dfX4 : ∀ j, j < 4 → defaultValue (tyX4 j) = vp_V [.null, .null, .null, .int 0] j := fun j hj => by
  rcases (show j = 0 ∨ j = 1 ∨ j = 2 ∨ j = 3 by omega) with rfl | rfl | rfl | rfl <;> rfl
def wtX5 (G : mG) (a : Nat → Nat) : va_W := [(a 0, .inr (4, [.ref (a 1), .ref (a 2), .int 0])), (a 1, .inl (gC G 10, 256, .inl (fun _ => 0))), (a 2, .inl (gC G 10, 3328, .inl (fun _ => 0)))]
theorem winX5 : ∀ w ∈ wiX5, w ∈ mGw := fun w hw => by
  rcases List.mem_cons.mp hw with h | h
  · rw [h]; exact mGw_of (i := 382) (by decide +kernel) (by decide +kernel)
  · exact h
theorem dfX5 : ∀ j, j < 3 → defaultValue (tyX5 j) = vp_V [.null, .null, .int 0] j := fun j hj => by
  rcases (show j = 0 ∨ j = 1 ∨ j = 2 by omega) with rfl | rfl | rfl <;> rfl
def wtX6 (G : mG) (a : Nat → Nat) : va_W := [(a 0, .inr (5, [.ref (a 1), .ref (a 2), .ref (a 3), .ref (a 4), .int 0])), (a 1, .inl (gC G 10, 256, .inl (fun _ => 0))), (a 2, .inl (gC G 10, 2048, .inl (fun _ => 0))), (a 3, .inl (gC G 10, 8, .inl (fun _ => 0))), (a 4, .inl (gC G 10, 793, .inl (fun _ => 0)))]
theorem winX6 : ∀ w ∈ wiX6, w ∈ mGw := fun w hw => by
  rcases List.mem_cons.mp hw with h | h
  · rw [h]; exact mGw_of (i := 359) (by decide +kernel) (by decide +kernel)
  · exact h
theorem dfX6 : ∀ j, j < 5 → defaultValue (tyX6 j) = vp_V [.null, .null, .null, .null, .int 0] j := fun j hj => by
  rcases (show j = 0 ∨ j = 1 ∨ j = 2 ∨ j = 3 ∨ j = 4 by omega) with rfl | rfl | rfl | rfl | rfl <;> rfl
def wtX7 (G : mG) (a : Nat → Nat) : va_W := [(a 0, .inr (6, [.ref (a 1), .int 0, .int 0, .int (-1)])), (a 1, .inl (gC G 10, 400, .inl (fun _ => 0)))]
theorem winX7 : ∀ w ∈ wiX7, w ∈ mGw := fun w hw => by
  rcases List.mem_cons.mp hw with h | h
  · rw [h]; exact mGw_of (i := 158) (by decide +kernel) (by decide +kernel)
  · exact h
theorem dfX7 : ∀ j, j < 4 → defaultValue (tyX7 j) = vp_V [.null, .int 0, .int 0, .int 0] j := fun j hj => by
  rcases (show j = 0 ∨ j = 1 ∨ j = 2 ∨ j = 3 by omega) with rfl | rfl | rfl | rfl <;> rfl
def wtX12 (G : mG) (a : Nat → Nat) : va_W := [(a 0, .inr (9, [.int 0, .ref (a 1), .ref (a 2), .ref (a 3), .ref (a 4), .ref (a 5), .int 0, .int 0, .ref (a 6), .ref (a 7), .int 0, .int 0, .ref (a 8), .int 0, .int 0, .int 0, .int 0, .int 0, .int (-1), .ref (a 9), .int 0, .ref (a 10), .ref (a 11), .ref (a 12), .ref (a 13), .ref (a 14), .ref (a 15)])), (a 1, .inl (gC G 10, 2122, .inl (upd (upd (fun _ => 0) 5 1) 7 1))), (a 2, .inl (gC G 10, 1273, .inl (fun _ => 0))), (a 3, .inl (gC G 10, 1273, .inl (fun _ => 0))), (a 4, .inl (gC G 10, 424, .inl (fun _ => 0))), (a 5, .inl (gC G 10, 5088, .inl (fun _ => 0))), (a 6, .inl (gC G 10, 8, .inl (fun _ => 0))), (a 7, .inl (gC G 10, 9, .inl (fun _ => 0))), (a 8, .inl (gC G 11, 400, .inl (fun _ => 0))), (a 9, .inl (gC G 10, 5, .inl (fun _ => 0))), (a 10, .inl (gC G 10, 400, .inl (fun _ => 0))), (a 11, .inl (gC G 10, 8, .inl (fun _ => 0))), (a 12, .inl (gC G 10, 4, .inl (fun _ => 0))), (a 13, .inl (gC G 12, 256, .inl (fun _ => 0))), (a 14, .inl (gC G 10, 2048, .inl (fun _ => 0))), (a 15, .inl (gC G 10, 3072, .inl (fun _ => 0)))]
theorem winX12 : ∀ w ∈ wiX12, w ∈ mGw := fun w hw => by
  rcases List.mem_cons.mp hw with h | h
  · rw [h]; exact mGw_of (i := 1507) (by decide +kernel) (by decide +kernel)
  · exact h
theorem dfX12 : ∀ j, j < 27 → defaultValue (tyX12 j) = vp_V [.int 0, .null, .null, .null, .null, .null, .int 0, .int 0, .null, .null, .int 0, .int 0, .null, .int 0, .int 0, .int 0, .int 0, .int 0, .int 0, .null, .int 0, .null, .null, .null, .null, .null, .null] j := fun j hj => by
  rcases (show j = 0 ∨ j = 1 ∨ j = 2 ∨ j = 3 ∨ j = 4 ∨ j = 5 ∨ j = 6 ∨ j = 7 ∨ j = 8 ∨ j = 9 ∨ j = 10 ∨ j = 11 ∨ j = 12 ∨ j = 13 ∨ j = 14 ∨ j = 15 ∨ j = 16 ∨ j = 17 ∨ j = 18 ∨ j = 19 ∨ j = 20 ∨ j = 21 ∨ j = 22 ∨ j = 23 ∨ j = 24 ∨ j = 25 ∨ j = 26 by omega) with rfl | rfl | rfl | rfl | rfl | rfl | rfl | rfl | rfl | rfl | rfl | rfl | rfl | rfl | rfl | rfl | rfl | rfl | rfl | rfl | rfl | rfl | rfl | rfl | rfl | rfl | rfl <;> rfl
theorem iX9_0 : decode cX9_init 0 = .ok (.aload_n 0, 1) := by decide +kernel
theorem iX9_1 : decode cX9_init 1 = .ok (.invokespecial 3, 3) := by decide +kernel
theorem iX9_4 : decode cX9_init 4 = .ok (.aload_n 0, 1) := by decide +kernel
theorem iX9_5 : decode cX9_init 5 = .ok (.iconst 0, 1) := by decide +kernel
theorem iX9_6 : decode cX9_init 6 = .ok (.putfield 9, 3) := by decide +kernel
theorem iX9_9 : decode cX9_init 9 = .ok (.aload_n 0, 1) := by decide +kernel
theorem iX9_10 : decode cX9_init 10 = .ok (.iconst 0, 1) := by decide +kernel
theorem iX9_11 : decode cX9_init 11 = .ok (.putfield 15, 3) := by decide +kernel
theorem iX9_14 : decode cX9_init 14 = .ok (.aload_n 0, 1) := by decide +kernel
theorem iX9_15 : decode cX9_init 15 = .ok (.iconst 0, 1) := by decide +kernel
theorem iX9_16 : decode cX9_init 16 = .ok (.putfield 18, 3) := by decide +kernel
theorem iX9_19 : decode cX9_init 19 = .ok (.aload_n 0, 1) := by decide +kernel
theorem iX9_20 : decode cX9_init 20 = .ok (.iconst 0, 1) := by decide +kernel
theorem iX9_21 : decode cX9_init 21 = .ok (.putfield 21, 3) := by decide +kernel
theorem iX9_24 : decode cX9_init 24 = .ok (.aload_n 0, 1) := by decide +kernel
theorem iX9_25 : decode cX9_init 25 = .ok (.iconst 0, 1) := by decide +kernel
theorem iX9_26 : decode cX9_init 26 = .ok (.putfield 24, 3) := by decide +kernel
theorem iX9_29 : decode cX9_init 29 = .ok (.aload_n 0, 1) := by decide +kernel
theorem iX9_30 : decode cX9_init 30 = .ok (.iconst 1, 1) := by decide +kernel
theorem iX9_31 : decode cX9_init 31 = .ok (.putfield 27, 3) := by decide +kernel
theorem iX9_34 : decode cX9_init 34 = .ok (.aload_n 0, 1) := by decide +kernel
theorem iX9_35 : decode cX9_init 35 = .ok (.iconst 1, 1) := by decide +kernel
theorem iX9_36 : decode cX9_init 36 = .ok (.putfield 30, 3) := by decide +kernel
theorem iX9_39 : decode cX9_init 39 = .ok (.aload_n 0, 1) := by decide +kernel
theorem iX9_40 : decode cX9_init 40 = .ok (.iconst 0, 1) := by decide +kernel
theorem iX9_41 : decode cX9_init 41 = .ok (.putfield 33, 3) := by decide +kernel
theorem iX9_44 : decode cX9_init 44 = .ok (.aload_n 0, 1) := by decide +kernel
theorem iX9_45 : decode cX9_init 45 = .ok (.bipush 8, 2) := by decide +kernel
theorem iX9_47 : decode cX9_init 47 = .ok (.newarray .int, 2) := by decide +kernel
theorem iX9_49 : decode cX9_init 49 = .ok (.putfield 36, 3) := by decide +kernel
theorem iX9_52 : decode cX9_init 52 = .ok (.aload_n 0, 1) := by decide +kernel
theorem iX9_53 : decode cX9_init 53 = .ok (.bipush 8, 2) := by decide +kernel
theorem iX9_55 : decode cX9_init 55 = .ok (.newarray .int, 2) := by decide +kernel
theorem iX9_57 : decode cX9_init 57 = .ok (.putfield 40, 3) := by decide +kernel
theorem iX9_60 : decode cX9_init 60 = .ok (.aload_n 0, 1) := by decide +kernel
theorem iX9_61 : decode cX9_init 61 = .ok (.bipush 8, 2) := by decide +kernel
theorem iX9_63 : decode cX9_init 63 = .ok (.newarray .int, 2) := by decide +kernel
theorem iX9_65 : decode cX9_init 65 = .ok (.putfield 43, 3) := by decide +kernel
theorem iX9_68 : decode cX9_init 68 = .ok (.aload_n 0, 1) := by decide +kernel
theorem iX9_69 : decode cX9_init 69 = .ok (.bipush 8, 2) := by decide +kernel
theorem iX9_71 : decode cX9_init 71 = .ok (.newarray .int, 2) := by decide +kernel
theorem iX9_73 : decode cX9_init 73 = .ok (.putfield 46, 3) := by decide +kernel
theorem iX9_76 : decode cX9_init 76 = .ok (.aload_n 0, 1) := by decide +kernel
theorem iX9_77 : decode cX9_init 77 = .ok (.bipush 8, 2) := by decide +kernel
theorem iX9_79 : decode cX9_init 79 = .ok (.newarray .int, 2) := by decide +kernel
theorem iX9_81 : decode cX9_init 81 = .ok (.putfield 49, 3) := by decide +kernel
theorem iX9_84 : decode cX9_init 84 = .ok (.aload_n 0, 1) := by decide +kernel
theorem iX9_85 : decode cX9_init 85 = .ok (.bipush 8, 2) := by decide +kernel
theorem iX9_87 : decode cX9_init 87 = .ok (.newarray .int, 2) := by decide +kernel
theorem iX9_89 : decode cX9_init 89 = .ok (.putfield 52, 3) := by decide +kernel
theorem iX9_92 : decode cX9_init 92 = .ok (.aload_n 0, 1) := by decide +kernel
theorem iX9_93 : decode cX9_init 93 = .ok (.iconst 0, 1) := by decide +kernel
theorem iX9_94 : decode cX9_init 94 = .ok (.putfield 55, 3) := by decide +kernel
theorem iX9_97 : decode cX9_init 97 = .ok (.aload_n 0, 1) := by decide +kernel
theorem iX9_98 : decode cX9_init 98 = .ok (.bipush 8, 2) := by decide +kernel
theorem iX9_100 : decode cX9_init 100 = .ok (.newarray .int, 2) := by decide +kernel
theorem iX9_102 : decode cX9_init 102 = .ok (.putfield 58, 3) := by decide +kernel
theorem iX9_105 : decode cX9_init 105 = .ok (.aload_n 0, 1) := by decide +kernel
theorem iX9_106 : decode cX9_init 106 = .ok (.bipush 8, 2) := by decide +kernel
theorem iX9_108 : decode cX9_init 108 = .ok (.newarray .int, 2) := by decide +kernel
theorem iX9_110 : decode cX9_init 110 = .ok (.putfield 61, 3) := by decide +kernel
theorem iX9_113 : decode cX9_init 113 = .ok (.aload_n 0, 1) := by decide +kernel
theorem iX9_114 : decode cX9_init 114 = .ok (.new 64, 3) := by decide +kernel
theorem iX9_117 : decode cX9_init 117 = .ok (.dup, 1) := by decide +kernel
theorem iX9_118 : decode cX9_init 118 = .ok (.invokespecial 66, 3) := by decide +kernel
theorem iX9_121 : decode cX9_init 121 = .ok (.putfield 67, 3) := by decide +kernel
theorem iX9_124 : decode cX9_init 124 = .ok (.aload_n 0, 1) := by decide +kernel
theorem iX9_125 : decode cX9_init 125 = .ok (.bipush 8, 2) := by decide +kernel
theorem iX9_127 : decode cX9_init 127 = .ok (.newarray .int, 2) := by decide +kernel
theorem iX9_129 : decode cX9_init 129 = .ok (.putfield 71, 3) := by decide +kernel
theorem iX9_132 : decode cX9_init 132 = .ok (.aload_n 0, 1) := by decide +kernel
theorem iX9_133 : decode cX9_init 133 = .ok (.iconst 0, 1) := by decide +kernel
theorem iX9_134 : decode cX9_init 134 = .ok (.putfield 74, 3) := by decide +kernel
theorem iX9_137 : decode cX9_init 137 = .ok (.return_, 1) := by decide +kernel
def wiX9 : List Cond := .code yX9_init cX9_init 1 none :: mGw
theorem winX9 : ∀ w ∈ wiX9, w ∈ mGw := fun w hw => by
  rcases List.mem_cons.mp hw with h | h
  · rw [h]; exact mGw_of (i := 184) (by decide +kernel) (by decide +kernel)
  · exact h
theorem dfX9 : ∀ j, j < 20 → defaultValue (tyX9 j) = vp_V [.int 0, .int 0, .int 0, .int 0, .int 0, .int 0, .int 0, .int 0, .null, .null, .null, .null, .null, .null, .int 0, .null, .null, .null, .null, .int 0] j := fun j hj => by
  rcases (show j = 0 ∨ j = 1 ∨ j = 2 ∨ j = 3 ∨ j = 4 ∨ j = 5 ∨ j = 6 ∨ j = 7 ∨ j = 8 ∨ j = 9 ∨ j = 10 ∨ j = 11 ∨ j = 12 ∨ j = 13 ∨ j = 14 ∨ j = 15 ∨ j = 16 ∨ j = 17 ∨ j = 18 ∨ j = 19 by omega) with rfl | rfl | rfl | rfl | rfl | rfl | rfl | rfl | rfl | rfl | rfl | rfl | rfl | rfl | rfl | rfl | rfl | rfl | rfl | rfl <;> rfl
def wtX9 (G : mG) (a : Nat → Nat) : va_W := [(a 0, .inr (7, [.int 0, .int 0, .int 0, .int 0, .int 0, .int 1, .int 1, .int 0, .ref (a 1), .ref (a 2), .ref (a 3), .ref (a 4), .ref (a 5), .ref (a 6), .int 0, .ref (a 7), .ref (a 8), .ref (a 9), .ref (a 11), .int 0])), (a 1, .inl (gC G 10, 8, .inl (fun _ => 0))), (a 2, .inl (gC G 10, 8, .inl (fun _ => 0))), (a 3, .inl (gC G 10, 8, .inl (fun _ => 0))), (a 4, .inl (gC G 10, 8, .inl (fun _ => 0))), (a 5, .inl (gC G 10, 8, .inl (fun _ => 0))), (a 6, .inl (gC G 10, 8, .inl (fun _ => 0))), (a 7, .inl (gC G 10, 8, .inl (fun _ => 0))), (a 8, .inl (gC G 10, 8, .inl (fun _ => 0))), (a 9, .inr (1, [.ref (a 10), .int 0, .int 0])), (a 10, .inl (gC G 10, 360, .inl (fun _ => 0))), (a 11, .inl (gC G 10, 8, .inl (fun _ => 0)))]
def atX9 (G : mG) (A : Nat → Prop) (h0 : Nat) (u : Nat → Nat) (t : State) : Prop := va_P (gD G) vwCl (wtX9 G (cns h0 u)) t.heap ∧ va_K (gD G) vwCl (mTys G) t ∧ va_D A (wtX9 G (cns h0 u))
set_option maxHeartbeats 8000000 in
set_option maxRecDepth 100000 in
theorem ctX9 (l : Launch) (G : mG) (h0 sz : Nat) : Met l yX9_init wiX9 ({ frames := 2, cells := 11, slots := 435, locals := 32 }) (va_Pc [.ref h0] (fun U => U.heap.size = sz ∧ va_P (gD G) vwCl [(h0, .inr (7, [.int 0, .int 0, .int 0, .int 0, .int 0, .int 0, .int 0, .int 0, .null, .null, .null, .null, .null, .null, .int 0, .null, .null, .null, .null, .int 0]))] U.heap ∧ va_K (gD G) vwCl (mTys G) U ∧ va_D (fun _ => True) [(h0, .inr (7, [.int 0, .int 0, .int 0, .int 0, .int 0, .int 0, .int 0, .int 0, .null, .null, .null, .null, .null, .null, .int 0, .null, .null, .null, .null, .int 0]))] ∧ cN U)) (va_Qv (fun _ : Nat → Nat => True) (atX9 G (va_A [(h0, .inr (7, [.int 0, .int 0, .int 0, .int 0, .int 0, .int 0, .int 0, .int 0, .null, .null, .null, .null, .null, .null, .int 0, .null, .null, .null, .null, .int 0]))] sz) h0) (va_A [(h0, .inr (7, [.int 0, .int 0, .int 0, .int 0, .int 0, .int 0, .int 0, .int 0, .null, .null, .null, .null, .null, .null, .int 0, .null, .null, .null, .null, .int 0]))] sz)) 11 435 (va_A [(h0, .inr (7, [.int 0, .int 0, .int 0, .int 0, .int 0, .int 0, .int 0, .int 0, .null, .null, .null, .null, .null, .null, .int 0, .null, .null, .null, .null, .int 0]))] sz) := by
  refine Met.ofW (cc := cX9_init) (maxL := 1) (ret := none) (by decide) rfl ?_
  intro p e s m args below meth c s₁ B hml hv
  obtain ⟨rfl, hsz, hP, hK, hD0, hN⟩ := hv
  have hx := B.exec
  have hb := B.bytes
  have hr := B.returns
  have hts := atoms_spec (ws := wiX9) B.pre
  have hg : ∀ w ∈ mGw, w.before _ s = true := fun w hw => hts w (List.mem_cons_of_mem _ hw)
  have hown : s.vm.findClass RX9 = some m.cls := findClass_of_methodNamed B.named
  have hin : meth.name = "<init>" := (name_of_methodNamed B.named B.method).1
  subst hsz
  have hD := hD0.self (sz := s.heap.size)
  generalize hAe : va_A [(h0, .inr (7, [.int 0, .int 0, .int 0, .int 0, .int 0, .int 0, .int 0, .int 0, .null, .null, .null, .null, .null, .null, .int 0, .null, .null, .null, .null, .int 0]))] s.heap.size = A at hD ⊢
  have hA : ∀ q : Nat, s.heap.size ≤ q → A q := fun q h => by rw [← hAe]; exact Or.inr h
  have hS : va_S A s.heap s.heap [] := va_S.rf
  have hP : va_P (gD G) vwCl [(h0, .inr (7, [.int 0, .int 0, .int 0, .int 0, .int 0, .int 0, .int 0, .int 0, .null, .null, .null, .null, .null, .null, .int 0, .null, .null, .null, .null, .int 0]))] s.heap := hP
  have hl := lv_entry ([.ref h0]) (n := 1) (Nat.le_of_ble_eq_true rfl)
  rw [lg_entry_eq]
  generalize (lg_sl ([.ref h0]) ++ List.replicate (1 - (lg_sl ([.ref h0])).length) Slot.unset).toArray = ls at hl ⊢
  have hl : lv_has ls 1 [(0, .ref h0)] := hl
  refine lv_aload_n hx hb iX9_0 rfl (lv_at hl 0 rfl) ?_
  refine W.objInit hx hb hown (hg _ (mGw_of (i := 185) (by decide +kernel) (by decide +kernel))) (hg _ (mGw_of (i := 152) (by decide +kernel) (by decide +kernel))) (hg _ (mGw_of (i := 153) (by decide +kernel) (by decide +kernel))) rfl (by rw [hml]; exact hl.1) rfl iX9_1 (Nat.le_of_ble_eq_true rfl) (Nat.le_of_ble_eq_true rfl) ?_
  refine W.eq (g2 := F0 m 4 ls []) rfl ?_
  refine lv_aload_n hx hb iX9_4 rfl (lv_at hl 0 rfl) ?_
  refine lv_iconst hx hb (v := 0) iX9_5 rfl ?_
  refine va_put (D := gD G) (ci := 7) (v := .int 0) (ty := .int) (C := RX9) (T := TX9) (N := 20) hx hb hg ((mCl_ok 7 (RX9, TX9, 20) rfl).1) tyX9 tyX9_ok nmX9 hown hK hP hD hS 0 rfl rfl 0 (by decide) (hg _ (mGw_of (i := 203) (by decide +kernel) (by decide +kernel))) (fun _ h9 => h9) rfl (by decide +kernel) rfl rfl (Nat.le_of_ble_eq_true rfl) iX9_6 (fun H locs hP hD hS => ?_)
  have hP : va_P (gD G) vwCl [(h0, .inr (7, [.int 0, .int 0, .int 0, .int 0, .int 0, .int 0, .int 0, .int 0, .null, .null, .null, .null, .null, .null, .int 0, .null, .null, .null, .null, .int 0]))] H := hP
  have hD : va_D A [(h0, .inr (7, [.int 0, .int 0, .int 0, .int 0, .int 0, .int 0, .int 0, .int 0, .null, .null, .null, .null, .null, .null, .int 0, .null, .null, .null, .null, .int 0]))] := hD
  refine lv_aload_n hx hb iX9_9 rfl (lv_at hl 0 rfl) ?_
  refine lv_iconst hx hb (v := 0) iX9_10 rfl ?_
  refine va_put (D := gD G) (ci := 7) (v := .int 0) (ty := .int) (C := RX9) (T := TX9) (N := 20) hx hb hg ((mCl_ok 7 (RX9, TX9, 20) rfl).1) tyX9 tyX9_ok nmX9 hown hK hP hD hS 0 rfl rfl 1 (by decide) (hg _ (mGw_of (i := 206) (by decide +kernel) (by decide +kernel))) (fun _ h9 => h9) rfl (by decide +kernel) rfl rfl (Nat.le_of_ble_eq_true rfl) iX9_11 (fun H locs hP hD hS => ?_)
  have hP : va_P (gD G) vwCl [(h0, .inr (7, [.int 0, .int 0, .int 0, .int 0, .int 0, .int 0, .int 0, .int 0, .null, .null, .null, .null, .null, .null, .int 0, .null, .null, .null, .null, .int 0]))] H := hP
  have hD : va_D A [(h0, .inr (7, [.int 0, .int 0, .int 0, .int 0, .int 0, .int 0, .int 0, .int 0, .null, .null, .null, .null, .null, .null, .int 0, .null, .null, .null, .null, .int 0]))] := hD
  refine lv_aload_n hx hb iX9_14 rfl (lv_at hl 0 rfl) ?_
  refine lv_iconst hx hb (v := 0) iX9_15 rfl ?_
  refine va_put (D := gD G) (ci := 7) (v := .int 0) (ty := .int) (C := RX9) (T := TX9) (N := 20) hx hb hg ((mCl_ok 7 (RX9, TX9, 20) rfl).1) tyX9 tyX9_ok nmX9 hown hK hP hD hS 0 rfl rfl 2 (by decide) (hg _ (mGw_of (i := 212) (by decide +kernel) (by decide +kernel))) (fun _ h9 => h9) rfl (by decide +kernel) rfl rfl (Nat.le_of_ble_eq_true rfl) iX9_16 (fun H locs hP hD hS => ?_)
  have hP : va_P (gD G) vwCl [(h0, .inr (7, [.int 0, .int 0, .int 0, .int 0, .int 0, .int 0, .int 0, .int 0, .null, .null, .null, .null, .null, .null, .int 0, .null, .null, .null, .null, .int 0]))] H := hP
  have hD : va_D A [(h0, .inr (7, [.int 0, .int 0, .int 0, .int 0, .int 0, .int 0, .int 0, .int 0, .null, .null, .null, .null, .null, .null, .int 0, .null, .null, .null, .null, .int 0]))] := hD
  refine lv_aload_n hx hb iX9_19 rfl (lv_at hl 0 rfl) ?_
  refine lv_iconst hx hb (v := 0) iX9_20 rfl ?_
  refine va_put (D := gD G) (ci := 7) (v := .int 0) (ty := .int) (C := RX9) (T := TX9) (N := 20) hx hb hg ((mCl_ok 7 (RX9, TX9, 20) rfl).1) tyX9 tyX9_ok nmX9 hown hK hP hD hS 0 rfl rfl 3 (by decide) (hg _ (mGw_of (i := 217) (by decide +kernel) (by decide +kernel))) (fun _ h9 => h9) rfl (by decide +kernel) rfl rfl (Nat.le_of_ble_eq_true rfl) iX9_21 (fun H locs hP hD hS => ?_)
  have hP : va_P (gD G) vwCl [(h0, .inr (7, [.int 0, .int 0, .int 0, .int 0, .int 0, .int 0, .int 0, .int 0, .null, .null, .null, .null, .null, .null, .int 0, .null, .null, .null, .null, .int 0]))] H := hP
  have hD : va_D A [(h0, .inr (7, [.int 0, .int 0, .int 0, .int 0, .int 0, .int 0, .int 0, .int 0, .null, .null, .null, .null, .null, .null, .int 0, .null, .null, .null, .null, .int 0]))] := hD
  refine lv_aload_n hx hb iX9_24 rfl (lv_at hl 0 rfl) ?_
  refine lv_iconst hx hb (v := 0) iX9_25 rfl ?_
  refine va_put (D := gD G) (ci := 7) (v := .int 0) (ty := .int) (C := RX9) (T := TX9) (N := 20) hx hb hg ((mCl_ok 7 (RX9, TX9, 20) rfl).1) tyX9 tyX9_ok nmX9 hown hK hP hD hS 0 rfl rfl 4 (by decide) (hg _ (mGw_of (i := 221) (by decide +kernel) (by decide +kernel))) (fun _ h9 => h9) rfl (by decide +kernel) rfl rfl (Nat.le_of_ble_eq_true rfl) iX9_26 (fun H locs hP hD hS => ?_)
  have hP : va_P (gD G) vwCl [(h0, .inr (7, [.int 0, .int 0, .int 0, .int 0, .int 0, .int 0, .int 0, .int 0, .null, .null, .null, .null, .null, .null, .int 0, .null, .null, .null, .null, .int 0]))] H := hP
  have hD : va_D A [(h0, .inr (7, [.int 0, .int 0, .int 0, .int 0, .int 0, .int 0, .int 0, .int 0, .null, .null, .null, .null, .null, .null, .int 0, .null, .null, .null, .null, .int 0]))] := hD
  refine lv_aload_n hx hb iX9_29 rfl (lv_at hl 0 rfl) ?_
  refine lv_iconst hx hb (v := 1) iX9_30 rfl ?_
  refine va_put (D := gD G) (ci := 7) (v := .int 1) (ty := .int) (C := RX9) (T := TX9) (N := 20) hx hb hg ((mCl_ok 7 (RX9, TX9, 20) rfl).1) tyX9 tyX9_ok nmX9 hown hK hP hD hS 0 rfl rfl 5 (by decide) (hg _ (mGw_of (i := 224) (by decide +kernel) (by decide +kernel))) (fun _ h9 => h9) rfl (by decide +kernel) rfl rfl (Nat.le_of_ble_eq_true rfl) iX9_31 (fun H locs hP hD hS => ?_)
  have hP : va_P (gD G) vwCl [(h0, .inr (7, [.int 0, .int 0, .int 0, .int 0, .int 0, .int 1, .int 0, .int 0, .null, .null, .null, .null, .null, .null, .int 0, .null, .null, .null, .null, .int 0]))] H := hP
  have hD : va_D A [(h0, .inr (7, [.int 0, .int 0, .int 0, .int 0, .int 0, .int 1, .int 0, .int 0, .null, .null, .null, .null, .null, .null, .int 0, .null, .null, .null, .null, .int 0]))] := hD
  refine lv_aload_n hx hb iX9_34 rfl (lv_at hl 0 rfl) ?_
  refine lv_iconst hx hb (v := 1) iX9_35 rfl ?_
  refine va_put (D := gD G) (ci := 7) (v := .int 1) (ty := .int) (C := RX9) (T := TX9) (N := 20) hx hb hg ((mCl_ok 7 (RX9, TX9, 20) rfl).1) tyX9 tyX9_ok nmX9 hown hK hP hD hS 0 rfl rfl 6 (by decide) (hg _ (mGw_of (i := 227) (by decide +kernel) (by decide +kernel))) (fun _ h9 => h9) rfl (by decide +kernel) rfl rfl (Nat.le_of_ble_eq_true rfl) iX9_36 (fun H locs hP hD hS => ?_)
  have hP : va_P (gD G) vwCl [(h0, .inr (7, [.int 0, .int 0, .int 0, .int 0, .int 0, .int 1, .int 1, .int 0, .null, .null, .null, .null, .null, .null, .int 0, .null, .null, .null, .null, .int 0]))] H := hP
  have hD : va_D A [(h0, .inr (7, [.int 0, .int 0, .int 0, .int 0, .int 0, .int 1, .int 1, .int 0, .null, .null, .null, .null, .null, .null, .int 0, .null, .null, .null, .null, .int 0]))] := hD
  refine lv_aload_n hx hb iX9_39 rfl (lv_at hl 0 rfl) ?_
  refine lv_iconst hx hb (v := 0) iX9_40 rfl ?_
  refine va_put (D := gD G) (ci := 7) (v := .int 0) (ty := .int) (C := RX9) (T := TX9) (N := 20) hx hb hg ((mCl_ok 7 (RX9, TX9, 20) rfl).1) tyX9 tyX9_ok nmX9 hown hK hP hD hS 0 rfl rfl 7 (by decide) (hg _ (mGw_of (i := 229) (by decide +kernel) (by decide +kernel))) (fun _ h9 => h9) rfl (by decide +kernel) rfl rfl (Nat.le_of_ble_eq_true rfl) iX9_41 (fun H locs hP hD hS => ?_)
  have hP : va_P (gD G) vwCl [(h0, .inr (7, [.int 0, .int 0, .int 0, .int 0, .int 0, .int 1, .int 1, .int 0, .null, .null, .null, .null, .null, .null, .int 0, .null, .null, .null, .null, .int 0]))] H := hP
  have hD : va_D A [(h0, .inr (7, [.int 0, .int 0, .int 0, .int 0, .int 0, .int 1, .int 1, .int 0, .null, .null, .null, .null, .null, .null, .int 0, .null, .null, .null, .null, .int 0]))] := hD
  refine lv_aload_n hx hb iX9_44 rfl (lv_at hl 0 rfl) ?_
  refine lv_bipush hx hb (v := 8) iX9_45 rfl ?_
  refine va_nw hx hb (atype := .int) (ty := .int) (hg _ (mGw_of (i := 179) (by decide +kernel) (by decide +kernel))) rfl hK hP hD hS hA (t0 := 0) (cI := gC G 10) rfl (fun _ _ h => ra_int h) (N' := 8) (a0 := (8, .inl (fun _ => 0))) (fun _ => rfl) (by decide) (by decide) (by decide) (Nat.le_of_ble_eq_true rfl) (Nat.le_of_ble_eq_true rfl) iX9_47 (fun q47 H hP hD hS => ?_)
  have hP : va_P (gD G) vwCl [(h0, .inr (7, [.int 0, .int 0, .int 0, .int 0, .int 0, .int 1, .int 1, .int 0, .null, .null, .null, .null, .null, .null, .int 0, .null, .null, .null, .null, .int 0])), (q47, .inl (gC G 10, 8, .inl (fun _ => 0)))] H := hP
  have hD : va_D A [(h0, .inr (7, [.int 0, .int 0, .int 0, .int 0, .int 0, .int 1, .int 1, .int 0, .null, .null, .null, .null, .null, .null, .int 0, .null, .null, .null, .null, .int 0])), (q47, .inl (gC G 10, 8, .inl (fun _ => 0)))] := hD
  refine W.cs (cells' := 1) (slots' := 8) (by omega) (by omega) ?_
  refine va_putF (D := gD G) (ci := 7) (v := .ref q47) (ty := .array .int) (C := RX9) (T := TX9) (N := 20) hx hb hg ((mCl_ok 7 (RX9, TX9, 20) rfl).1) tyX9 tyX9_ok nmX9 hown hK hP hD hS 0 rfl rfl 8 (by decide) (hg _ (mGw_of (i := 231) (by decide +kernel) (by decide +kernel))) (fun _ h9 => h9) rfl hin rfl (by decide +kernel) rfl rfl (Nat.le_of_ble_eq_true rfl) iX9_49 (fun H locs hP hD hS => ?_)
  have hP : va_P (gD G) vwCl [(h0, .inr (7, [.int 0, .int 0, .int 0, .int 0, .int 0, .int 1, .int 1, .int 0, .ref q47, .null, .null, .null, .null, .null, .int 0, .null, .null, .null, .null, .int 0])), (q47, .inl (gC G 10, 8, .inl (fun _ => 0)))] H := hP
  have hD : va_D A [(h0, .inr (7, [.int 0, .int 0, .int 0, .int 0, .int 0, .int 1, .int 1, .int 0, .ref q47, .null, .null, .null, .null, .null, .int 0, .null, .null, .null, .null, .int 0])), (q47, .inl (gC G 10, 8, .inl (fun _ => 0)))] := hD
  refine lv_aload_n hx hb iX9_52 rfl (lv_at hl 0 rfl) ?_
  refine lv_bipush hx hb (v := 8) iX9_53 rfl ?_
  refine va_nw hx hb (atype := .int) (ty := .int) (hg _ (mGw_of (i := 179) (by decide +kernel) (by decide +kernel))) rfl hK hP hD hS hA (t0 := 0) (cI := gC G 10) rfl (fun _ _ h => ra_int h) (N' := 8) (a0 := (8, .inl (fun _ => 0))) (fun _ => rfl) (by decide) (by decide) (by decide) (Nat.le_of_ble_eq_true rfl) (Nat.le_of_ble_eq_true rfl) iX9_55 (fun q55 H hP hD hS => ?_)
  have hP : va_P (gD G) vwCl [(h0, .inr (7, [.int 0, .int 0, .int 0, .int 0, .int 0, .int 1, .int 1, .int 0, .ref q47, .null, .null, .null, .null, .null, .int 0, .null, .null, .null, .null, .int 0])), (q47, .inl (gC G 10, 8, .inl (fun _ => 0))), (q55, .inl (gC G 10, 8, .inl (fun _ => 0)))] H := hP
  have hD : va_D A [(h0, .inr (7, [.int 0, .int 0, .int 0, .int 0, .int 0, .int 1, .int 1, .int 0, .ref q47, .null, .null, .null, .null, .null, .int 0, .null, .null, .null, .null, .int 0])), (q47, .inl (gC G 10, 8, .inl (fun _ => 0))), (q55, .inl (gC G 10, 8, .inl (fun _ => 0)))] := hD
  refine W.cs (cells' := 2) (slots' := 16) (by omega) (by omega) ?_
  refine va_putF (D := gD G) (ci := 7) (v := .ref q55) (ty := .array .int) (C := RX9) (T := TX9) (N := 20) hx hb hg ((mCl_ok 7 (RX9, TX9, 20) rfl).1) tyX9 tyX9_ok nmX9 hown hK hP hD hS 0 rfl rfl 9 (by decide) (hg _ (mGw_of (i := 234) (by decide +kernel) (by decide +kernel))) (fun _ h9 => h9) rfl hin rfl (by decide +kernel) rfl rfl (Nat.le_of_ble_eq_true rfl) iX9_57 (fun H locs hP hD hS => ?_)
  have hP : va_P (gD G) vwCl [(h0, .inr (7, [.int 0, .int 0, .int 0, .int 0, .int 0, .int 1, .int 1, .int 0, .ref q47, .ref q55, .null, .null, .null, .null, .int 0, .null, .null, .null, .null, .int 0])), (q47, .inl (gC G 10, 8, .inl (fun _ => 0))), (q55, .inl (gC G 10, 8, .inl (fun _ => 0)))] H := hP
  have hD : va_D A [(h0, .inr (7, [.int 0, .int 0, .int 0, .int 0, .int 0, .int 1, .int 1, .int 0, .ref q47, .ref q55, .null, .null, .null, .null, .int 0, .null, .null, .null, .null, .int 0])), (q47, .inl (gC G 10, 8, .inl (fun _ => 0))), (q55, .inl (gC G 10, 8, .inl (fun _ => 0)))] := hD
  refine lv_aload_n hx hb iX9_60 rfl (lv_at hl 0 rfl) ?_
  refine lv_bipush hx hb (v := 8) iX9_61 rfl ?_
  refine va_nw hx hb (atype := .int) (ty := .int) (hg _ (mGw_of (i := 179) (by decide +kernel) (by decide +kernel))) rfl hK hP hD hS hA (t0 := 0) (cI := gC G 10) rfl (fun _ _ h => ra_int h) (N' := 8) (a0 := (8, .inl (fun _ => 0))) (fun _ => rfl) (by decide) (by decide) (by decide) (Nat.le_of_ble_eq_true rfl) (Nat.le_of_ble_eq_true rfl) iX9_63 (fun q63 H hP hD hS => ?_)
  have hP : va_P (gD G) vwCl [(h0, .inr (7, [.int 0, .int 0, .int 0, .int 0, .int 0, .int 1, .int 1, .int 0, .ref q47, .ref q55, .null, .null, .null, .null, .int 0, .null, .null, .null, .null, .int 0])), (q47, .inl (gC G 10, 8, .inl (fun _ => 0))), (q55, .inl (gC G 10, 8, .inl (fun _ => 0))), (q63, .inl (gC G 10, 8, .inl (fun _ => 0)))] H := hP
  have hD : va_D A [(h0, .inr (7, [.int 0, .int 0, .int 0, .int 0, .int 0, .int 1, .int 1, .int 0, .ref q47, .ref q55, .null, .null, .null, .null, .int 0, .null, .null, .null, .null, .int 0])), (q47, .inl (gC G 10, 8, .inl (fun _ => 0))), (q55, .inl (gC G 10, 8, .inl (fun _ => 0))), (q63, .inl (gC G 10, 8, .inl (fun _ => 0)))] := hD
  refine W.cs (cells' := 3) (slots' := 24) (by omega) (by omega) ?_
  refine va_putF (D := gD G) (ci := 7) (v := .ref q63) (ty := .array .int) (C := RX9) (T := TX9) (N := 20) hx hb hg ((mCl_ok 7 (RX9, TX9, 20) rfl).1) tyX9 tyX9_ok nmX9 hown hK hP hD hS 0 rfl rfl 10 (by decide) (hg _ (mGw_of (i := 236) (by decide +kernel) (by decide +kernel))) (fun _ h9 => h9) rfl hin rfl (by decide +kernel) rfl rfl (Nat.le_of_ble_eq_true rfl) iX9_65 (fun H locs hP hD hS => ?_)
  have hP : va_P (gD G) vwCl [(h0, .inr (7, [.int 0, .int 0, .int 0, .int 0, .int 0, .int 1, .int 1, .int 0, .ref q47, .ref q55, .ref q63, .null, .null, .null, .int 0, .null, .null, .null, .null, .int 0])), (q47, .inl (gC G 10, 8, .inl (fun _ => 0))), (q55, .inl (gC G 10, 8, .inl (fun _ => 0))), (q63, .inl (gC G 10, 8, .inl (fun _ => 0)))] H := hP
  have hD : va_D A [(h0, .inr (7, [.int 0, .int 0, .int 0, .int 0, .int 0, .int 1, .int 1, .int 0, .ref q47, .ref q55, .ref q63, .null, .null, .null, .int 0, .null, .null, .null, .null, .int 0])), (q47, .inl (gC G 10, 8, .inl (fun _ => 0))), (q55, .inl (gC G 10, 8, .inl (fun _ => 0))), (q63, .inl (gC G 10, 8, .inl (fun _ => 0)))] := hD
  refine lv_aload_n hx hb iX9_68 rfl (lv_at hl 0 rfl) ?_
  refine lv_bipush hx hb (v := 8) iX9_69 rfl ?_
  refine va_nw hx hb (atype := .int) (ty := .int) (hg _ (mGw_of (i := 179) (by decide +kernel) (by decide +kernel))) rfl hK hP hD hS hA (t0 := 0) (cI := gC G 10) rfl (fun _ _ h => ra_int h) (N' := 8) (a0 := (8, .inl (fun _ => 0))) (fun _ => rfl) (by decide) (by decide) (by decide) (Nat.le_of_ble_eq_true rfl) (Nat.le_of_ble_eq_true rfl) iX9_71 (fun q71 H hP hD hS => ?_)
  have hP : va_P (gD G) vwCl [(h0, .inr (7, [.int 0, .int 0, .int 0, .int 0, .int 0, .int 1, .int 1, .int 0, .ref q47, .ref q55, .ref q63, .null, .null, .null, .int 0, .null, .null, .null, .null, .int 0])), (q47, .inl (gC G 10, 8, .inl (fun _ => 0))), (q55, .inl (gC G 10, 8, .inl (fun _ => 0))), (q63, .inl (gC G 10, 8, .inl (fun _ => 0))), (q71, .inl (gC G 10, 8, .inl (fun _ => 0)))] H := hP
  have hD : va_D A [(h0, .inr (7, [.int 0, .int 0, .int 0, .int 0, .int 0, .int 1, .int 1, .int 0, .ref q47, .ref q55, .ref q63, .null, .null, .null, .int 0, .null, .null, .null, .null, .int 0])), (q47, .inl (gC G 10, 8, .inl (fun _ => 0))), (q55, .inl (gC G 10, 8, .inl (fun _ => 0))), (q63, .inl (gC G 10, 8, .inl (fun _ => 0))), (q71, .inl (gC G 10, 8, .inl (fun _ => 0)))] := hD
  refine W.cs (cells' := 4) (slots' := 32) (by omega) (by omega) ?_
  refine va_putF (D := gD G) (ci := 7) (v := .ref q71) (ty := .array .int) (C := RX9) (T := TX9) (N := 20) hx hb hg ((mCl_ok 7 (RX9, TX9, 20) rfl).1) tyX9 tyX9_ok nmX9 hown hK hP hD hS 0 rfl rfl 11 (by decide) (hg _ (mGw_of (i := 239) (by decide +kernel) (by decide +kernel))) (fun _ h9 => h9) rfl hin rfl (by decide +kernel) rfl rfl (Nat.le_of_ble_eq_true rfl) iX9_73 (fun H locs hP hD hS => ?_)
  have hP : va_P (gD G) vwCl [(h0, .inr (7, [.int 0, .int 0, .int 0, .int 0, .int 0, .int 1, .int 1, .int 0, .ref q47, .ref q55, .ref q63, .ref q71, .null, .null, .int 0, .null, .null, .null, .null, .int 0])), (q47, .inl (gC G 10, 8, .inl (fun _ => 0))), (q55, .inl (gC G 10, 8, .inl (fun _ => 0))), (q63, .inl (gC G 10, 8, .inl (fun _ => 0))), (q71, .inl (gC G 10, 8, .inl (fun _ => 0)))] H := hP
  have hD : va_D A [(h0, .inr (7, [.int 0, .int 0, .int 0, .int 0, .int 0, .int 1, .int 1, .int 0, .ref q47, .ref q55, .ref q63, .ref q71, .null, .null, .int 0, .null, .null, .null, .null, .int 0])), (q47, .inl (gC G 10, 8, .inl (fun _ => 0))), (q55, .inl (gC G 10, 8, .inl (fun _ => 0))), (q63, .inl (gC G 10, 8, .inl (fun _ => 0))), (q71, .inl (gC G 10, 8, .inl (fun _ => 0)))] := hD
  refine lv_aload_n hx hb iX9_76 rfl (lv_at hl 0 rfl) ?_
  refine lv_bipush hx hb (v := 8) iX9_77 rfl ?_
  refine va_nw hx hb (atype := .int) (ty := .int) (hg _ (mGw_of (i := 179) (by decide +kernel) (by decide +kernel))) rfl hK hP hD hS hA (t0 := 0) (cI := gC G 10) rfl (fun _ _ h => ra_int h) (N' := 8) (a0 := (8, .inl (fun _ => 0))) (fun _ => rfl) (by decide) (by decide) (by decide) (Nat.le_of_ble_eq_true rfl) (Nat.le_of_ble_eq_true rfl) iX9_79 (fun q79 H hP hD hS => ?_)
  have hP : va_P (gD G) vwCl [(h0, .inr (7, [.int 0, .int 0, .int 0, .int 0, .int 0, .int 1, .int 1, .int 0, .ref q47, .ref q55, .ref q63, .ref q71, .null, .null, .int 0, .null, .null, .null, .null, .int 0])), (q47, .inl (gC G 10, 8, .inl (fun _ => 0))), (q55, .inl (gC G 10, 8, .inl (fun _ => 0))), (q63, .inl (gC G 10, 8, .inl (fun _ => 0))), (q71, .inl (gC G 10, 8, .inl (fun _ => 0))), (q79, .inl (gC G 10, 8, .inl (fun _ => 0)))] H := hP
  have hD : va_D A [(h0, .inr (7, [.int 0, .int 0, .int 0, .int 0, .int 0, .int 1, .int 1, .int 0, .ref q47, .ref q55, .ref q63, .ref q71, .null, .null, .int 0, .null, .null, .null, .null, .int 0])), (q47, .inl (gC G 10, 8, .inl (fun _ => 0))), (q55, .inl (gC G 10, 8, .inl (fun _ => 0))), (q63, .inl (gC G 10, 8, .inl (fun _ => 0))), (q71, .inl (gC G 10, 8, .inl (fun _ => 0))), (q79, .inl (gC G 10, 8, .inl (fun _ => 0)))] := hD
  refine W.cs (cells' := 5) (slots' := 40) (by omega) (by omega) ?_
  refine va_putF (D := gD G) (ci := 7) (v := .ref q79) (ty := .array .int) (C := RX9) (T := TX9) (N := 20) hx hb hg ((mCl_ok 7 (RX9, TX9, 20) rfl).1) tyX9 tyX9_ok nmX9 hown hK hP hD hS 0 rfl rfl 12 (by decide) (hg _ (mGw_of (i := 242) (by decide +kernel) (by decide +kernel))) (fun _ h9 => h9) rfl hin rfl (by decide +kernel) rfl rfl (Nat.le_of_ble_eq_true rfl) iX9_81 (fun H locs hP hD hS => ?_)
  have hP : va_P (gD G) vwCl [(h0, .inr (7, [.int 0, .int 0, .int 0, .int 0, .int 0, .int 1, .int 1, .int 0, .ref q47, .ref q55, .ref q63, .ref q71, .ref q79, .null, .int 0, .null, .null, .null, .null, .int 0])), (q47, .inl (gC G 10, 8, .inl (fun _ => 0))), (q55, .inl (gC G 10, 8, .inl (fun _ => 0))), (q63, .inl (gC G 10, 8, .inl (fun _ => 0))), (q71, .inl (gC G 10, 8, .inl (fun _ => 0))), (q79, .inl (gC G 10, 8, .inl (fun _ => 0)))] H := hP
  have hD : va_D A [(h0, .inr (7, [.int 0, .int 0, .int 0, .int 0, .int 0, .int 1, .int 1, .int 0, .ref q47, .ref q55, .ref q63, .ref q71, .ref q79, .null, .int 0, .null, .null, .null, .null, .int 0])), (q47, .inl (gC G 10, 8, .inl (fun _ => 0))), (q55, .inl (gC G 10, 8, .inl (fun _ => 0))), (q63, .inl (gC G 10, 8, .inl (fun _ => 0))), (q71, .inl (gC G 10, 8, .inl (fun _ => 0))), (q79, .inl (gC G 10, 8, .inl (fun _ => 0)))] := hD
  refine lv_aload_n hx hb iX9_84 rfl (lv_at hl 0 rfl) ?_
  refine lv_bipush hx hb (v := 8) iX9_85 rfl ?_
  refine va_nw hx hb (atype := .int) (ty := .int) (hg _ (mGw_of (i := 179) (by decide +kernel) (by decide +kernel))) rfl hK hP hD hS hA (t0 := 0) (cI := gC G 10) rfl (fun _ _ h => ra_int h) (N' := 8) (a0 := (8, .inl (fun _ => 0))) (fun _ => rfl) (by decide) (by decide) (by decide) (Nat.le_of_ble_eq_true rfl) (Nat.le_of_ble_eq_true rfl) iX9_87 (fun q87 H hP hD hS => ?_)
  have hP : va_P (gD G) vwCl [(h0, .inr (7, [.int 0, .int 0, .int 0, .int 0, .int 0, .int 1, .int 1, .int 0, .ref q47, .ref q55, .ref q63, .ref q71, .ref q79, .null, .int 0, .null, .null, .null, .null, .int 0])), (q47, .inl (gC G 10, 8, .inl (fun _ => 0))), (q55, .inl (gC G 10, 8, .inl (fun _ => 0))), (q63, .inl (gC G 10, 8, .inl (fun _ => 0))), (q71, .inl (gC G 10, 8, .inl (fun _ => 0))), (q79, .inl (gC G 10, 8, .inl (fun _ => 0))), (q87, .inl (gC G 10, 8, .inl (fun _ => 0)))] H := hP
  have hD : va_D A [(h0, .inr (7, [.int 0, .int 0, .int 0, .int 0, .int 0, .int 1, .int 1, .int 0, .ref q47, .ref q55, .ref q63, .ref q71, .ref q79, .null, .int 0, .null, .null, .null, .null, .int 0])), (q47, .inl (gC G 10, 8, .inl (fun _ => 0))), (q55, .inl (gC G 10, 8, .inl (fun _ => 0))), (q63, .inl (gC G 10, 8, .inl (fun _ => 0))), (q71, .inl (gC G 10, 8, .inl (fun _ => 0))), (q79, .inl (gC G 10, 8, .inl (fun _ => 0))), (q87, .inl (gC G 10, 8, .inl (fun _ => 0)))] := hD
  refine W.cs (cells' := 6) (slots' := 48) (by omega) (by omega) ?_
  refine va_putF (D := gD G) (ci := 7) (v := .ref q87) (ty := .array .int) (C := RX9) (T := TX9) (N := 20) hx hb hg ((mCl_ok 7 (RX9, TX9, 20) rfl).1) tyX9 tyX9_ok nmX9 hown hK hP hD hS 0 rfl rfl 13 (by decide) (hg _ (mGw_of (i := 245) (by decide +kernel) (by decide +kernel))) (fun _ h9 => h9) rfl hin rfl (by decide +kernel) rfl rfl (Nat.le_of_ble_eq_true rfl) iX9_89 (fun H locs hP hD hS => ?_)
  have hP : va_P (gD G) vwCl [(h0, .inr (7, [.int 0, .int 0, .int 0, .int 0, .int 0, .int 1, .int 1, .int 0, .ref q47, .ref q55, .ref q63, .ref q71, .ref q79, .ref q87, .int 0, .null, .null, .null, .null, .int 0])), (q47, .inl (gC G 10, 8, .inl (fun _ => 0))), (q55, .inl (gC G 10, 8, .inl (fun _ => 0))), (q63, .inl (gC G 10, 8, .inl (fun _ => 0))), (q71, .inl (gC G 10, 8, .inl (fun _ => 0))), (q79, .inl (gC G 10, 8, .inl (fun _ => 0))), (q87, .inl (gC G 10, 8, .inl (fun _ => 0)))] H := hP
  have hD : va_D A [(h0, .inr (7, [.int 0, .int 0, .int 0, .int 0, .int 0, .int 1, .int 1, .int 0, .ref q47, .ref q55, .ref q63, .ref q71, .ref q79, .ref q87, .int 0, .null, .null, .null, .null, .int 0])), (q47, .inl (gC G 10, 8, .inl (fun _ => 0))), (q55, .inl (gC G 10, 8, .inl (fun _ => 0))), (q63, .inl (gC G 10, 8, .inl (fun _ => 0))), (q71, .inl (gC G 10, 8, .inl (fun _ => 0))), (q79, .inl (gC G 10, 8, .inl (fun _ => 0))), (q87, .inl (gC G 10, 8, .inl (fun _ => 0)))] := hD
  refine lv_aload_n hx hb iX9_92 rfl (lv_at hl 0 rfl) ?_
  refine lv_iconst hx hb (v := 0) iX9_93 rfl ?_
  refine va_put (D := gD G) (ci := 7) (v := .int 0) (ty := .int) (C := RX9) (T := TX9) (N := 20) hx hb hg ((mCl_ok 7 (RX9, TX9, 20) rfl).1) tyX9 tyX9_ok nmX9 hown hK hP hD hS 0 rfl rfl 14 (by decide) (hg _ (mGw_of (i := 248) (by decide +kernel) (by decide +kernel))) (fun _ h9 => h9) rfl (by decide +kernel) rfl rfl (Nat.le_of_ble_eq_true rfl) iX9_94 (fun H locs hP hD hS => ?_)
  have hP : va_P (gD G) vwCl [(h0, .inr (7, [.int 0, .int 0, .int 0, .int 0, .int 0, .int 1, .int 1, .int 0, .ref q47, .ref q55, .ref q63, .ref q71, .ref q79, .ref q87, .int 0, .null, .null, .null, .null, .int 0])), (q47, .inl (gC G 10, 8, .inl (fun _ => 0))), (q55, .inl (gC G 10, 8, .inl (fun _ => 0))), (q63, .inl (gC G 10, 8, .inl (fun _ => 0))), (q71, .inl (gC G 10, 8, .inl (fun _ => 0))), (q79, .inl (gC G 10, 8, .inl (fun _ => 0))), (q87, .inl (gC G 10, 8, .inl (fun _ => 0)))] H := hP
  have hD : va_D A [(h0, .inr (7, [.int 0, .int 0, .int 0, .int 0, .int 0, .int 1, .int 1, .int 0, .ref q47, .ref q55, .ref q63, .ref q71, .ref q79, .ref q87, .int 0, .null, .null, .null, .null, .int 0])), (q47, .inl (gC G 10, 8, .inl (fun _ => 0))), (q55, .inl (gC G 10, 8, .inl (fun _ => 0))), (q63, .inl (gC G 10, 8, .inl (fun _ => 0))), (q71, .inl (gC G 10, 8, .inl (fun _ => 0))), (q79, .inl (gC G 10, 8, .inl (fun _ => 0))), (q87, .inl (gC G 10, 8, .inl (fun _ => 0)))] := hD
  refine lv_aload_n hx hb iX9_97 rfl (lv_at hl 0 rfl) ?_
  refine lv_bipush hx hb (v := 8) iX9_98 rfl ?_
  refine va_nw hx hb (atype := .int) (ty := .int) (hg _ (mGw_of (i := 179) (by decide +kernel) (by decide +kernel))) rfl hK hP hD hS hA (t0 := 0) (cI := gC G 10) rfl (fun _ _ h => ra_int h) (N' := 8) (a0 := (8, .inl (fun _ => 0))) (fun _ => rfl) (by decide) (by decide) (by decide) (Nat.le_of_ble_eq_true rfl) (Nat.le_of_ble_eq_true rfl) iX9_100 (fun q100 H hP hD hS => ?_)
  have hP : va_P (gD G) vwCl [(h0, .inr (7, [.int 0, .int 0, .int 0, .int 0, .int 0, .int 1, .int 1, .int 0, .ref q47, .ref q55, .ref q63, .ref q71, .ref q79, .ref q87, .int 0, .null, .null, .null, .null, .int 0])), (q47, .inl (gC G 10, 8, .inl (fun _ => 0))), (q55, .inl (gC G 10, 8, .inl (fun _ => 0))), (q63, .inl (gC G 10, 8, .inl (fun _ => 0))), (q71, .inl (gC G 10, 8, .inl (fun _ => 0))), (q79, .inl (gC G 10, 8, .inl (fun _ => 0))), (q87, .inl (gC G 10, 8, .inl (fun _ => 0))), (q100, .inl (gC G 10, 8, .inl (fun _ => 0)))] H := hP
  have hD : va_D A [(h0, .inr (7, [.int 0, .int 0, .int 0, .int 0, .int 0, .int 1, .int 1, .int 0, .ref q47, .ref q55, .ref q63, .ref q71, .ref q79, .ref q87, .int 0, .null, .null, .null, .null, .int 0])), (q47, .inl (gC G 10, 8, .inl (fun _ => 0))), (q55, .inl (gC G 10, 8, .inl (fun _ => 0))), (q63, .inl (gC G 10, 8, .inl (fun _ => 0))), (q71, .inl (gC G 10, 8, .inl (fun _ => 0))), (q79, .inl (gC G 10, 8, .inl (fun _ => 0))), (q87, .inl (gC G 10, 8, .inl (fun _ => 0))), (q100, .inl (gC G 10, 8, .inl (fun _ => 0)))] := hD
  refine W.cs (cells' := 7) (slots' := 56) (by omega) (by omega) ?_
  refine va_putF (D := gD G) (ci := 7) (v := .ref q100) (ty := .array .int) (C := RX9) (T := TX9) (N := 20) hx hb hg ((mCl_ok 7 (RX9, TX9, 20) rfl).1) tyX9 tyX9_ok nmX9 hown hK hP hD hS 0 rfl rfl 15 (by decide) (hg _ (mGw_of (i := 250) (by decide +kernel) (by decide +kernel))) (fun _ h9 => h9) rfl hin rfl (by decide +kernel) rfl rfl (Nat.le_of_ble_eq_true rfl) iX9_102 (fun H locs hP hD hS => ?_)
  have hP : va_P (gD G) vwCl [(h0, .inr (7, [.int 0, .int 0, .int 0, .int 0, .int 0, .int 1, .int 1, .int 0, .ref q47, .ref q55, .ref q63, .ref q71, .ref q79, .ref q87, .int 0, .ref q100, .null, .null, .null, .int 0])), (q47, .inl (gC G 10, 8, .inl (fun _ => 0))), (q55, .inl (gC G 10, 8, .inl (fun _ => 0))), (q63, .inl (gC G 10, 8, .inl (fun _ => 0))), (q71, .inl (gC G 10, 8, .inl (fun _ => 0))), (q79, .inl (gC G 10, 8, .inl (fun _ => 0))), (q87, .inl (gC G 10, 8, .inl (fun _ => 0))), (q100, .inl (gC G 10, 8, .inl (fun _ => 0)))] H := hP
  have hD : va_D A [(h0, .inr (7, [.int 0, .int 0, .int 0, .int 0, .int 0, .int 1, .int 1, .int 0, .ref q47, .ref q55, .ref q63, .ref q71, .ref q79, .ref q87, .int 0, .ref q100, .null, .null, .null, .int 0])), (q47, .inl (gC G 10, 8, .inl (fun _ => 0))), (q55, .inl (gC G 10, 8, .inl (fun _ => 0))), (q63, .inl (gC G 10, 8, .inl (fun _ => 0))), (q71, .inl (gC G 10, 8, .inl (fun _ => 0))), (q79, .inl (gC G 10, 8, .inl (fun _ => 0))), (q87, .inl (gC G 10, 8, .inl (fun _ => 0))), (q100, .inl (gC G 10, 8, .inl (fun _ => 0)))] := hD
  refine lv_aload_n hx hb iX9_105 rfl (lv_at hl 0 rfl) ?_
  refine lv_bipush hx hb (v := 8) iX9_106 rfl ?_
  refine va_nw hx hb (atype := .int) (ty := .int) (hg _ (mGw_of (i := 179) (by decide +kernel) (by decide +kernel))) rfl hK hP hD hS hA (t0 := 0) (cI := gC G 10) rfl (fun _ _ h => ra_int h) (N' := 8) (a0 := (8, .inl (fun _ => 0))) (fun _ => rfl) (by decide) (by decide) (by decide) (Nat.le_of_ble_eq_true rfl) (Nat.le_of_ble_eq_true rfl) iX9_108 (fun q108 H hP hD hS => ?_)
  have hP : va_P (gD G) vwCl [(h0, .inr (7, [.int 0, .int 0, .int 0, .int 0, .int 0, .int 1, .int 1, .int 0, .ref q47, .ref q55, .ref q63, .ref q71, .ref q79, .ref q87, .int 0, .ref q100, .null, .null, .null, .int 0])), (q47, .inl (gC G 10, 8, .inl (fun _ => 0))), (q55, .inl (gC G 10, 8, .inl (fun _ => 0))), (q63, .inl (gC G 10, 8, .inl (fun _ => 0))), (q71, .inl (gC G 10, 8, .inl (fun _ => 0))), (q79, .inl (gC G 10, 8, .inl (fun _ => 0))), (q87, .inl (gC G 10, 8, .inl (fun _ => 0))), (q100, .inl (gC G 10, 8, .inl (fun _ => 0))), (q108, .inl (gC G 10, 8, .inl (fun _ => 0)))] H := hP
  have hD : va_D A [(h0, .inr (7, [.int 0, .int 0, .int 0, .int 0, .int 0, .int 1, .int 1, .int 0, .ref q47, .ref q55, .ref q63, .ref q71, .ref q79, .ref q87, .int 0, .ref q100, .null, .null, .null, .int 0])), (q47, .inl (gC G 10, 8, .inl (fun _ => 0))), (q55, .inl (gC G 10, 8, .inl (fun _ => 0))), (q63, .inl (gC G 10, 8, .inl (fun _ => 0))), (q71, .inl (gC G 10, 8, .inl (fun _ => 0))), (q79, .inl (gC G 10, 8, .inl (fun _ => 0))), (q87, .inl (gC G 10, 8, .inl (fun _ => 0))), (q100, .inl (gC G 10, 8, .inl (fun _ => 0))), (q108, .inl (gC G 10, 8, .inl (fun _ => 0)))] := hD
  refine W.cs (cells' := 8) (slots' := 64) (by omega) (by omega) ?_
  refine va_putF (D := gD G) (ci := 7) (v := .ref q108) (ty := .array .int) (C := RX9) (T := TX9) (N := 20) hx hb hg ((mCl_ok 7 (RX9, TX9, 20) rfl).1) tyX9 tyX9_ok nmX9 hown hK hP hD hS 0 rfl rfl 16 (by decide) (hg _ (mGw_of (i := 254) (by decide +kernel) (by decide +kernel))) (fun _ h9 => h9) rfl hin rfl (by decide +kernel) rfl rfl (Nat.le_of_ble_eq_true rfl) iX9_110 (fun H locs hP hD hS => ?_)
  have hP : va_P (gD G) vwCl [(h0, .inr (7, [.int 0, .int 0, .int 0, .int 0, .int 0, .int 1, .int 1, .int 0, .ref q47, .ref q55, .ref q63, .ref q71, .ref q79, .ref q87, .int 0, .ref q100, .ref q108, .null, .null, .int 0])), (q47, .inl (gC G 10, 8, .inl (fun _ => 0))), (q55, .inl (gC G 10, 8, .inl (fun _ => 0))), (q63, .inl (gC G 10, 8, .inl (fun _ => 0))), (q71, .inl (gC G 10, 8, .inl (fun _ => 0))), (q79, .inl (gC G 10, 8, .inl (fun _ => 0))), (q87, .inl (gC G 10, 8, .inl (fun _ => 0))), (q100, .inl (gC G 10, 8, .inl (fun _ => 0))), (q108, .inl (gC G 10, 8, .inl (fun _ => 0)))] H := hP
  have hD : va_D A [(h0, .inr (7, [.int 0, .int 0, .int 0, .int 0, .int 0, .int 1, .int 1, .int 0, .ref q47, .ref q55, .ref q63, .ref q71, .ref q79, .ref q87, .int 0, .ref q100, .ref q108, .null, .null, .int 0])), (q47, .inl (gC G 10, 8, .inl (fun _ => 0))), (q55, .inl (gC G 10, 8, .inl (fun _ => 0))), (q63, .inl (gC G 10, 8, .inl (fun _ => 0))), (q71, .inl (gC G 10, 8, .inl (fun _ => 0))), (q79, .inl (gC G 10, 8, .inl (fun _ => 0))), (q87, .inl (gC G 10, 8, .inl (fun _ => 0))), (q100, .inl (gC G 10, 8, .inl (fun _ => 0))), (q108, .inl (gC G 10, 8, .inl (fun _ => 0)))] := hD
  refine lv_aload_n hx hb iX9_113 rfl (lv_at hl 0 rfl) ?_
  refine m_make (own := RX9) (C := RX2) (T := TX2) (N := 3) (ci := 1) (ix := 64) (iy := 66) (nL := 1) (ty := tyX2) (fs := [.null, .int 0, .int 0]) (w1 := fun q u => wtX2 G (cns q u)) (B := atX2 G) hx hb hown hg ((mCl_ok 1 (RX2, TX2, 3) rfl).1) tyX2_ok (hg _ (mGw_of (i := 186) (by decide +kernel) (by decide +kernel))) (hg _ (mGw_of (i := 187) (by decide +kernel) (by decide +kernel))) (hg _ (mGw_of (i := 121) (by decide +kernel) (by decide +kernel))) rfl dfX2 (fun q sz => ctX2 l G q sz) (fun A q u t h => ⟨h.1, h.2.2⟩) (fun q H1 h1 h2 => m_preL hK h1 h2) (m_iniN (maxL := 1) ⟨hx, hb, hml, hown, hg⟩ (mGood winX2) rfl rfl rfl (hN.1 _ (List.mem_filter.mpr ⟨List.mem_of_getElem? (i := 188) (by decide +kernel), rfl⟩)) (hg _ (mGw_of (i := 121) (by decide +kernel) (by decide +kernel))) (hg _ (mGw_of (i := 189) (by decide +kernel) (by decide +kernel))) rfl (by decide +kernel) ⟨Nat.le_of_ble_eq_true rfl, Nat.le_of_ble_eq_true rfl⟩) hK hP hD hS hA hl.1 (Nat.le_of_ble_eq_true rfl) (Nat.le_of_ble_eq_true rfl) (Nat.le_of_ble_eq_true rfl) iX9_114 iX9_117 iX9_118 (fun q114 u114 H locs hP hD hS => ?_)
  have hP : va_P (gD G) vwCl [(h0, .inr (7, [.int 0, .int 0, .int 0, .int 0, .int 0, .int 1, .int 1, .int 0, .ref q47, .ref q55, .ref q63, .ref q71, .ref q79, .ref q87, .int 0, .ref q100, .ref q108, .null, .null, .int 0])), (q47, .inl (gC G 10, 8, .inl (fun _ => 0))), (q55, .inl (gC G 10, 8, .inl (fun _ => 0))), (q63, .inl (gC G 10, 8, .inl (fun _ => 0))), (q71, .inl (gC G 10, 8, .inl (fun _ => 0))), (q79, .inl (gC G 10, 8, .inl (fun _ => 0))), (q87, .inl (gC G 10, 8, .inl (fun _ => 0))), (q100, .inl (gC G 10, 8, .inl (fun _ => 0))), (q108, .inl (gC G 10, 8, .inl (fun _ => 0))), (q114, .inr (1, [.ref (u114 0), .int 0, .int 0])), (u114 0, .inl (gC G 10, 360, .inl (fun _ => 0)))] H := hP
  have hD : va_D A [(h0, .inr (7, [.int 0, .int 0, .int 0, .int 0, .int 0, .int 1, .int 1, .int 0, .ref q47, .ref q55, .ref q63, .ref q71, .ref q79, .ref q87, .int 0, .ref q100, .ref q108, .null, .null, .int 0])), (q47, .inl (gC G 10, 8, .inl (fun _ => 0))), (q55, .inl (gC G 10, 8, .inl (fun _ => 0))), (q63, .inl (gC G 10, 8, .inl (fun _ => 0))), (q71, .inl (gC G 10, 8, .inl (fun _ => 0))), (q79, .inl (gC G 10, 8, .inl (fun _ => 0))), (q87, .inl (gC G 10, 8, .inl (fun _ => 0))), (q100, .inl (gC G 10, 8, .inl (fun _ => 0))), (q108, .inl (gC G 10, 8, .inl (fun _ => 0))), (q114, .inr (1, [.ref (u114 0), .int 0, .int 0])), (u114 0, .inl (gC G 10, 360, .inl (fun _ => 0)))] := hD
  refine W.cs (cells' := 10) (slots' := 427) (by omega) (by omega) ?_
  refine va_putF (D := gD G) (ci := 7) (v := .ref q114) (ty := .object "WakeTower$Log") (C := RX9) (T := TX9) (N := 20) hx hb hg ((mCl_ok 7 (RX9, TX9, 20) rfl).1) tyX9 tyX9_ok nmX9 hown hK hP hD hS 0 rfl rfl 17 (by decide) (hg _ (mGw_of (i := 255) (by decide +kernel) (by decide +kernel))) (fun _ h9 => h9) rfl hin rfl (by decide +kernel) rfl rfl (Nat.le_of_ble_eq_true rfl) iX9_121 (fun H locs hP hD hS => ?_)
  have hP : va_P (gD G) vwCl [(h0, .inr (7, [.int 0, .int 0, .int 0, .int 0, .int 0, .int 1, .int 1, .int 0, .ref q47, .ref q55, .ref q63, .ref q71, .ref q79, .ref q87, .int 0, .ref q100, .ref q108, .ref q114, .null, .int 0])), (q47, .inl (gC G 10, 8, .inl (fun _ => 0))), (q55, .inl (gC G 10, 8, .inl (fun _ => 0))), (q63, .inl (gC G 10, 8, .inl (fun _ => 0))), (q71, .inl (gC G 10, 8, .inl (fun _ => 0))), (q79, .inl (gC G 10, 8, .inl (fun _ => 0))), (q87, .inl (gC G 10, 8, .inl (fun _ => 0))), (q100, .inl (gC G 10, 8, .inl (fun _ => 0))), (q108, .inl (gC G 10, 8, .inl (fun _ => 0))), (q114, .inr (1, [.ref (u114 0), .int 0, .int 0])), (u114 0, .inl (gC G 10, 360, .inl (fun _ => 0)))] H := hP
  have hD : va_D A [(h0, .inr (7, [.int 0, .int 0, .int 0, .int 0, .int 0, .int 1, .int 1, .int 0, .ref q47, .ref q55, .ref q63, .ref q71, .ref q79, .ref q87, .int 0, .ref q100, .ref q108, .ref q114, .null, .int 0])), (q47, .inl (gC G 10, 8, .inl (fun _ => 0))), (q55, .inl (gC G 10, 8, .inl (fun _ => 0))), (q63, .inl (gC G 10, 8, .inl (fun _ => 0))), (q71, .inl (gC G 10, 8, .inl (fun _ => 0))), (q79, .inl (gC G 10, 8, .inl (fun _ => 0))), (q87, .inl (gC G 10, 8, .inl (fun _ => 0))), (q100, .inl (gC G 10, 8, .inl (fun _ => 0))), (q108, .inl (gC G 10, 8, .inl (fun _ => 0))), (q114, .inr (1, [.ref (u114 0), .int 0, .int 0])), (u114 0, .inl (gC G 10, 360, .inl (fun _ => 0)))] := hD
  refine lv_aload_n hx hb iX9_124 rfl (lv_at hl 0 rfl) ?_
  refine lv_bipush hx hb (v := 8) iX9_125 rfl ?_
  refine va_nw hx hb (atype := .int) (ty := .int) (hg _ (mGw_of (i := 179) (by decide +kernel) (by decide +kernel))) rfl hK hP hD hS hA (t0 := 0) (cI := gC G 10) rfl (fun _ _ h => ra_int h) (N' := 8) (a0 := (8, .inl (fun _ => 0))) (fun _ => rfl) (by decide) (by decide) (by decide) (Nat.le_of_ble_eq_true rfl) (Nat.le_of_ble_eq_true rfl) iX9_127 (fun q127 H hP hD hS => ?_)
  have hP : va_P (gD G) vwCl [(h0, .inr (7, [.int 0, .int 0, .int 0, .int 0, .int 0, .int 1, .int 1, .int 0, .ref q47, .ref q55, .ref q63, .ref q71, .ref q79, .ref q87, .int 0, .ref q100, .ref q108, .ref q114, .null, .int 0])), (q47, .inl (gC G 10, 8, .inl (fun _ => 0))), (q55, .inl (gC G 10, 8, .inl (fun _ => 0))), (q63, .inl (gC G 10, 8, .inl (fun _ => 0))), (q71, .inl (gC G 10, 8, .inl (fun _ => 0))), (q79, .inl (gC G 10, 8, .inl (fun _ => 0))), (q87, .inl (gC G 10, 8, .inl (fun _ => 0))), (q100, .inl (gC G 10, 8, .inl (fun _ => 0))), (q108, .inl (gC G 10, 8, .inl (fun _ => 0))), (q114, .inr (1, [.ref (u114 0), .int 0, .int 0])), (u114 0, .inl (gC G 10, 360, .inl (fun _ => 0))), (q127, .inl (gC G 10, 8, .inl (fun _ => 0)))] H := hP
  have hD : va_D A [(h0, .inr (7, [.int 0, .int 0, .int 0, .int 0, .int 0, .int 1, .int 1, .int 0, .ref q47, .ref q55, .ref q63, .ref q71, .ref q79, .ref q87, .int 0, .ref q100, .ref q108, .ref q114, .null, .int 0])), (q47, .inl (gC G 10, 8, .inl (fun _ => 0))), (q55, .inl (gC G 10, 8, .inl (fun _ => 0))), (q63, .inl (gC G 10, 8, .inl (fun _ => 0))), (q71, .inl (gC G 10, 8, .inl (fun _ => 0))), (q79, .inl (gC G 10, 8, .inl (fun _ => 0))), (q87, .inl (gC G 10, 8, .inl (fun _ => 0))), (q100, .inl (gC G 10, 8, .inl (fun _ => 0))), (q108, .inl (gC G 10, 8, .inl (fun _ => 0))), (q114, .inr (1, [.ref (u114 0), .int 0, .int 0])), (u114 0, .inl (gC G 10, 360, .inl (fun _ => 0))), (q127, .inl (gC G 10, 8, .inl (fun _ => 0)))] := hD
  refine W.cs (cells' := 11) (slots' := 435) (by omega) (by omega) ?_
  refine va_putF (D := gD G) (ci := 7) (v := .ref q127) (ty := .array .int) (C := RX9) (T := TX9) (N := 20) hx hb hg ((mCl_ok 7 (RX9, TX9, 20) rfl).1) tyX9 tyX9_ok nmX9 hown hK hP hD hS 0 rfl rfl 18 (by decide) (hg _ (mGw_of (i := 257) (by decide +kernel) (by decide +kernel))) (fun _ h9 => h9) rfl hin rfl (by decide +kernel) rfl rfl (Nat.le_of_ble_eq_true rfl) iX9_129 (fun H locs hP hD hS => ?_)
  have hP : va_P (gD G) vwCl [(h0, .inr (7, [.int 0, .int 0, .int 0, .int 0, .int 0, .int 1, .int 1, .int 0, .ref q47, .ref q55, .ref q63, .ref q71, .ref q79, .ref q87, .int 0, .ref q100, .ref q108, .ref q114, .ref q127, .int 0])), (q47, .inl (gC G 10, 8, .inl (fun _ => 0))), (q55, .inl (gC G 10, 8, .inl (fun _ => 0))), (q63, .inl (gC G 10, 8, .inl (fun _ => 0))), (q71, .inl (gC G 10, 8, .inl (fun _ => 0))), (q79, .inl (gC G 10, 8, .inl (fun _ => 0))), (q87, .inl (gC G 10, 8, .inl (fun _ => 0))), (q100, .inl (gC G 10, 8, .inl (fun _ => 0))), (q108, .inl (gC G 10, 8, .inl (fun _ => 0))), (q114, .inr (1, [.ref (u114 0), .int 0, .int 0])), (u114 0, .inl (gC G 10, 360, .inl (fun _ => 0))), (q127, .inl (gC G 10, 8, .inl (fun _ => 0)))] H := hP
  have hD : va_D A [(h0, .inr (7, [.int 0, .int 0, .int 0, .int 0, .int 0, .int 1, .int 1, .int 0, .ref q47, .ref q55, .ref q63, .ref q71, .ref q79, .ref q87, .int 0, .ref q100, .ref q108, .ref q114, .ref q127, .int 0])), (q47, .inl (gC G 10, 8, .inl (fun _ => 0))), (q55, .inl (gC G 10, 8, .inl (fun _ => 0))), (q63, .inl (gC G 10, 8, .inl (fun _ => 0))), (q71, .inl (gC G 10, 8, .inl (fun _ => 0))), (q79, .inl (gC G 10, 8, .inl (fun _ => 0))), (q87, .inl (gC G 10, 8, .inl (fun _ => 0))), (q100, .inl (gC G 10, 8, .inl (fun _ => 0))), (q108, .inl (gC G 10, 8, .inl (fun _ => 0))), (q114, .inr (1, [.ref (u114 0), .int 0, .int 0])), (u114 0, .inl (gC G 10, 360, .inl (fun _ => 0))), (q127, .inl (gC G 10, 8, .inl (fun _ => 0)))] := hD
  refine lv_aload_n hx hb iX9_132 rfl (lv_at hl 0 rfl) ?_
  refine lv_iconst hx hb (v := 0) iX9_133 rfl ?_
  refine va_put (D := gD G) (ci := 7) (v := .int 0) (ty := .int) (C := RX9) (T := TX9) (N := 20) hx hb hg ((mCl_ok 7 (RX9, TX9, 20) rfl).1) tyX9 tyX9_ok nmX9 hown hK hP hD hS 0 rfl rfl 19 (by decide) (hg _ (mGw_of (i := 259) (by decide +kernel) (by decide +kernel))) (fun _ h9 => h9) rfl (by decide +kernel) rfl rfl (Nat.le_of_ble_eq_true rfl) iX9_134 (fun H locs hP hD hS => ?_)
  have hP : va_P (gD G) vwCl [(h0, .inr (7, [.int 0, .int 0, .int 0, .int 0, .int 0, .int 1, .int 1, .int 0, .ref q47, .ref q55, .ref q63, .ref q71, .ref q79, .ref q87, .int 0, .ref q100, .ref q108, .ref q114, .ref q127, .int 0])), (q47, .inl (gC G 10, 8, .inl (fun _ => 0))), (q55, .inl (gC G 10, 8, .inl (fun _ => 0))), (q63, .inl (gC G 10, 8, .inl (fun _ => 0))), (q71, .inl (gC G 10, 8, .inl (fun _ => 0))), (q79, .inl (gC G 10, 8, .inl (fun _ => 0))), (q87, .inl (gC G 10, 8, .inl (fun _ => 0))), (q100, .inl (gC G 10, 8, .inl (fun _ => 0))), (q108, .inl (gC G 10, 8, .inl (fun _ => 0))), (q114, .inr (1, [.ref (u114 0), .int 0, .int 0])), (u114 0, .inl (gC G 10, 360, .inl (fun _ => 0))), (q127, .inl (gC G 10, 8, .inl (fun _ => 0)))] H := hP
  have hD : va_D A [(h0, .inr (7, [.int 0, .int 0, .int 0, .int 0, .int 0, .int 1, .int 1, .int 0, .ref q47, .ref q55, .ref q63, .ref q71, .ref q79, .ref q87, .int 0, .ref q100, .ref q108, .ref q114, .ref q127, .int 0])), (q47, .inl (gC G 10, 8, .inl (fun _ => 0))), (q55, .inl (gC G 10, 8, .inl (fun _ => 0))), (q63, .inl (gC G 10, 8, .inl (fun _ => 0))), (q71, .inl (gC G 10, 8, .inl (fun _ => 0))), (q79, .inl (gC G 10, 8, .inl (fun _ => 0))), (q87, .inl (gC G 10, 8, .inl (fun _ => 0))), (q100, .inl (gC G 10, 8, .inl (fun _ => 0))), (q108, .inl (gC G 10, 8, .inl (fun _ => 0))), (q114, .inr (1, [.ref (u114 0), .int 0, .int 0])), (u114 0, .inl (gC G 10, 360, .inl (fun _ => 0))), (q127, .inl (gC G 10, 8, .inl (fun _ => 0)))] := hD
  exact W.vret hx hb hr (fun t ht hW => ⟨⟨(fun k => [q47, q55, q63, q71, q79, q87, q100, q108, q114, u114 0, q127].getD k 0), rfl, trivial, by rw [ht]; exact hP, va_K.moved hW.alike hK, hD⟩, hS.F ht⟩) hS.2.2 iX9_137
