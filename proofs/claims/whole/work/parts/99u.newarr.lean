/-! a new array whose class is known -/
section
variable {p : Program} {l : Launch} {e : Env} {R : Room} {s : State} {m : MethodId} {args : Array Value} {below : List Frame} {meth : Method} {c : Code} {H H0 : Heap} {locs : List Loc} {cells slots : Nat} {Q : State → Prop} {cc : ByteArray} {pc : Nat} {ls : Array Slot} {rest : List Value} {D : va_G} {cl : List vw_C} {ws : va_W} {A : Nat → Prop} {tys : List (ClassId × FieldType)}
theorem va_nw (hexec : p.tables.exec = Jvm.exec) (hb : c.code = cc) {atype : ArrayType} (harr : (Cond.arrayClass (newarray.typeOf atype)).before args s = true) {ty : FieldType} (hty : newarray.typeOf atype = ty) (hK : va_K D cl tys s) (hP : va_P D cl ws H) (hD : va_D A ws) (hS : va_S A H0 H locs) (hA : ∀ q, H0.size ≤ q → A q)
    {t0 : Nat} {cI : ClassId} (ht : tys[t0]? = some (cI, ty)) {nm : String} (hr : ∀ (U : State) (k : ClassId), va_RA U k ty → U.vm.findClass nm = some k)
    {n : Int32} {N' : Nat} {a0 : vp_A} (ha : ∀ cA : ClassId, vp_cell cA a0 = arrV cA N' (fun _ => defaultValue ty)) (hn : ¬ n < 0) (hN : n.toNatClampNeg = N') (hbytes : N' * componentBytes ty ≤ 536870912) (hcells : cells + 1 ≤ R.cells) (hslots : slots + N' ≤ R.slots) (hdg : decode cc pc = .ok (.newarray atype, 2))
    (kk : ∀ (q : Nat) (H1 : Heap), va_P D cl (ws ++ [(q, .inl (cI, a0))]) H1 → va_D A (ws ++ [(q, .inl (cI, a0))]) → va_S A H0 H1 locs →
      W p l e R s m args below meth c H1 locs (cells + 1) (slots + N') Q (F0 m (pc + 2) ls (.ref q :: rest))) : W p l e R s m args below meth c H locs cells slots Q (F0 m pc ls (.int n :: rest)) := by
  refine va_newa hexec hb harr hty hK hP hD hS hA ha hn hN hbytes hcells hslots hdg fun q cA H1 k1 k2 k3 k4 => ?_
  have e1 := hr s cI (hK.2 t0 _ ht).2
  have e2 := hr s cA (k1.2 tys.length (cA, ty) (by rw [List.getElem?_append_right (Nat.le_refl _), Nat.sub_self]; rfl)).2
  have e3 : cA = cI := Option.some.inj (e2.symm.trans e1)
  subst e3
  exact kk q H1 k2 k3 k4
end
theorem ra_int {U : State} {k : ClassId} (h : va_RA U k .int) : U.vm.findClass ("[" ++ FieldType.int.toString) = some k := h
theorem ra_byte {U : State} {k : ClassId} (h : va_RA U k .byte) : U.vm.findClass ("[" ++ FieldType.byte.toString) = some k := h
theorem ra_bool {U : State} {k : ClassId} (h : va_RA U k .boolean) : U.vm.findClass ("[" ++ FieldType.boolean.toString) = some k := h
theorem ra_long {U : State} {k : ClassId} (h : va_RA U k .long) : U.vm.findClass ("[" ++ FieldType.long.toString) = some k := h
