/-! new objects by their constructors -/
def cN (U : State) : Prop := (∀ w ∈ mNst, va_Nw w U) ∧ va_AO "WakeTower$Tower" U
theorem cN.warm {s U : State} (hW : s.WarmedH U.vm) (h : cN s) : cN U := ⟨mNst.warm hW h.1, va_AO.moved hW.alike h.2⟩
theorem cN.same {u U : State} (hv : u.vm = U.vm) (h : cN u) : cN U := ⟨fun w hw => va_Nw.same (by
  have h9 := (List.mem_filter.mp hw).2
  cases w <;> first | rfl | cases h9) hv (h.1 w hw), va_AO.moved (by rw [hv]; exact Vm.Alike.refl U.vm) h.2⟩
def cns (q : Nat) (u : Nat → Nat) : Nat → Nat := fun k => match k with
  | 0 => q
  | k + 1 => u k
theorem m_nd : ∀ l : List Nat, l.Nodup → va_nd l = true := by
  intro l
  induction l with
  | nil => intro _; rfl
  | cons a l ih =>
    intro h
    show (decide (a ∉ l) && va_nd l) = true
    rw [decide_eq_true (List.nodup_cons.mp h).1, Bool.true_and]
    exact ih (List.nodup_cons.mp h).2
theorem m_rmap {α : Type} (ws r : List α) : (List.range ws.length).map (fun i => (ws ++ r)[i]?) = ws.map some := by
  apply List.ext_getElem?
  intro i
  rw [List.getElem?_map, List.getElem?_map]
  rcases Nat.lt_or_ge i ws.length with h | h
  · rw [List.getElem?_range h, List.getElem?_eq_getElem h]
    show some ((ws ++ r)[i]?) = some (some ws[i])
    rw [List.getElem?_append_left h, List.getElem?_eq_getElem h]
  · rw [List.getElem?_eq_none (by simpa using h), List.getElem?_eq_none h]
    rfl
theorem m_at0 {α : Type} (X w : List α) (n : Nat) (h : n = X.length) : (X ++ w)[n]? = w[0]? := by
  subst h
  rw [List.getElem?_append_right (Nat.le_refl _), Nat.sub_self]
section
variable {p : Program} {l : Launch} {e : Env} {R : Room} {s : State} {m : MethodId} {args : Array Value} {below : List Frame} {meth : Method} {c : Code} {H H0 : Heap} {locs : List Loc} {cells slots : Nat} {Q : State → Prop} {cc : ByteArray} {pc : Nat} {ls : Array Slot} {rest : List Value} {A : Nat → Prop} {ws : va_W}
theorem m_preL {G : mG} {q : Nat} {o : va_E} {H1 : Heap} (hK : va_K (gD G) vwCl (mTys G) s) (hP : va_P (gD G) vwCl [(q, o)] H1) (hD : va_D (fun _ => True) [(q, o)]) :
    PreS s H1 (va_Pc [.ref q] (fun U => U.heap.size = H1.size ∧ va_P (gD G) vwCl [(q, o)] U.heap ∧ va_K (gD G) vwCl (mTys G) U ∧ va_D (fun _ => True) [(q, o)])) [.ref q] :=
  ⟨fun a U g mk z => by obtain ⟨q0, q1, qP, qK, qD⟩ := z; exact ⟨q0, q1, qP, va_K.moved (u := U) (U := U.calling g mk a) (Vm.Alike.refl U.vm) qK, qD⟩, fun U hU hW => ⟨rfl, by rw [hU], by rw [hU]; exact hP, va_K.moved hW.alike hK, hD⟩⟩
theorem m_preC {G : mG} {q : Nat} {o : va_E} {H1 : Heap} (hN : cN s) (hK : va_K (gD G) vwCl (mTys G) s) (hP : va_P (gD G) vwCl [(q, o)] H1) (hD : va_D (fun _ => True) [(q, o)]) :
    PreS s H1 (va_Pc [.ref q] (fun U => U.heap.size = H1.size ∧ va_P (gD G) vwCl [(q, o)] U.heap ∧ va_K (gD G) vwCl (mTys G) U ∧ va_D (fun _ => True) [(q, o)] ∧ cN U)) [.ref q] :=
  ⟨fun a U g mk z => by obtain ⟨q0, q1, qP, qK, qD, qN⟩ := z; exact ⟨q0, q1, qP, va_K.moved (u := U) (U := U.calling g mk a) (Vm.Alike.refl U.vm) qK, qD, cN.same (u := U) (U := U.calling g mk a) rfl qN⟩, fun U hU hW => ⟨rfl, by rw [hU], by rw [hU]; exact hP, va_K.moved hW.alike hK, hD, cN.warm hW hN⟩⟩
/-- a call of a constructor -/
def m_Ini (p : Program) (l : Launch) (e : Env) (R : Room) (s : State) (m : MethodId) (args : Array Value) (below : List Frame) (meth : Method) (c : Code) (cc : ByteArray) (nL : Nat) (y : MethodName) (wsC : List Cond) (rm : Room) (mc ms iy : Nat) : Prop :=
  ∀ (H : Heap) (locs : List Loc) (cells slots pc : Nat) (ls : Array Slot) (rest : List Value) (q : Nat) (Pc : Array Value → State → Prop) (Qc : Array Value → State → Outcome → State → Prop) (free : Addr → Prop),
    Met l y wsC rm Pc Qc mc ms free → PreS s H Pc [.ref q] → ls.size = nL → (rest.map fun v => v.category).sum ≤ 8 → cells + mc ≤ R.cells → slots + ms ≤ R.slots → decode cc pc = .ok (.invokespecial iy, 3) →
    va_Run p l e R s m args below meth c H locs cells slots mc ms (F0 m pc ls (.ref q :: rest)) rest (Qc ([Value.ref q] : List Value).toArray) free
theorem m_iniN {nL : Nat} {Ts : List Cond} {own : String} {y : MethodName} {bytes : ByteArray} {maxL : Nat} {wsC ws' : List Cond} {rm : Room} {mc ms iy : Nat} (S : CallFix p m c cc nL s args Ts own) (hG : GoodIn Ts wsC) (hw : wsC = Cond.code y bytes maxL none :: ws') (hrc : rm.cells = mc) (hrs : rm.slots = ms)
    (hl : va_Nw (.methodLinkNest own iy y "WakeTower") s) (hini : (Cond.initialized y.cls).before args s = true) (hin : (Cond.instanceMethod y).before args s = true) (hy1 : y.name = "<init>")
    (hd : y.cls ≠ "java/lang/invoke/MethodHandle" ∧ y.cls ≠ "java/lang/invoke/VarHandle" ∧ (parseMethodDescriptor y.desc).map (fun d => d.parameters.length) = some 0) (hR : rm.frames + 1 ≤ R.frames ∧ 8 + (maxL + 11) + rm.locals ≤ R.locals) :
    m_Ini p l e R s m args below meth c cc nL y wsC rm mc ms iy := by
  intro H locs cells slots pc ls rest q Pc Qc free hM hp hsz hr hc hs hd2
  exact va_runIN (As := []) (rest := rest) S hM ⟨va_cnB 0 S.2.2.2.2 hG hw hrc hrs hl hini hd hR, hy1, hin⟩ hp rfl rfl hsz rfl (lv_room hr) hd2 ⟨hc, hs⟩
theorem m_iniI {nL : Nat} {Ts : List Cond} {own : String} {y : MethodName} {bytes : ByteArray} {maxL : Nat} {wsC ws' : List Cond} {rm : Room} {mc ms iy : Nat} (S : CallFix p m c cc nL s args Ts own) (hG : GoodIn Ts wsC) (hw : wsC = Cond.code y bytes maxL none :: ws') (hrc : rm.cells = mc) (hrs : rm.slots = ms)
    (hl : (Cond.methodLink own iy y).before args s = true) (hini : (Cond.initialized y.cls).before args s = true) (hin : (Cond.instanceMethod y).before args s = true) (hy1 : y.name = "<init>")
    (hd : y.cls ≠ "java/lang/invoke/MethodHandle" ∧ y.cls ≠ "java/lang/invoke/VarHandle" ∧ (parseMethodDescriptor y.desc).map (fun d => d.parameters.length) = some 0) (hR : rm.frames + 1 ≤ R.frames ∧ 8 + (maxL + 11) + rm.locals ≤ R.locals) :
    m_Ini p l e R s m args below meth c cc nL y wsC rm mc ms iy := by
  intro H locs cells slots pc ls rest q Pc Qc free hM hp hsz hr hc hs hd2
  exact va_runI (As := []) (rest := rest) S hM (cwI 0 S.2.2.2.2 hG hw hrc hrs hini hl hin hy1 hd hR) hp rfl rfl hsz rfl (lv_room hr) hd2 ⟨hc, hs⟩
/-- new, dup, the constructor: its world stands behind the rest -/
theorem m_make {S : Type} {G : mG} {own C : String} {T : u_T} {N ci ix iy nL : Nat} {ty : Nat → FieldType} {fs : List Value} {y : MethodName} {wsC Ts : List Cond} {rm : Room} {mc ms : Nat} {Pc : Nat → Nat → Array Value → State → Prop} {w1 : Nat → S → va_W} {B : (Nat → Prop) → Nat → S → State → Prop}
    (hx : p.tables.exec = Jvm.exec) (hb : c.code = cc) (hown : s.vm.findClass own = some m.cls) (hts : ∀ w ∈ Ts, w.before args s = true)
    (hin : ∀ w ∈ u_ws C T N, w ∈ Ts) (hty : ∀ k, k < N → parseFieldDescriptor (T k).2.2.1 = some (ty k))
    (hcl : (Cond.classLink own ix C).before args s = true) (hinst : (Cond.instantiable C N).before args s = true) (hini : (Cond.initialized C).before args s = true)
    (hc : vwCl[ci]? = some (C, T, N)) (hfs : ∀ j, j < N → defaultValue (ty j) = vp_V fs j)
    (hM : ∀ q sz : Nat, Met l y wsC rm (Pc q sz) (va_Qv (fun _ : S => True) (B (va_A [(q, .inr (ci, fs))] sz) q) (va_A [(q, .inr (ci, fs))] sz)) mc ms (va_A [(q, .inr (ci, fs))] sz))
    (hB : ∀ (A : Nat → Prop) (q : Nat) (u : S) (t : State), B A q u t → va_P (gD G) vwCl (w1 q u) t.heap ∧ va_D A (w1 q u))
    (hpre : ∀ (q : Nat) (H1 : Heap), va_P (gD G) vwCl [(q, .inr (ci, fs))] H1 → va_D (fun _ => True) [(q, .inr (ci, fs))] → PreS s H1 (Pc q H1.size) [.ref q])
    (hrun : m_Ini p l e R s m args below meth c cc nL y wsC rm mc ms iy)
    (hK : va_K (gD G) vwCl (mTys G) s) (hP : va_P (gD G) vwCl ws H) (hD : va_D A ws) (hS : va_S A H0 H locs) (hA : ∀ q, H0.size ≤ q → A q) (hsz : ls.size = nL) (hrest : (rest.map fun v => v.category).sum ≤ 7)
    (hcells : cells + 1 + mc ≤ R.cells) (hslots : slots + N + ms ≤ R.slots)
    (d0 : decode cc pc = .ok (.new ix, 3)) (d1 : decode cc (pc + 3) = .ok (.dup, 1)) (d2 : decode cc (pc + 4) = .ok (.invokespecial iy, 3))
    (kk : ∀ (q : Nat) (u : S) (H1 : Heap) (locs1 : List Loc), va_P (gD G) vwCl (ws ++ w1 q u) H1 → va_D A (ws ++ w1 q u) → va_S A H0 H1 locs1 →
      W p l e R s m args below meth c H1 locs1 (cells + 1 + mc) (slots + N + ms) Q (F0 m (pc + 7) ls (.ref q :: rest))) :
    W p l e R s m args below meth c H locs cells slots Q (F0 m pc ls rest) := by
  refine va_new (T := T) (fs := fs) hx hb hts hin ty hty hown hcl hinst hini hK hP hD hS hA hc hfs (by omega) (by omega) d0 (fun q H1 hP1 hD1 hS1 => ?_)
  refine lv_dup hx hb d1 rfl ?_
  have e1 : (ws ++ [(q, (.inr (ci, fs) : va_E))])[ws.length]? = some (q, .inr (ci, fs)) := by simp
  have hC : [ws.length].map (fun i => (ws ++ [(q, (.inr (ci, fs) : va_E))])[i]?) = [(q, (.inr (ci, fs) : va_E))].map some := by
    show [(ws ++ [(q, (.inr (ci, fs) : va_E))])[ws.length]?] = _
    rw [e1]
    rfl
  have hPc : va_P (gD G) vwCl [(q, .inr (ci, fs))] H1 := fun k z hz => by
    cases k with
    | zero => cases hz; exact hP1 _ _ e1
    | succ k => cases hz
  have hDc : va_D A [(q, .inr (ci, fs))] := hD1.sub [ws.length] (by simp [va_nd]) hC
  have hFc := va_free (wc := [(q, .inr (ci, fs))]) hD1 hS1 hA [ws.length] hC
  refine va_callv (hrun H1 locs (cells + 1) (slots + N) (pc + 4) ls (.ref q :: rest) q _ _ _ (hM q H1.size) (hpre q H1 hPc (hDc.weaken (fun _ _ _ _ => trivial))) hsz ?_ hcells hslots d2) hS1 (fun q _ h => hFc q h) hFc (fun u t H2 locs2 ht hvm hw hBu hz1 hk1 hS2 => ?_)
  · show 1 + (rest.map fun v => v.category).sum ≤ 8
    omega
  · obtain ⟨g1, g2⟩ := hB _ _ _ _ hBu
    rw [ht] at g1
    obtain ⟨hP2, hD2⟩ := va_join (wr := ws) (w1 := w1 q u) hP1 hD1 [ws.length] (List.range ws.length) hC (m_rmap ws _) (m_nd _ List.nodup_range) (fun i hi h => by
      have h1 := List.mem_range.mp hi
      have h2 := List.mem_singleton.mp h
      omega) hk1 hFc g1 g2
    exact kk q u H2 locs2 hP2 hD2 hS2
/-- a new row of references whose class is known -/
theorem va_nwq {D : va_G} {cl : List vw_C} {tys : List (ClassId × FieldType)} (hexec : p.tables.exec = Jvm.exec) (hb : c.code = cc) {own C : String} {index : Nat} (hown : s.vm.findClass own = some m.cls) (hclink : (Cond.classLink own index C).before args s = true) (hover : va_AO C s) (hK : va_K D cl tys s) (hP : va_P D cl ws H) (hD : va_D A ws) (hS : va_S A H0 H locs) (hA : ∀ q, H0.size ≤ q → A q)
    {t0 : Nat} {cI : ClassId} (ht : tys[t0]? = some (cI, .object C)) {n : Int32} {N' : Nat} (hn : ¬ n < 0) (hN : n.toNatClampNeg = N') (hbytes : N' * 4 ≤ 536870912) (hcells : cells + 1 ≤ R.cells) (hslots : slots + N' ≤ R.slots) (hdg : decode cc pc = .ok (.anewarray index, 3))
    (kk : ∀ (q : Nat) (H1 : Heap), va_P D cl (ws ++ [(q, .inl (cI, N', .inr (.inr (.inr (.inr (fun _ => none))))))]) H1 → va_D A (ws ++ [(q, .inl (cI, N', .inr (.inr (.inr (.inr (fun _ => none))))))]) → va_S A H0 H1 locs →
      W p l e R s m args below meth c H1 locs (cells + 1) (slots + N') Q (F0 m (pc + 3) ls (.ref q :: rest))) : W p l e R s m args below meth c H locs cells slots Q (F0 m pc ls (.int n :: rest)) := by
  refine va_newq hexec hb hown hclink hover hK hP hD hS hA hn hN hbytes hcells hslots hdg fun q cA H1 k1 k2 k3 k4 => ?_
  obtain ⟨kA, comp, h1, h2, h3, e1⟩ := (hK.2 t0 _ ht).2
  obtain ⟨kA', comp', h1', h2', h3', e2⟩ := (k1.2 tys.length (cA, .object C) (by rw [List.getElem?_append_right (Nat.le_refl _), Nat.sub_self]; rfl)).2
  have e3 : cA = cI := Option.some.inj (e2.symm.trans e1)
  subst e3
  exact kk q H1 k2 k3 k4
end
theorem va_P.alter {D : va_G} {cl : List vw_C} {ws : va_W} {H : Heap} (h : va_P D cl ws H) {k a : Nat} {x x' : va_E} (hk : ws[k]? = some (a, x)) (he : va_at D cl (a, x) H → va_at D cl (a, x') H) : va_P D cl (ws.set k (a, x')) H := by
  intro i q hq
  by_cases c : i = k
  · subst c
    rw [List.getElem?_set_self (List.getElem?_eq_some_iff.mp hk).1] at hq
    cases hq
    exact he (h _ _ hk)
  · rw [List.getElem?_set_ne (Ne.symm c)] at hq
    exact h i q hq
theorem va_at_q {D : va_G} {cl : List vw_C} {H : Heap} {a n : Nat} {cA : ClassId} {f g : Nat → Option Nat} (hfg : ∀ j, j < n → f j = g j) (h : va_at D cl (a, .inl (cA, n, .inr (.inr (.inr (.inr f))))) H) : va_at D cl (a, .inl (cA, n, .inr (.inr (.inr (.inr g))))) H := by
  have e : vp_cell cA (n, .inr (.inr (.inr (.inr f)))) = vp_cell cA (n, .inr (.inr (.inr (.inr g)))) := by
    have e1 : (fun j : Fin n => va_rf (f j.val)) = fun j => va_rf (g j.val) := funext fun j => by rw [hfg j.val j.isLt]
    show ({ cls := cA, slots := Array.ofFn (n := n) fun j => va_rf (f j.val), vm := .none } : Cell) = { cls := cA, slots := Array.ofFn (n := n) fun j => va_rf (g j.val), vm := .none }
    rw [e1]
  have h : H[a]? = some (vp_cell cA (n, .inr (.inr (.inr (.inr f))))) := h
  show H[a]? = some (vp_cell cA (n, .inr (.inr (.inr (.inr g)))))
  rw [← e]
  exact h
