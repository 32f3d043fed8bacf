/-! what stays the same all the while; a method's contract out of a walk -/
def mTl : List Nat := mTx.map List.length
def mTb : List (List Int32) := mTx.map fun t => t.map fun k => nI k
/-- words of the tables that a warmed state keeps by a law of their own: nest mates -/
def mNst : List Cond := lw_tbl.filter fun w => match w with
  | .methodLinkNest _ _ _ _ => true
  | .declares _ => true
  | .castable _ _ => true
  | _ => false
def mXt (G : mG) (U : State) (H : Heap) : Prop :=
  vk_S 29 mTl mTb (fun j => gA G (400 + j)) (gV G) (mA G) U H ∧ mTxt G U ∧
  vx_Zq Bundle.tN "UNASSIGNED_STACK" Bundle.steD (mA G) U H ∧ vx_Zq Bundle.tN "SUPPRESSED_SENTINEL" Bundle.listD (mA G) U H ∧
  va_Z "java/lang/String" "COMPACT_STRINGS" "Z" (.int 1) (mA G) U H ∧ (∃ t : Option Nat, va_Z "jdk/internal/util/Preconditions" "SIOOBE_FORMATTER" "Ljava/util/function/BiFunction;" (va_rf t) (mA G) U H) ∧
  (∀ w ∈ mNst, va_Nw w U) ∧ ∀ E F : Nat, E < 5 → F < 5 → E ≠ F → va_Nc (mEx E) (mEx F) U
theorem mTxt.warm {G : mG} {s U : State} (hW : s.WarmedH U.vm) (h : mTxt G s) : mTxt G U := fun j q hq => (h j q hq).warm hW
theorem mNst.warm {s U : State} (hW : s.WarmedH U.vm) (h : ∀ w ∈ mNst, va_Nw w s) : ∀ w ∈ mNst, va_Nw w U := by
  intro w hw
  have h1 := h w hw
  have h2 := (List.mem_filter.mp hw).2
  cases w with
  | methodLinkNest a i x h => exact va_Nw.warmM hW h1
  | declares x => exact va_Nw.warmD hW h1
  | castable C T => exact va_Nw.warmC hW h1
  | _ => cases h2
theorem mXt.go {G : mG} {s U : State} {H H1 : Heap} (hW : s.WarmedH U.vm) (hq : ∀ a : Nat, a < H.size → ¬ mA G a → H1[a]? = H[a]?) (h : mXt G s H) : mXt G U H1 := by
  obtain ⟨h1, h2, h3, h4, h5, ⟨t, h6⟩, h7, h8⟩ := h
  have hv := hW.alike
  exact ⟨(h1.moved hv).kept hq, h2.warm hW, (h3.moved hv).kept hq, (h4.moved hv).kept hq, (h5.moved hv).kept hq, ⟨t, (h6.moved hv).kept hq⟩, mNst.warm hW h7, fun E F a b c => (h8 E F a b c).moved hv⟩
/-- the world at a state -/
def mWd (G : mG) (M : mM) (U : State) : Prop := gZ G ≤ U.heap.size ∧ va_P (gD G) vwCl (mWs G M) U.heap ∧ va_K (gD G) vwCl (mTys G) U ∧ va_D (mA G) (mWs G M) ∧ mXt G U U.heap ∧ mScr G U M
theorem mScr.go {G : mG} {s U : State} {M : mM} (hv : s.vm.Alike U.vm) (hs : s.heap.size ≤ U.heap.size) (hq : ∀ a : Nat, a < s.heap.size → ¬ mA G a → U.heap[a]? = s.heap[a]?) (h : mScr G s M) : mScr G U M := by
  obtain ⟨L, h1, h2, h3, h4, h5⟩ := h
  exact ⟨L, h1, h2, (h3.moved hv).kept (hq _ h4 (Nat.not_le.mpr h5)), Nat.lt_of_lt_of_le h4 hs, h5⟩
/-- what a frame has: at its start state s, now with heap H -/
def mSt (G : mG) (s : State) : Prop := gZ G ≤ s.heap.size ∧ va_K (gD G) vwCl (mTys G) s ∧ mXt G s s.heap
theorem mWd.of {G : mG} {s U : State} {M : mM} {H : Heap} {locs : List Loc} (hK : mSt G s) (hD : mDy G s M H locs) (hU : U.heap = H) (hW : s.WarmedH U.vm) : mWd G M U := by
  obtain ⟨k1, k2, k3⟩ := hK
  obtain ⟨hP, hDD, hS, hSc⟩ := hD
  subst hU
  exact ⟨Nat.le_trans k1 hS.1, hP, va_K.moved hW.alike k2, hDD, mXt.go hW hS.2.1 k3, mScr.go hW.alike hS.1 hS.2.1 hSc⟩
theorem mWd.st {G : mG} {s : State} {M : mM} (h : mWd G M s) : mSt G s ∧ mDy G s M s.heap [] := ⟨⟨h.1, h.2.2.1, h.2.2.2.2.1⟩, h.2.1, h.2.2.2.1, va_S.rf, h.2.2.2.2.2⟩
/-- back from a call that came to t: the frame goes on with t's heap -/
theorem mDy.back {G : mG} {s t : State} {M M' : mM} {H H1 : Heap} {locs locs1 : List Loc} (hD : mDy G s M H locs) (ht : t.heap = H1) (h : mWd G M' t) (hS : va_S (mA G) s.heap H1 locs1) (hrow : M' 232 = M 232 ∧ M' 233 = M 233) : mDy G s M' H1 locs1 := by
  subst ht
  exact ⟨h.2.1, h.2.2.2.1, hS, mScr_row hD.2.2.2 hrow.1 hrow.2⟩
theorem mBlind {G : mG} {M : mM} {av : List Value} : FrameBlind (va_Pc av (mWd G M)) := by
  intro a U g mk h
  exact ⟨h.1, h.2.1, h.2.2.1, va_K.moved (u := U) (U := U.calling g mk a) (Vm.Alike.refl U.vm) h.2.2.2.1, h.2.2.2.2.1, by
    obtain ⟨h1, h2, h3, h4, h5, ⟨t, h6⟩, h7, h8⟩ := h.2.2.2.2.2.1
    have hv : U.vm.Alike (U.calling g mk a).vm := Vm.Alike.refl U.vm
    exact ⟨h1.moved hv, fun j q hq => (h2 j q hq).same rfl, h3.moved hv, h4.moved hv, h5.moved hv, ⟨t, h6.moved hv⟩, fun w hw => va_Nw.same (u := U) (by
      have h9 := (List.mem_filter.mp hw).2
      cases w <;> first | rfl | cases h9) rfl (h7 w hw), fun E F a b c => (h8 E F a b c).moved hv⟩, by
    obtain ⟨L, h1, h2, h3, h4, h5⟩ := h.2.2.2.2.2.2
    exact ⟨L, h1, h2, h3.moved (Vm.Alike.refl U.vm), h4, h5⟩⟩
/-- Met.ofW for a name that has no row among the natives -/
theorem mMet_ofW {l : Launch} {y : MethodName} {ws ws' : List Cond} {rm : Room} {Pc : Array Value → State → Prop} {Qc : Array Value → State → Outcome → State → Prop} {mc ms : Nat} {free : Addr → Prop} {cc : ByteArray} {maxL : Nat} {ret : Option FieldType}
    (hy : plainFor y = true) (hw : ws = Cond.code y cc maxL ret :: ws')
    (body : ∀ p e s m args below meth c s₁, BodyLoose p l y (headSpec ws rm) cc maxL ret e s m args below meth c s₁ → c.maxLocals = maxL → (∀ x ∈ c.exceptionTable.toList, False) → Pc args s →
      W p l e (headSpec ws rm).room s m args below meth c s.heap [] 0 0 (MQ below Qc args s mc ms free) (entryFrame m args maxL)) : Met l y ws rm Pc Qc mc ms free := by
  refine MetFree.of_bodySF (code := cc) (maxLocals := maxL) (ret := ret) hy ?_ ?_
  · intro args s m h hn
    obtain ⟨meth, c, h1, h2, h3, h4, h5, h6, -, -⟩ := Cond.code_spec hn (atoms_spec (ws := ws) h _ (by rw [hw]; exact List.mem_cons_self))
    exact ⟨meth, c, h1, h2, h3, h4, h5, h6⟩
  · intro p e s m args below meth c s₁ B hml hP _
    have hh0 : s₁.heap = s.heap := by rw [B.state]; rfl
    have ht : ∀ x ∈ c.exceptionTable.toList, False := by
      obtain ⟨meth9, c9, h1, h2, -, -, -, -, h7, -⟩ := Cond.code_spec B.named (atoms_spec (ws := ws) B.pre _ (by rw [hw]; exact List.mem_cons_self))
      cases Option.some.inj (h1.symm.trans B.method)
      cases Option.some.inj (h2.symm.trans (Stand.of_body B).code)
      intro x hx
      rw [Array.isEmpty_iff.mp h7] at hx
      cases hx
    obtain ⟨t, a1, o, b1, b2, b3⟩ := body p e s m args below meth c s₁ B hml ht hP s₁ hh0 (Stand.of_body B)
    exact ⟨t, o, a1, b1, b2, ⟨b3.1, b3.2⟩⟩
/-- the room of a method that may go d frames deep and makes k exceptions -/
def mRm (d k : Nat) : Room := { frames := d, cells := k, slots := 6 * k, locals := 60 * d }
theorem mEn_lv {G : mG} {av : List Value} {n : Nat} {ls : Array Slot} (hc : ∀ v ∈ av, mC1 v = true) (h : lv_has ls n (lv_args 0 (av.map (mRf G)))) : lv_has ls n (mLv G (mEn av n)) := by
  refine ⟨h.1, h.2.1, fun q hq => h.2.2 q ?_⟩
  obtain ⟨v, hv, hc1, e⟩ := mLv_mem.mp hq
  have hv := mLd_at hv
  unfold mEn at hv
  have hlt : q.1 < av.length := by
    rcases Nat.lt_or_ge q.1 av.length with z | z
    · exact z
    · rw [List.getElem?_append_right (by simpa using z)] at hv
      have := List.mem_of_getElem? hv
      have := (List.mem_replicate.mp this).2
      cases this
  rw [List.getElem?_append_left (by simpa using hlt), List.getElem?_map] at hv
  have hav : av[q.1]? = some v := by
    cases e2 : av[q.1]? with
    | none => rw [e2] at hv; cases hv
    | some w => rw [e2] at hv; exact congrArg some (by simpa using hv)
  have key : ∀ (l : List Value) (i j : Nat) (v : Value), (∀ v ∈ l, mC1 v = true) → l[j]? = some v → (i + j, mRf G v) ∈ lv_args i (l.map (mRf G)) := by
    intro l
    induction l with
    | nil => intro i j v _ h; cases h
    | cons a r ih =>
      intro i j v hc h
      show (i + j, mRf G v) ∈ (i, mRf G a) :: lv_args (if (mRf G a).category = 2 then i + 2 else i + 1) (r.map (mRf G))
      have ca : (mRf G a).category = 1 := mC1_cat (hc a List.mem_cons_self)
      rw [if_neg (by omega)]
      cases j with
      | zero => cases h; exact List.mem_cons_self
      | succ j =>
        have := ih (i + 1) j v (fun w hw => hc w (List.mem_cons_of_mem _ hw)) (by simpa using h)
        rw [show i + (j + 1) = i + 1 + j by omega]
        exact List.mem_cons_of_mem _ this
  have := key av 0 q.1 v hc hav
  rw [Nat.zero_add, ← e] at this
  exact this
theorem mWs_D {G : mG} {M M' : mM} {A : Nat → Prop} (h : va_D A (mWs G M)) : va_D A (mWs G M') := by
  have e : ∀ (N : mM) (i : Nat) (q : Nat × va_E), (mWs G N)[i]? = some q → i < 232 ∧ q.1 = gA G i := by
    intro N i q hq
    have hi : i < 232 := by
      have := (List.getElem?_eq_some_iff.mp hq).1
      simpa [mWs] using this
    rw [mWs_at G N hi] at hq
    cases hq
    exact ⟨hi, rfl⟩
  refine ⟨fun i j x z hi hj hxz => ?_, fun k q hk => ?_⟩
  · obtain ⟨h1, e1⟩ := e M' i x hi
    obtain ⟨h2, e2⟩ := e M' j z hj
    exact h.1 i j _ _ (mWs_at G M h1) (mWs_at G M h2) (by rw [← e1, ← e2]; exact hxz)
  · obtain ⟨h1, e1⟩ := e M' k q hk
    rw [e1]
    exact h.2 k _ (mWs_at G M h1)
/-- what a method's end says: its answer, and the world behind it -/
def mQc (G : mG) (v : Option Int32) (M' : mM) : Array Value → State → Outcome → State → Prop := match v with
  | some x => va_Qi (fun r (_ : Unit) => r = x) (fun _ t => va_P (gD G) vwCl (mWs G M') t.heap) (mA G)
  | none => va_Qv (fun (_ : Unit) => True) (fun _ t => va_P (gD G) vwCl (mWs G M') t.heap) (mA G)
/-- what a throw's end says -/
def mXc (G : mG) (E : Nat) (M' : mM) : String → State → State → Prop := vx_X (fun (_ : Unit) => True) (fun F _ t => F = mEx E ∧ va_P (gD G) vwCl (mWs G M') t.heap) (mA G)
def mNo : Array Value → State → Outcome → State → Prop := va_Qv (fun (_ : Unit) => False) (fun _ _ => True) (fun _ => True)
theorem mGood {ws : List Cond} (h : ∀ w ∈ ws, w ∈ mGw) : GoodIn mGw ws := fun w hw => ⟨h w hw, good_of_word (List.mem_filter.mp (h w hw)).2⟩
section MU
variable {p : Program} {l : Launch} {e : Env} {R : Room} {s : State} {m : MethodId} {args : Array Value} {below : List Frame} {meth : Method} {c : Code} {H : Heap} {locs : List Loc} {cells slots : Nat} {Q : State → Prop} {ls : Array Slot}
theorem mDy_on {G : mG} {t : State} {M M' : mM} {H1 : Heap} {locs1 : List Loc} (hD : mDy G s M H locs) (ht : t.heap = H1) (h : va_P (gD G) vwCl (mWs G M') t.heap) (hS : va_S (mA G) s.heap H1 locs1) (hrow : M' 232 = M 232 ∧ M' 233 = M 233) : mDy G s M' H1 locs1 := by
  subst ht
  exact ⟨h, mWs_D hD.2.1, hS, mScr_row hD.2.2.2 hrow.1 hrow.2⟩
theorem m_after {G : mG} {pc : Nat} {st0 rest : List Value} {mc ms : Nat} {v : Option Int32} {M M' : mM} {a : Array Value} (hr : va_Run p l e R s m args below meth c H locs cells slots mc ms (F0 m pc ls st0) rest (mQc G v M' a) (mA G))
    (hD : mDy G s M H locs) (hrow : M' 232 = M 232 ∧ M' 233 = M 233)
    (kk : ∀ (H1 : Heap) (locs1 : List Loc), mDy G s M' H1 locs1 → W p l e R s m args below meth c H1 locs1 (cells + mc) (slots + ms) Q (F0 m (pc + 3) ls (mVl v ++ rest))) :
    W p l e R s m args below meth c H locs cells slots Q (F0 m pc ls st0) := by
  cases v with
  | some x => exact va_calli (a := a) hr hD.2.2.1 (fun _ _ h => h) (fun _ h => h) (fun r u t H1 locs1 ht hvm hw hB hz hk hS => by
      have e : r = x := hw
      subst e
      exact kk H1 locs1 (mDy_on hD ht hB hS hrow))
  | none => exact va_callv (a := a) hr hD.2.2.1 (fun _ _ h => h) (fun _ h => h) (fun u t H1 locs1 ht hvm hw hB hz hk hS => kk H1 locs1 (mDy_on hD ht hB hS hrow))
theorem m_afterX {G : mG} {pc : Nat} {st0 rest : List Value} {mc ms : Nat} {v : Option Int32} {M M' : mM} {a : Array Value} (hr : vx_Run p l e R s m args below meth c H locs cells slots mc ms (F0 m pc ls st0) rest (mQc G v M' a) (vx_X (fun (_ : Unit) => False) (fun _ _ _ => True) (mA G)) (mA G))
    (hD : mDy G s M H locs) (hrow : M' 232 = M 232 ∧ M' 233 = M 233)
    (kk : ∀ (H1 : Heap) (locs1 : List Loc), mDy G s M' H1 locs1 → W p l e R s m args below meth c H1 locs1 (cells + mc) (slots + ms) Q (F0 m (pc + 3) ls (mVl v ++ rest))) :
    W p l e R s m args below meth c H locs cells slots Q (F0 m pc ls st0) := by
  cases v with
  | some x => exact vx_calli (a := a) hr hD.2.2.1 (fun _ _ h => h) (fun _ h => h) (fun _ _ h => h) (fun E ce q9 u t H1 locs1 ht hvm hp => hp.elim) (fun r u t H1 locs1 ht hvm hw hB hz hk hS => by
      have e : r = x := hw
      subst e
      exact kk H1 locs1 (mDy_on hD ht hB hS hrow))
  | none => exact vx_callv (a := a) hr hD.2.2.1 (fun _ _ h => h) (fun _ h => h) (fun _ _ h => h) (fun E ce q9 u t H1 locs1 ht hvm hp => hp.elim) (fun u t H1 locs1 ht hvm hw hB hz hk hS => kk H1 locs1 (mDy_on hD ht hB hS hrow))
/-- behind a call that throws: caught or not, the world is there -/
theorem m_afterT {G : mG} {pc : Nat} {st0 rest : List Value} {mc ms E : Nat} {M M' : mM} {a : Array Value} (hr : vx_Run p l e R s m args below meth c H locs cells slots mc ms (F0 m pc ls st0) rest (mNo a) (mXc G E M') (mA G))
    (hD : mDy G s M H locs) (hrow : M' 232 = M 232 ∧ M' 233 = M 233)
    (kk : ∀ (ce : Cell) (q9 : Addr) (H1 : Heap) (locs1 : List Loc), mDy G s M' H1 locs1 → H1[q9]? = some ce → ce.vm = .none → s.vm.findClass (mEx E) = some ce.cls → vx_W p l e R s m args below meth c H1 locs1 (cells + mc) (slots + ms) Q (F0 m pc ls rest) q9) :
    W p l e R s m args below meth c H locs cells slots Q (F0 m pc ls st0) := by
  have hr' : vx_Run p l e R s m args below meth c H locs cells slots mc ms (F0 m pc ls st0) rest (va_Qv (fun (_ : Unit) => False) (fun _ _ => True) (mA G) a) (mXc G E M') (mA G) := by
    intro T hT X
    rcases hr T hT X with ⟨v, st₀, t, T', L, h0, X', hL, e1, e2, ⟨⟨u, hv, hp, hb⟩, hF⟩, st⟩ | h
    · exact hp.elim
    · exact Or.inr h
  refine vx_callv hr' hD.2.2.1 (fun _ _ h => h) (fun _ h => h) (fun _ _ h => h) (fun F ce q9 u t H1 locs1 ht hvm hp hB hz hk hS hc1 hc2 hc3 => ?_) (fun u t H1 locs1 ht hvm hw => hw.elim)
  obtain ⟨rfl, hB⟩ := hB
  exact kk ce q9 H1 locs1 (mDy_on hD ht hB hS hrow) hc1 hc2 hc3
end MU
