/-! the law's own static methods: a call inside a try, its answer put into a row of one cell, the number of what was caught -/
def CKL (D : va_G) (cI cJ cD : ClassId) (U : State) : Prop := va_K D vwCl [(cI, .int), (cJ, .long), (cD, .double)] U ∧ NW U
theorem CKL.moved {D : va_G} {cI cJ cD : ClassId} {s U : State} (hW : s.WarmedH U.vm) (h : CKL D cI cJ cD s) : CKL D cI cJ cD U := ⟨va_K.moved hW.alike h.1, fun q hq => va_Nw.warmM hW (h.2 q hq)⟩
theorem CKL.same {D : va_G} {cI cJ cD : ClassId} {s U : State} (hv : s.vm = U.vm) (h : CKL D cI cJ cD s) : CKL D cI cJ cD U := ⟨va_K.moved (by rw [hv]; exact Vm.Alike.refl U.vm) h.1, fun q hq => va_Nw.same rfl hv (h.2 q hq)⟩
theorem CKL.ck {D : va_G} {cI cJ cD : ClassId} {s : State} (h : CKL D cI cJ cD s) : CK D cI s := ⟨h.1.sub [0] rfl, h.2⟩
def CL (D : va_G) (cI cJ cD : ClassId) (h0 : Nat) (ws : va_W) (sz : Nat) (U : State) : Prop := U.heap.size = sz ∧ va_P D vwCl ws U.heap ∧ va_D (fun _ => True) ws ∧ CKL D cI cJ cD U ∧ XK h0 U ∧ ∀ q : Nat, va_A ws sz q → h0 ≤ q
theorem CL.blind {D : va_G} {cI cJ cD : ClassId} {h0 : Nat} {ws : va_W} {sz : Nat} {av : List Value} : FrameBlind (va_Pc av (CL D cI cJ cD h0 ws sz)) := fun a U g mk q =>
  ⟨q.1, q.2.1, q.2.2.1, q.2.2.2.1, CKL.same (s := U) (U := U.calling g mk a) rfl q.2.2.2.2.1, XK.same (s := U) (U := U.calling g mk a) rfl rfl q.2.2.2.2.2.1, q.2.2.2.2.2.2⟩
/-- a method of the law's own, with an int answer -/
def CtL (l : Launch) (y : MethodName) (w : List Cond) (rm : Room) (D : va_G) (cI cJ cD : ClassId) (h0 : Nat) (av : List Value) (ws : va_W) {S : Type} (post : Int → S → Prop) (w1 : S → va_W) : Prop :=
  ∀ sz : Nat, Met l y w rm (va_Pc av (CL D cI cJ cD h0 ws sz)) (va_Qi (fun (r : Int32) (u : S) => ∃ z : Int, r = iI z ∧ post z u) (BW D ws sz w1) (va_A ws sz)) rm.cells rm.slots (va_A ws sz)
theorem CtL_of {l : Launch} {y : MethodName} {w w' : List Cond} {rm : Room} {D : va_G} {cI cJ cD : ClassId} {h0 : Nat} {av : List Value} {ws : va_W} {S : Type} {w1 : S → va_W} {cc : ByteArray} {maxL : Nat} {hh : List (Nat × Nat × Nat × Nat)} {post : Int → S → Prop} (hy : plainName y.cls = true) (hw : w = Cond.codeWith y cc maxL (some .int) hh :: w') (hn : (lg_sl av).length ≤ maxL)
    (body : ∀ (p : Program) (e : Env) (s : State) (m : MethodId) (args : Array Value) (below : List Frame) (meth : Method) (c : Code) (A : Nat → Prop) (Q : State → Prop), Cx p s m args meth c cc maxL (some .int) w y.cls y.name D cI A → CKL D cI cJ cD s → XK h0 s → (∀ q : Nat, A q → h0 ≤ q) → c.exceptionTable.toList = tableOf hh →
      (∀ (z : Int) (u : S) (H : Heap) (locs : List Loc) (pc : Nat) (ls : Array Slot), post z u → va_P D vwCl (w1 u) H → va_D A (w1 u) → va_S A s.heap H locs → decode cc pc = .ok (.ireturn, 1) → W p l e rm s m args below meth c H locs rm.cells rm.slots Q (F0 m pc ls [.int (iI z)])) →
      va_P D vwCl ws s.heap → va_D A ws → va_S A s.heap s.heap [] → ∀ ls : Array Slot, lv_has ls maxL (lv_args 0 av) → W p l e rm s m args below meth c s.heap [] 0 0 Q (F0 m 0 ls [])) :
    CtL l y w rm D cI cJ cD h0 av ws post w1 := by
  intro sz
  refine va_MetW (cc := cc) (maxL := maxL) (ret := (some .int)) (hh := hh) hy hw ?_
  intro p e s m args below meth c s₁ B hml hv
  obtain ⟨rfl, hsz, hP, hD0, hK, hX, hA0⟩ := hv
  subst hsz
  have htab := vx_table (x := y) B (atoms_spec (ws := w) B.pre _ (by rw [hw]; exact List.mem_cons_self))
  rw [lg_entry_eq]
  exact body p e s m av.toArray below meth c (va_A ws s.heap.size) _ ⟨B.exec, B.bytes, hml, B.returns, findClass_of_methodNamed B.named, atoms_spec (ws := w) B.pre, B.notSynchronized, hK.ck, fun q h => Or.inr h, (name_of_methodNamed B.named B.method).1⟩ hK hX hA0 htab
    (fun z u H locs pc ls h1 h2 h3 h4 h5 => ry_iret B.exec B.bytes B.returns B.notSynchronized rfl u h1 h2 h3 h4 h5) hP hD0.self va_S.rf _ (lv_entry av hn)
section CLR
variable {p : Program} {l : Launch} {e : Env} {R : Room} {s : State} {m : MethodId} {args : Array Value} {below : List Frame} {meth : Method} {c : Code} {H : Heap} {locs : List Loc} {cells slots : Nat} {Q : State → Prop}
variable {cc : ByteArray} {pc : Nat} {ls : Array Slot} {rest : List Value} {D : va_G} {A : Nat → Prop} {a : Nat} {ws : va_W} {H0 : Heap} {cI cJ cD : ClassId} {h0 : Nat}
theorem ry_preL {av : List Value} {wc : va_W} (hK : CKL D cI cJ cD s) (hX : XK h0 s) (hA0 : ∀ q : Nat, A q → h0 ≤ q) (hA : ∀ q : Nat, s.heap.size ≤ q → A q) (hP : va_P D vwCl ws H) (hD : va_D A ws) (hS : va_S A s.heap H locs) (isC : List Nat) (hn : va_nd isC = true) (hC : isC.map (fun i => ws[i]?) = wc.map some) : ∀ U : State, U.heap = H → s.WarmedH U.vm → va_Pc av (CL D cI cJ cD h0 wc H.size) av.toArray U := by
  intro U hU hW
  have hF := va_free (wc := wc) hD hS hA isC hC
  have h1 := (ry_pre (av := av) hK.ck hP hD isC hn hC U hU hW).2
  exact ⟨rfl, h1.1, h1.2.1, h1.2.2.1, hK.moved hW, XK.moved hW (fun a h1 h2 => by rw [hU]; exact hS.2.1 a h1 (fun h3 => h2 (hA0 a h3))) hX, fun q h => hA0 q (hF q h)⟩
theorem ry_last0 (hx : p.tables.exec = Jvm.exec) (hb : c.code = cc) (hK : CKL D cI cJ cD s) (hP : va_P D vwCl ws H) (hD : va_D A ws) (hS : va_S A H0 H locs) (q0 : Nat) {f : Nat → Int64} (ha : ws[q0]? = some (a, .inl (cJ, 1, .inr (.inl f)))) {x : Int64} (hdg : decode cc pc = .ok (.lastore, 1))
    (kk : ∀ (H1 : Heap) (locs1 : List Loc), va_P D vwCl (ws.set q0 (a, .inl (cJ, 1, .inr (.inl (vp_updL f 0 x))))) H1 → va_D A (ws.set q0 (a, .inl (cJ, 1, .inr (.inl (vp_updL f 0 x))))) → va_S A H0 H1 locs1 → W p l e R s m args below meth c H1 locs1 cells slots Q (F0 m (pc + 1) ls rest)) : W p l e R s m args below meth c H locs cells slots Q (F0 m pc ls (.long x :: .int (iI 0) :: .ref a :: rest)) := by
  refine va_last hx hb hK.1 hP hD hS q0 1 ha rfl (iI_in (by omega) (by omega)) hdg fun H1 L1 h1 h2 h3 => ?_
  rw [iI_clamp (by omega)] at h1 h2
  exact kk H1 L1 h1 h2 h3
theorem ry_dast0 (hx : p.tables.exec = Jvm.exec) (hb : c.code = cc) (hK : CKL D cI cJ cD s) (hP : va_P D vwCl ws H) (hD : va_D A ws) (hS : va_S A H0 H locs) (q0 : Nat) {f : Nat → UInt64} (ha : ws[q0]? = some (a, .inl (cD, 1, .inr (.inr (.inr (.inl f)))))) {x : UInt64} (hdg : decode cc pc = .ok (.dastore, 1))
    (kk : ∀ (H1 : Heap) (locs1 : List Loc), va_P D vwCl (ws.set q0 (a, .inl (cD, 1, .inr (.inr (.inr (.inl (vf_upd f 0 x))))))) H1 → va_D A (ws.set q0 (a, .inl (cD, 1, .inr (.inr (.inr (.inl (vf_upd f 0 x))))))) → va_S A H0 H1 locs1 → W p l e R s m args below meth c H1 locs1 cells slots Q (F0 m (pc + 1) ls rest)) : W p l e R s m args below meth c H locs cells slots Q (F0 m pc ls (.double x :: .int (iI 0) :: .ref a :: rest)) := by
  refine va_dast hx hb hK.1 hP hD hS q0 2 ha rfl (iI_in (by omega) (by omega)) hdg fun H1 L1 h1 h2 h3 => ?_
  rw [iI_clamp (by omega)] at h1 h2
  exact kk H1 L1 h1 h2 h3
theorem ry_lald0 (hx : p.tables.exec = Jvm.exec) (hb : c.code = cc) (hK : CKL D cI cJ cD s) (hP : va_P D vwCl ws H) (q0 : Nat) {f : Nat → Int64} (ha : ws[q0]? = some (a, .inl (cJ, 1, .inr (.inl f)))) (hdg : decode cc pc = .ok (.laload, 1))
    (kk : W p l e R s m args below meth c H locs cells slots Q (F0 m (pc + 1) ls (.long (f 0) :: rest))) : W p l e R s m args below meth c H locs cells slots Q (F0 m pc ls (.int (iI 0) :: .ref a :: rest)) := by
  refine va_lald hx hb hK.1 hP q0 1 ha rfl (iI_in (by omega) (by omega)) hdg ?_
  rw [iI_clamp (by omega)]
  exact kk
theorem ry_dald0 (hx : p.tables.exec = Jvm.exec) (hb : c.code = cc) (hK : CKL D cI cJ cD s) (hP : va_P D vwCl ws H) (q0 : Nat) {f : Nat → UInt64} (ha : ws[q0]? = some (a, .inl (cD, 1, .inr (.inr (.inr (.inl f)))))) (hdg : decode cc pc = .ok (.daload, 1))
    (kk : W p l e R s m args below meth c H locs cells slots Q (F0 m (pc + 1) ls (.double (f 0) :: rest))) : W p l e R s m args below meth c H locs cells slots Q (F0 m pc ls (.int (iI 0) :: .ref a :: rest)) := by
  refine va_dald hx hb hK.1 hP q0 2 ha rfl (iI_in (by omega) (by omega)) hdg ?_
  rw [iI_clamp (by omega)]
  exact kk
end CLR
theorem vL_0 (f : Nat → Int64) (x : Int64) : vp_updL f 0 x 0 = x := by simp [vp_updL]
theorem vD_0 (f : Nat → UInt64) (x : UInt64) : vf_upd f 0 x 0 = x := by simp [vf_upd]
