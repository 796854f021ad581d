/-! contracts in one form: the world is a list of cells, every int is iI z, every int array ia f of class cI -/
def nw_l : List (String × Nat × MethodName × String) := [(RX9, 9, yX8_init, RX9), (RX9, 18, yX5_init, RX9), (RX9, 25, yX7_init, RX9), (RX9, 32, yX3_init, RX9), (RX9, 39, yX6_init, RX9), (RX6, 11, yX1_init, RX9), (RX1, 11, yX7_init, RX9), (RX1, 20, yX3_init, RX9), (RX9, 46, yX2_init, RX9), (RX9, 53, yX4_init, RX9), (RX9, 64, yX0_init, RX9), (RX7, 49, yX9_isSymbol, RX9), (RX4, 34, yX9_isSymbol, RX9)]
def NW (U : State) : Prop := ∀ q ∈ nw_l, va_Nw (.methodLinkNest q.1 q.2.1 q.2.2.1 q.2.2.2) U
/-- what every contract asks of the tables: the classes' numbers and slots, the class of int arrays, the links among nest mates -/
def CK (D : va_G) (cI : ClassId) (U : State) : Prop := va_K D vwCl [(cI, .int)] U ∧ NW U
theorem CK.moved {D : va_G} {cI : ClassId} {s U : State} (hW : s.WarmedH U.vm) (h : CK D cI s) : CK D cI U := ⟨va_K.moved hW.alike h.1, fun q hq => va_Nw.warmM hW (h.2 q hq)⟩
theorem CK.same {D : va_G} {cI : ClassId} {s U : State} (hv : s.vm = U.vm) (h : CK D cI s) : CK D cI U := ⟨va_K.moved (by rw [hv]; exact Vm.Alike.refl U.vm) h.1, fun q hq => va_Nw.same rfl hv (h.2 q hq)⟩
def CP (D : va_G) (cI : ClassId) (ws : va_W) (sz : Nat) (U : State) : Prop := U.heap.size = sz ∧ va_P D vwCl ws U.heap ∧ va_D (fun _ => True) ws ∧ CK D cI U
theorem CP.blind {D : va_G} {cI : ClassId} {ws : va_W} {sz : Nat} {av : List Value} : FrameBlind (va_Pc av (CP D cI ws sz)) := fun a U g mk q => ⟨q.1, q.2.1, q.2.2.1, q.2.2.2.1, CK.same (s := U) (U := U.calling g mk a) rfl q.2.2.2.2⟩
def BW (D : va_G) (ws : va_W) (sz : Nat) {S : Type} (w1 : S → va_W) : S → State → Prop := fun u t => va_P D vwCl (w1 u) t.heap ∧ va_D (va_A ws sz) (w1 u)
/-- a method with an int answer -/
def Cti (l : Launch) (y : MethodName) (w : List Cond) (rm : Room) (D : va_G) (cI : ClassId) (av : List Value) (ws : va_W) {S : Type} (post : Int → S → Prop) (w1 : S → va_W) : Prop :=
  ∀ sz : Nat, Met l y w rm (va_Pc av (CP D cI ws sz)) (va_Qi (fun (r : Int32) (u : S) => ∃ z : Int, r = iI z ∧ post z u) (BW D ws sz w1) (va_A ws sz)) rm.cells rm.slots (va_A ws sz)
/-- a method with a long answer -/
def Ctl (l : Launch) (y : MethodName) (w : List Cond) (rm : Room) (D : va_G) (cI : ClassId) (av : List Value) (ws : va_W) {S : Type} (post : Int64 → S → Prop) (w1 : S → va_W) : Prop :=
  ∀ sz : Nat, Met l y w rm (va_Pc av (CP D cI ws sz)) (va_Ql post (BW D ws sz w1) (va_A ws sz)) rm.cells rm.slots (va_A ws sz)
/-- a method without an answer -/
def Ctv (l : Launch) (y : MethodName) (w : List Cond) (rm : Room) (D : va_G) (cI : ClassId) (av : List Value) (ws : va_W) {S : Type} (post : S → Prop) (w1 : S → va_W) : Prop :=
  ∀ sz : Nat, Met l y w rm (va_Pc av (CP D cI ws sz)) (va_Qv post (BW D ws sz w1) (va_A ws sz)) rm.cells rm.slots (va_A ws sz)
/-- what a walk has at hand from a method's entry on -/
def Cx (p : Program) (s : State) (m : MethodId) (args : Array Value) (meth : Method) (c : Code) (cc : ByteArray) (maxL : Nat) (ret : Option FieldType) (w : List Cond) (own nm : String) (D : va_G) (cI : ClassId) (A : Nat → Prop) : Prop :=
  p.tables.exec = Jvm.exec ∧ c.code = cc ∧ c.maxLocals = maxL ∧ meth.sig.returnType = ret ∧ s.vm.findClass own = some m.cls ∧ (∀ x ∈ w, x.before args s = true) ∧ meth.locks = false ∧ CK D cI s ∧ (∀ q : Nat, s.heap.size ≤ q → A q) ∧ meth.name = nm
section CR
variable {p : Program} {l : Launch} {e : Env} {R : Room} {s : State} {m : MethodId} {args : Array Value} {below : List Frame} {meth : Method} {c : Code} {H : Heap} {locs : List Loc} {cells slots : Nat} {Q : State → Prop}
variable {cc : ByteArray} {pc : Nat} {ls : Array Slot} {D : va_G} {A : Nat → Prop} {ws : va_W} {S : Type} {w1 : S → va_W} {cI : ClassId}
/-- ends -/
theorem ry_iret {post : Int → S → Prop} {z : Int} {sz : Nat} (hx : p.tables.exec = Jvm.exec) (hb : c.code = cc) (hr : meth.sig.returnType = some .int) (hlocks : meth.locks = false) (hA : A = va_A ws sz) (u : S) (hpost : post z u) (hP : va_P D vwCl (w1 u) H) (hD : va_D A (w1 u)) (hS : va_S A s.heap H locs) (hdg : decode cc pc = .ok (.ireturn, 1)) :
    W p l e R s m args below meth c H locs cells slots (MQ below (va_Qi (fun (r : Int32) (u : S) => ∃ z : Int, r = iI z ∧ post z u) (BW D ws sz w1) (va_A ws sz)) args s cells slots A) (F0 m pc ls [.int (iI z)]) := by
  subst hA
  exact W.iret (v := iI z) hx hb hr (fun t ht hW => ⟨⟨iI z, u, rfl, ⟨z, rfl, hpost⟩, by rw [ht]; exact hP, hD⟩, hS.F ht⟩) hS.2.2 hdg hlocks
theorem ry_zret {post : Int → S → Prop} {z : Int} {sz : Nat} (hx : p.tables.exec = Jvm.exec) (hb : c.code = cc) (hr : meth.sig.returnType = some .boolean) (hlocks : meth.locks = false) (hA : A = va_A ws sz) (hz : z = 0 ∨ z = 1) (u : S) (hpost : post z u) (hP : va_P D vwCl (w1 u) H) (hD : va_D A (w1 u)) (hS : va_S A s.heap H locs) (hdg : decode cc pc = .ok (.ireturn, 1)) :
    W p l e R s m args below meth c H locs cells slots (MQ below (va_Qi (fun (r : Int32) (u : S) => ∃ z : Int, r = iI z ∧ post z u) (BW D ws sz w1) (va_A ws sz)) args s cells slots A) (F0 m pc ls [.int (iI z)]) := by
  subst hA
  exact W.zret (v := iI z) (ty := .boolean) hx hb hr (by rcases hz with h | h <;> subst h <;> decide) (fun t ht hW => ⟨⟨iI z, u, rfl, ⟨z, rfl, hpost⟩, by rw [ht]; exact hP, hD⟩, hS.F ht⟩) hS.2.2 hdg hlocks
theorem ry_lret {post : Int64 → S → Prop} {z : Int64} {sz : Nat} (hx : p.tables.exec = Jvm.exec) (hb : c.code = cc) (hr : meth.sig.returnType = some .long) (hlocks : meth.locks = false) (hA : A = va_A ws sz) (u : S) (hpost : post z u) (hP : va_P D vwCl (w1 u) H) (hD : va_D A (w1 u)) (hS : va_S A s.heap H locs) (hdg : decode cc pc = .ok (.lreturn, 1)) :
    W p l e R s m args below meth c H locs cells slots (MQ below (va_Ql post (BW D ws sz w1) (va_A ws sz)) args s cells slots A) (F0 m pc ls [.long z]) := by
  subst hA
  exact W.lret (v := z) hx hb hr (fun t ht hW => ⟨⟨z, u, rfl, hpost, by rw [ht]; exact hP, hD⟩, hS.F ht⟩) hS.2.2 hdg hlocks
theorem ry_vret {post : S → Prop} {sz : Nat} (hx : p.tables.exec = Jvm.exec) (hb : c.code = cc) (hr : meth.sig.returnType = none) (hlocks : meth.locks = false) (hA : A = va_A ws sz) (u : S) (hpost : post u) (hP : va_P D vwCl (w1 u) H) (hD : va_D A (w1 u)) (hS : va_S A s.heap H locs) (hdg : decode cc pc = .ok (.return_, 1)) :
    W p l e R s m args below meth c H locs cells slots (MQ below (va_Qv post (BW D ws sz w1) (va_A ws sz)) args s cells slots A) (F0 m pc ls []) := by
  subst hA
  exact W.vret hx hb hr (fun t ht hW => ⟨⟨u, rfl, hpost, by rw [ht]; exact hP, hD⟩, hS.F ht⟩) hS.2.2 hdg hlocks
end CR
section CT
variable {l : Launch} {y : MethodName} {w w' : List Cond} {rm : Room} {D : va_G} {cI : ClassId} {av : List Value} {ws : va_W} {S : Type} {w1 : S → va_W} {cc : ByteArray} {maxL : Nat}
theorem Cti_of {post : Int → S → Prop} (hy : plainName y.cls = true) (hw : w = Cond.code y cc maxL (some .int) :: w') (hn : (lg_sl av).length ≤ maxL)
    (body : ∀ (p : Program) (e : Env) (s : State) (m : MethodId) (args : Array Value) (below : List Frame) (meth : Method) (c : Code) (A : Nat → Prop) (Q : State → Prop), Cx p s m args meth c cc maxL (some .int) w y.cls y.name D cI A →
      (∀ (z : Int) (u : S) (H : Heap) (locs : List Loc) (pc : Nat) (ls : Array Slot), post z u → va_P D vwCl (w1 u) H → va_D A (w1 u) → va_S A s.heap H locs → decode cc pc = .ok (.ireturn, 1) → W p l e rm s m args below meth c H locs rm.cells rm.slots Q (F0 m pc ls [.int (iI z)])) →
      va_P D vwCl ws s.heap → va_D A ws → va_S A s.heap s.heap [] → ∀ ls : Array Slot, lv_has ls maxL (lv_args 0 av) → W p l e rm s m args below meth c s.heap [] 0 0 Q (F0 m 0 ls [])) :
    Cti l y w rm D cI av ws post w1 := by
  intro sz
  refine Met.ofW (cc := cc) (maxL := maxL) (ret := (some .int)) hy hw ?_
  intro p e s m args below meth c s₁ B hml hv
  obtain ⟨rfl, hsz, hP, hD0, hK⟩ := hv
  subst hsz
  rw [lg_entry_eq]
  exact body p e s m av.toArray below meth c (va_A ws s.heap.size) _ ⟨B.exec, B.bytes, hml, B.returns, findClass_of_methodNamed B.named, atoms_spec (ws := w) B.pre, B.notSynchronized, hK, fun q h => Or.inr h, (name_of_methodNamed B.named B.method).1⟩
    (fun z u H locs pc ls h1 h2 h3 h4 h5 => ry_iret B.exec B.bytes B.returns B.notSynchronized rfl u h1 h2 h3 h4 h5) hP hD0.self va_S.rf _ (lv_entry av hn)
theorem Ctz_of {post : Int → S → Prop} (hy : plainName y.cls = true) (hw : w = Cond.code y cc maxL (some .boolean) :: w') (hn : (lg_sl av).length ≤ maxL)
    (body : ∀ (p : Program) (e : Env) (s : State) (m : MethodId) (args : Array Value) (below : List Frame) (meth : Method) (c : Code) (A : Nat → Prop) (Q : State → Prop), Cx p s m args meth c cc maxL (some .boolean) w y.cls y.name D cI A →
      (∀ (z : Int) (u : S) (H : Heap) (locs : List Loc) (pc : Nat) (ls : Array Slot), (z = 0 ∨ z = 1) → post z u → va_P D vwCl (w1 u) H → va_D A (w1 u) → va_S A s.heap H locs → decode cc pc = .ok (.ireturn, 1) → W p l e rm s m args below meth c H locs rm.cells rm.slots Q (F0 m pc ls [.int (iI z)])) →
      va_P D vwCl ws s.heap → va_D A ws → va_S A s.heap s.heap [] → ∀ ls : Array Slot, lv_has ls maxL (lv_args 0 av) → W p l e rm s m args below meth c s.heap [] 0 0 Q (F0 m 0 ls [])) :
    Cti l y w rm D cI av ws post w1 := by
  intro sz
  refine Met.ofW (cc := cc) (maxL := maxL) (ret := (some .boolean)) hy hw ?_
  intro p e s m args below meth c s₁ B hml hv
  obtain ⟨rfl, hsz, hP, hD0, hK⟩ := hv
  subst hsz
  rw [lg_entry_eq]
  exact body p e s m av.toArray below meth c (va_A ws s.heap.size) _ ⟨B.exec, B.bytes, hml, B.returns, findClass_of_methodNamed B.named, atoms_spec (ws := w) B.pre, B.notSynchronized, hK, fun q h => Or.inr h, (name_of_methodNamed B.named B.method).1⟩
    (fun z u H locs pc ls h0 h1 h2 h3 h4 h5 => ry_zret B.exec B.bytes B.returns B.notSynchronized rfl h0 u h1 h2 h3 h4 h5) hP hD0.self va_S.rf _ (lv_entry av hn)
theorem Ctl_of {post : Int64 → S → Prop} (hy : plainName y.cls = true) (hw : w = Cond.code y cc maxL (some .long) :: w') (hn : (lg_sl av).length ≤ maxL)
    (body : ∀ (p : Program) (e : Env) (s : State) (m : MethodId) (args : Array Value) (below : List Frame) (meth : Method) (c : Code) (A : Nat → Prop) (Q : State → Prop), Cx p s m args meth c cc maxL (some .long) w y.cls y.name D cI A →
      (∀ (z : Int64) (u : S) (H : Heap) (locs : List Loc) (pc : Nat) (ls : Array Slot), post z u → va_P D vwCl (w1 u) H → va_D A (w1 u) → va_S A s.heap H locs → decode cc pc = .ok (.lreturn, 1) → W p l e rm s m args below meth c H locs rm.cells rm.slots Q (F0 m pc ls [.long z])) →
      va_P D vwCl ws s.heap → va_D A ws → va_S A s.heap s.heap [] → ∀ ls : Array Slot, lv_has ls maxL (lv_args 0 av) → W p l e rm s m args below meth c s.heap [] 0 0 Q (F0 m 0 ls [])) :
    Ctl l y w rm D cI av ws post w1 := by
  intro sz
  refine Met.ofW (cc := cc) (maxL := maxL) (ret := (some .long)) hy hw ?_
  intro p e s m args below meth c s₁ B hml hv
  obtain ⟨rfl, hsz, hP, hD0, hK⟩ := hv
  subst hsz
  rw [lg_entry_eq]
  exact body p e s m av.toArray below meth c (va_A ws s.heap.size) _ ⟨B.exec, B.bytes, hml, B.returns, findClass_of_methodNamed B.named, atoms_spec (ws := w) B.pre, B.notSynchronized, hK, fun q h => Or.inr h, (name_of_methodNamed B.named B.method).1⟩
    (fun z u H locs pc ls h1 h2 h3 h4 h5 => ry_lret B.exec B.bytes B.returns B.notSynchronized rfl u h1 h2 h3 h4 h5) hP hD0.self va_S.rf _ (lv_entry av hn)
theorem Ctv_of {post : S → Prop} (hy : plainName y.cls = true) (hw : w = Cond.code y cc maxL none :: w') (hn : (lg_sl av).length ≤ maxL)
    (body : ∀ (p : Program) (e : Env) (s : State) (m : MethodId) (args : Array Value) (below : List Frame) (meth : Method) (c : Code) (A : Nat → Prop) (Q : State → Prop), Cx p s m args meth c cc maxL none w y.cls y.name D cI A →
      (∀ (u : S) (H : Heap) (locs : List Loc) (pc : Nat) (ls : Array Slot), post u → va_P D vwCl (w1 u) H → va_D A (w1 u) → va_S A s.heap H locs → decode cc pc = .ok (.return_, 1) → W p l e rm s m args below meth c H locs rm.cells rm.slots Q (F0 m pc ls [])) →
      va_P D vwCl ws s.heap → va_D A ws → va_S A s.heap s.heap [] → ∀ ls : Array Slot, lv_has ls maxL (lv_args 0 av) → W p l e rm s m args below meth c s.heap [] 0 0 Q (F0 m 0 ls [])) :
    Ctv l y w rm D cI av ws post w1 := by
  intro sz
  refine Met.ofW (cc := cc) (maxL := maxL) (ret := none) hy hw ?_
  intro p e s m args below meth c s₁ B hml hv
  obtain ⟨rfl, hsz, hP, hD0, hK⟩ := hv
  subst hsz
  rw [lg_entry_eq]
  exact body p e s m av.toArray below meth c (va_A ws s.heap.size) _ ⟨B.exec, B.bytes, hml, B.returns, findClass_of_methodNamed B.named, atoms_spec (ws := w) B.pre, B.notSynchronized, hK, fun q h => Or.inr h, (name_of_methodNamed B.named B.method).1⟩
    (fun u H locs pc ls h1 h2 h3 h4 h5 => ry_vret B.exec B.bytes B.returns B.notSynchronized rfl u h1 h2 h3 h4 h5) hP hD0.self va_S.rf _ (lv_entry av hn)
end CT
section CS
variable {p : Program} {l : Launch} {e : Env} {R : Room} {s : State} {m : MethodId} {args : Array Value} {below : List Frame} {meth : Method} {c : Code} {H : Heap} {locs : List Loc} {cells slots : Nat} {Q : State → Prop}
variable {cc : ByteArray} {pc : Nat} {ls : Array Slot} {D : va_G} {A : Nat → Prop} {ws : va_W} {S : Type} {w1 : S → va_W} {cI : ClassId}
/-- calls: the run of a contract's method out of any call row, then the caller's other cells beside the callee's new ones -/
theorem ry_pre {av : List Value} {wc : va_W} (hK : CK D cI s) (hP : va_P D vwCl ws H) (hD : va_D A ws) (isC : List Nat) (hn : va_nd isC = true) (hC : isC.map (fun i => ws[i]?) = wc.map some) : ∀ U : State, U.heap = H → s.WarmedH U.vm → va_Pc av (CP D cI wc H.size) av.toArray U := by
  intro U hU hW
  refine ⟨rfl, by rw [hU], ?_, (hD.sub isC hn hC).weaken (fun _ _ _ _ => trivial), hK.moved hW⟩
  rw [hU]
  intro k q hk
  have h1 : (isC.map (fun i => ws[i]?))[k]? = some (some q) := by rw [hC, List.getElem?_map, hk]; rfl
  rw [List.getElem?_map] at h1
  cases hi : isC[k]? with
  | none => rw [hi] at h1; cases h1
  | some i => rw [hi] at h1; exact hP i q (Option.some.inj h1)
variable {rest st0 As : List Value} {rm : Room} {wc wr : va_W} {a : Array Value}
theorem ry_ci {post : Int → S → Prop} (hr : va_Run p l e R s m args below meth c H locs cells slots rm.cells rm.slots (F0 m pc ls st0) rest (va_Qi (fun (r : Int32) (u : S) => ∃ z : Int, r = iI z ∧ post z u) (BW D wc H.size w1) (va_A wc H.size) a) (va_A wc H.size)) (hP : va_P D vwCl ws H) (hD : va_D A ws) (hS : va_S A s.heap H locs) (hA : ∀ q, s.heap.size ≤ q → A q)
    (isC isR : List Nat) (hC : isC.map (fun i => ws[i]?) = wc.map some) (hR : isR.map (fun i => ws[i]?) = wr.map some) (hn : va_nd isR = true) (hdis : ∀ i ∈ isR, i ∉ isC)
    (kk : ∀ (z : Int) (u : S) (H1 : Heap) (locs1 : List Loc), post z u → va_P D vwCl (wr ++ w1 u) H1 → va_D A (wr ++ w1 u) → va_S A s.heap H1 locs1 → W p l e R s m args below meth c H1 locs1 (cells + rm.cells) (slots + rm.slots) Q (F0 m (pc + 3) ls (.int (iI z) :: rest))) : W p l e R s m args below meth c H locs cells slots Q (F0 m pc ls st0) := by
  have hF := va_free (wc := wc) hD hS hA isC hC
  refine va_calli hr hS (fun q _ h => hF q h) hF fun r u t H1 L1 ht hvm hw hB hz1 hk1 hS1 => ?_
  obtain ⟨z, rfl, hp⟩ := hw
  obtain ⟨hP1, hD1⟩ := hB
  rw [ht] at hP1
  obtain ⟨hP2, hD2⟩ := va_join hP hD isC isR hC hR hn hdis hk1 hF hP1 hD1
  exact kk z u H1 L1 hp hP2 hD2 hS1
theorem ry_cl {post : Int64 → S → Prop} (hr : va_Run p l e R s m args below meth c H locs cells slots rm.cells rm.slots (F0 m pc ls st0) rest (va_Ql post (BW D wc H.size w1) (va_A wc H.size) a) (va_A wc H.size)) (hP : va_P D vwCl ws H) (hD : va_D A ws) (hS : va_S A s.heap H locs) (hA : ∀ q, s.heap.size ≤ q → A q)
    (isC isR : List Nat) (hC : isC.map (fun i => ws[i]?) = wc.map some) (hR : isR.map (fun i => ws[i]?) = wr.map some) (hn : va_nd isR = true) (hdis : ∀ i ∈ isR, i ∉ isC)
    (kk : ∀ (z : Int64) (u : S) (H1 : Heap) (locs1 : List Loc), post z u → va_P D vwCl (wr ++ w1 u) H1 → va_D A (wr ++ w1 u) → va_S A s.heap H1 locs1 → W p l e R s m args below meth c H1 locs1 (cells + rm.cells) (slots + rm.slots) Q (F0 m (pc + 3) ls (.long z :: rest))) : W p l e R s m args below meth c H locs cells slots Q (F0 m pc ls st0) := by
  have hF := va_free (wc := wc) hD hS hA isC hC
  refine va_calll hr hS (fun q _ h => hF q h) hF fun r u t H1 L1 ht hvm hw hB hz1 hk1 hS1 => ?_
  obtain ⟨hP1, hD1⟩ := hB
  rw [ht] at hP1
  obtain ⟨hP2, hD2⟩ := va_join hP hD isC isR hC hR hn hdis hk1 hF hP1 hD1
  exact kk r u H1 L1 hw hP2 hD2 hS1
theorem ry_cv {post : S → Prop} (hr : va_Run p l e R s m args below meth c H locs cells slots rm.cells rm.slots (F0 m pc ls st0) rest (va_Qv post (BW D wc H.size w1) (va_A wc H.size) a) (va_A wc H.size)) (hP : va_P D vwCl ws H) (hD : va_D A ws) (hS : va_S A s.heap H locs) (hA : ∀ q, s.heap.size ≤ q → A q)
    (isC isR : List Nat) (hC : isC.map (fun i => ws[i]?) = wc.map some) (hR : isR.map (fun i => ws[i]?) = wr.map some) (hn : va_nd isR = true) (hdis : ∀ i ∈ isR, i ∉ isC)
    (kk : ∀ (u : S) (H1 : Heap) (locs1 : List Loc), post u → va_P D vwCl (wr ++ w1 u) H1 → va_D A (wr ++ w1 u) → va_S A s.heap H1 locs1 → W p l e R s m args below meth c H1 locs1 (cells + rm.cells) (slots + rm.slots) Q (F0 m (pc + 3) ls rest)) : W p l e R s m args below meth c H locs cells slots Q (F0 m pc ls st0) := by
  have hF := va_free (wc := wc) hD hS hA isC hC
  refine va_callv hr hS (fun q _ h => hF q h) hF fun u t H1 L1 ht hvm hw hB hz1 hk1 hS1 => ?_
  obtain ⟨hP1, hD1⟩ := hB
  rw [ht] at hP1
  obtain ⟨hP2, hD2⟩ := va_join hP hD isC isR hC hR hn hdis hk1 hF hP1 hD1
  exact kk u H1 L1 hw hP2 hD2 hS1
end CS
