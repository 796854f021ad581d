/-! throwing: what it asks of a state beyond CK, contracts of calls that throw, the rows of a throw and of a call that throws -/
def xE0 : String := "java/lang/IllegalArgumentException"
def xE1 : String := "java/lang/IllegalStateException"
def xE2 : String := "java/lang/IndexOutOfBoundsException"
def xE3 : String := "java/util/NoSuchElementException"
def xNm : List String := ["java/lang/RuntimeException", "java/lang/Exception"]
def xk_s : List (Nat × String) := [(83, "a symbol is 0 to 15, many 1 to 80"), (241, "the text would have more than 80 symbols"), (101, "many is 1 to 16"), (105, "there is no such place"), (108, "a symbol is 0 to 15"), (113, "many is 0 to the size"), (115, "there are no such places, or no such symbol"), (117, "a limit is 1 to 6"), (122, "a header's price is 0 to 200, a symbol's 0 to 20"), (130, "a greatest size is 1 to 80"), (135, "there is no such block"), (244, "there is no plan"), (192, "the bits are not 0 to 2^L - 1"), (200, "the text is empty"), (246, "there is no such bit"), (221, "no such symbol was read")]
def xk_c : List String := [xE0, xE1, xE2, xE3]
def xk_d : List MethodName := [Bundle.initS "java/lang/RuntimeException", Bundle.initS "java/lang/Exception", Bundle.initS Bundle.tN]
def xk_n : List (String × String) := [(xE1, xE0), (xE0, xE2), (xE2, xE1), (xE0, xE1), (xE3, xE1)]
/-- statics that Throwable's constructor reads (their cells lie below h0), the string constants, the exceptions' classes -/
def XK (h0 : Nat) (U : State) : Prop :=
  (vx_Zq Bundle.tN "UNASSIGNED_STACK" Bundle.steD (fun q => h0 ≤ q) U U.heap ∧ vx_Zq Bundle.tN "SUPPRESSED_SENTINEL" Bundle.listD (fun q => h0 ≤ q) U U.heap) ∧
  (∀ q ∈ xk_s, ∃ sa : Nat, vk_R RX9 q.1 q.2 sa U) ∧ (∀ E ∈ xk_c, va_Nw (.castable E E) U) ∧ (∀ x ∈ xk_d, va_Nw (.declares x) U) ∧ ∀ q ∈ xk_n, va_Nc q.1 q.2 U
theorem XK.moved {h0 : Nat} {s U : State} (hW : s.WarmedH U.vm) (hq : ∀ a : Nat, a < s.heap.size → ¬ h0 ≤ a → U.heap[a]? = s.heap[a]?) (h : XK h0 s) : XK h0 U :=
  ⟨⟨(vx_Zq.moved hW.alike h.1.1).kept hq, (vx_Zq.moved hW.alike h.1.2).kept hq⟩, fun q hm => by
    obtain ⟨sa, h2⟩ := h.2.1 q hm
    exact ⟨sa, vk_R.warm hW h2⟩, fun E hm => va_Nw.warmC hW (h.2.2.1 E hm), fun x hm => va_Nw.warmD hW (h.2.2.2.1 x hm), fun q hm => va_Nc.moved hW.alike (h.2.2.2.2 q hm)⟩
theorem XK.same {h0 : Nat} {s U : State} (hv : s.vm = U.vm) (hh : U.heap = s.heap) (h : XK h0 s) : XK h0 U := XK.moved (by rw [← hv]; exact State.WarmedH.refl s) (fun a _ _ => by rw [hh]) h
def CX (D : va_G) (cI : ClassId) (h0 : Nat) (ws : va_W) (sz : Nat) (U : State) : Prop := CP D cI ws sz U ∧ XK h0 U ∧ ∀ q : Nat, va_A ws sz q → h0 ≤ q
theorem CX.blind {D : va_G} {cI : ClassId} {h0 : Nat} {ws : va_W} {sz : Nat} {av : List Value} : FrameBlind (va_Pc av (CX D cI h0 ws sz)) := fun a U g mk q =>
  ⟨q.1, (CP.blind (D := D) (cI := cI) (ws := ws) (sz := sz) (av := av) a U g mk ⟨q.1, q.2.1⟩).2, XK.same (s := U) (U := U.calling g mk a) rfl rfl q.2.2.1, q.2.2.2⟩
def XC0 (D : va_G) (ws : va_W) (A : Nat → Prop) (E : String) : String → State → State → Prop := fun E' st t => E' = E ∧ va_P D vwCl ws t.heap ∧ va_F A st t
def Q0 : Array Value → State → Outcome → State → Prop := fun _ _ _ _ => False
/-- a method that throws E, and leaves all as it was -/
def Ctx (l : Launch) (y : MethodName) (w : List Cond) (rm : Room) (D : va_G) (cI : ClassId) (h0 : Nat) (av : List Value) (ws : va_W) (E : String) : Prop :=
  ∀ sz : Nat, vx_Met l y w rm (va_Pc av (CX D cI h0 ws sz)) Q0 (XC0 D ws (va_A ws sz) E) rm.cells rm.slots (va_A ws sz)
section CX
variable {p : Program} {l : Launch} {e : Env} {R : Room} {s : State} {m : MethodId} {args : Array Value} {below : List Frame} {meth : Method} {c : Code} {H : Heap} {locs : List Loc} {cells slots : Nat} {Q : State → Prop}
variable {cc : ByteArray} {pc : Nat} {ls : Array Slot} {D : va_G} {A : Nat → Prop} {ws : va_W} {cI : ClassId} {h0 : Nat}
theorem ry_preX {av : List Value} {wc : va_W} (hK : CK D cI s) (hX : XK h0 s) (hA0 : ∀ q : Nat, A q → h0 ≤ q) (hA : ∀ q : Nat, s.heap.size ≤ q → A q) (hP : va_P D vwCl ws H) (hD : va_D A ws) (hS : va_S A s.heap H locs) (isC : List Nat) (hn : va_nd isC = true) (hC : isC.map (fun i => ws[i]?) = wc.map some) : ∀ U : State, U.heap = H → s.WarmedH U.vm → va_Pc av (CX D cI h0 wc H.size) av.toArray U := by
  intro U hU hW
  have hF := va_free (wc := wc) hD hS hA isC hC
  exact ⟨rfl, (ry_pre (av := av) hK hP hD isC hn hC U hU hW).2, XK.moved hW (fun a h1 h2 => by rw [hU]; exact hS.2.1 a h1 (fun h3 => h2 (hA0 a h3))) hX, fun q h => hA0 q (hF q h)⟩
variable {rest st0 : List Value} {rm : Room} {wc wr : va_W} {a : Array Value} {E : String}
/-- a call that throws -/
theorem ry_cx (hr : vx_Run p l e R s m args below meth c H locs cells slots rm.cells rm.slots (F0 m pc ls st0) rest (Q0 a) (XC0 D wc (va_A wc H.size) E) (va_A wc H.size)) (hP : va_P D vwCl ws H) (hD : va_D A ws) (hS : va_S A s.heap H locs) (hA : ∀ q, s.heap.size ≤ q → A q)
    (isC isR : List Nat) (hn0 : va_nd isC = true) (hC : isC.map (fun i => ws[i]?) = wc.map some) (hR : isR.map (fun i => ws[i]?) = wr.map some) (hn : va_nd isR = true) (hdis : ∀ i ∈ isR, i ∉ isC)
    (kk : ∀ (ce : Cell) (q9 : Addr) (H1 : Heap) (locs1 : List Loc), va_P D vwCl (wr ++ wc) H1 → va_D A (wr ++ wc) → va_S A s.heap H1 locs1 → H1[q9]? = some ce → ce.vm = .none → s.vm.findClass E = some ce.cls → vx_W p l e R s m args below meth c H1 locs1 (cells + rm.cells) (slots + rm.slots) Q (F0 m pc ls rest) q9) : W p l e R s m args below meth c H locs cells slots Q (F0 m pc ls st0) := by
  have hF := va_free (wc := wc) hD hS hA isC hC
  intro T hT X
  rcases hr T hT X with ⟨v, st₀, t, T', L, h0, X', hL, e1, e2, hf, st⟩ | ⟨q, st₀, t, T', L, E', ce, h0, X', hL, e1, e2, ⟨rfl, hP1, hF1⟩, hce, hcv, hcl, st⟩
  · exact hf.elim
  · obtain ⟨k1, k2, k3⟩ := vx_keep h0 e1 hS (fun q _ h => hF q h) hF hL hF1
    obtain ⟨hP2, hD2⟩ := va_join hP hD isC isR hC hR hn hdis k2 hF (by rw [e1]; exact hP1) (hD.sub isC hn0 hC).self
    obtain ⟨t2, a1, b1⟩ := kk ce q T'.heap (locs ++ L) hP2 hD2 k3 (by rw [e1]; exact hce) hcv hcl T' rfl X'
    exact ⟨t2, st.trans a1, b1⟩
end CX
/-- what a walk that ends in a throw has at hand -/
theorem Ctx_of {l : Launch} {y : MethodName} {w w' : List Cond} {rm : Room} {D : va_G} {cI : ClassId} {h0 : Nat} {av : List Value} {ws : va_W} {E : String} {cc : ByteArray} {maxL : Nat} {ret : Option FieldType} (hy : plainName y.cls = true) (hw : w = Cond.code y cc maxL ret :: w') (hn : (lg_sl av).length ≤ maxL)
    (body : ∀ (p : Program) (e : Env) (s : State) (m : MethodId) (args : Array Value) (below : List Frame) (meth : Method) (c : Code) (A : Nat → Prop) (Q : State → Prop), Cx p s m args meth c cc maxL ret w y.cls y.name D cI A → XK h0 s → (∀ q : Nat, A q → h0 ≤ q) → (∀ x ∈ c.exceptionTable.toList, False) → Q = vx_MQ below Q0 (XC0 D ws A E) args s rm.cells rm.slots A →
      (∀ (ce : Cell) (q9 : Addr) (H : Heap) (locs : List Loc) (pc : Nat) (ls : Array Slot) (rest : List Value) (cells slots : Nat), va_P D vwCl ws H → va_S A s.heap H locs → H[q9]? = some ce → ce.vm = .none → s.vm.findClass E = some ce.cls → cells ≤ rm.cells → slots ≤ rm.slots → vx_W p l e rm s m args below meth c H locs cells slots Q (F0 m pc ls rest) q9) →
      va_P D vwCl ws s.heap → va_D A ws → va_S A s.heap s.heap [] → ∀ ls : Array Slot, lv_has ls maxL (lv_args 0 av) → W p l e rm s m args below meth c s.heap [] 0 0 Q (F0 m 0 ls [])) :
    Ctx l y w rm D cI h0 av ws E := by
  intro sz
  refine vx_ofW (cc := cc) (maxL := maxL) (ret := ret) hy hw ?_
  intro p e s m args below meth c s₁ B hml hno hv
  obtain ⟨rfl, ⟨hsz, hP, hD0, hK⟩, hX, hA0⟩ := hv
  subst hsz
  rw [lg_entry_eq]
  exact body p e s m av.toArray below meth c (va_A ws s.heap.size) _ ⟨B.exec, B.bytes, hml, B.returns, findClass_of_methodNamed B.named, atoms_spec (ws := w) B.pre, B.notSynchronized, hK, fun q h => Or.inr h, (name_of_methodNamed B.named B.method).1⟩ hX hA0 hno rfl
    (fun ce q9 H locs pc ls rest cells slots h1 h2 h3 h4 h5 h6 h7 => vx_out (fun x hx => (hno x hx).elim) B.notSynchronized h3 h4 h5 (fun t ht _ => ⟨rfl, by rw [ht]; exact h1, h2.F ht⟩) h2.2.2 h6 h7) hP hD0.self va_S.rf _ (lv_entry av hn)
/-- 'throw new E("text")' at the end of such a walk -/
theorem ry_throw {p : Program} {l : Launch} {e : Env} {rm : Room} {s : State} {m : MethodId} {args : Array Value} {below : List Frame} {meth : Method} {c : Code} {H : Heap} {locs : List Loc} {cells slots : Nat} {Q : State → Prop} {cc : ByteArray} {pc : Nat} {ls : Array Slot} {rest : List Value} {D : va_G} {A : Nat → Prop} {ws : va_W} {h0 : Nat} {E text : String} {ik is ic maxL : Nat} {wl : List Cond}
    (hst : l.stackTraces = false) (hx : p.tables.exec = Jvm.exec) (hb : c.code = cc) (hml : c.maxLocals = maxL) (hlocks : meth.locks = false) (hown : s.vm.findClass RX9 = some m.cls) (hts : ∀ w ∈ wl, w.before args s = true) (hX : XK h0 s) (hA0 : ∀ q : Nat, A q → h0 ≤ q) (hno : ∀ x ∈ c.exceptionTable.toList, False) (hQ : Q = vx_MQ below Q0 (XC0 D ws A E) args s rm.cells rm.slots A)
    (hcls : Bundle.fit E = true) (hEc : E ∈ xk_c) (hk : Cond.classLink RX9 ik E ∈ wl) (hini : Cond.initialized E ∈ wl) (hsx : (is, text) ∈ xk_s) (hgw : ∀ w ∈ (vx_atS RX9 ic E xNm).filter goodWord, w ∈ wl) (hbw : ∀ w ∈ (vx_atS RX9 ic E xNm).filter (fun w => !goodWord w), w ∈ Cond.castable E E :: xk_d.map Cond.declares) (hgood : ∀ w ∈ Cond.classLink RX9 ik E :: Cond.initialized E :: vx_atS RX9 ic E xNm, vx_ot w = true)
    (d0 : decode cc pc = .ok (.new ik, 3)) (d3 : decode cc (pc + 3) = .ok (.dup, 1)) (d4 : decode cc (pc + 4) = .ok (.ldc is, 2)) (d6 : decode cc (pc + 6) = .ok (.invokespecial ic, 3)) (d9 : decode cc (pc + 9) = .ok (.athrow, 1))
    (hl : ls.size = maxL) (hF : 6 ≤ rm.frames) (hLo : (rest.map fun v => v.category).sum + 82 ≤ rm.locals) (hc : cells + 1 ≤ rm.cells) (hs : slots + 6 ≤ rm.slots) (hP : va_P D vwCl ws H) (hS : va_S A s.heap H locs) :
    W p l e rm s m args below meth c H locs cells slots Q (F0 m pc ls rest) := by
  subst hQ
  obtain ⟨sa, hsa⟩ := hX.2.1 (is, text) hsx
  have hfit : ∀ n ∈ xNm, Bundle.fit n = true := by decide +kernel
  refine vx_throwS (own := RX9) (cls := E) (text := text) (names := xNm) (sa := sa) (A := A) hx hb hst hown hcls hfit (hts _ hk) (hts _ hini) hsa ?_ hgood (vx_Zq.narrow hX.1.1 hA0) (vx_Zq.narrow hX.1.2 hA0) hS (hl.trans hml.symm) d0 d3 d4 d6 d9 (fun x hx => (hno x hx).elim) hF hLo hc hs hlocks ?_ hS.2.2 hc hs
  · refine vx_hat (B := Cond.castable E E :: xk_d.map Cond.declares) (fun w h => hts w (hgw w h)) hbw (vx_c (va_Nw.use rfl (hX.2.2.1 E hEc)) ?_)
    intro w hw
    obtain ⟨x, hx1, rfl⟩ := List.mem_map.mp hw
    exact va_Nw.use rfl (hX.2.2.2.1 x hx1)
  · intro t _ h1 h2
    exact ⟨rfl, hP.kept (fun k q hk => h2 _ (vx_lt hP hk)), Nat.le_trans hS.1 h1, fun q h3 h4 => (h2 q (Nat.lt_of_lt_of_le h3 hS.1)).trans (hS.2.1 q h3 h4)⟩
/-- the words of the three classes that are thrown with the common constructor -/
theorem xg_0 : ∀ w ∈ Cond.classLink RX9 81 xE0 :: Cond.initialized xE0 :: vx_atS RX9 85 xE0 xNm, vx_ot w = true := by decide +kernel
theorem xg_1 : ∀ w ∈ Cond.classLink RX9 239 xE1 :: Cond.initialized xE1 :: vx_atS RX9 243 xE1 xNm, vx_ot w = true := by decide +kernel
theorem xg_2 : ∀ w ∈ Cond.classLink RX9 103 xE2 :: Cond.initialized xE2 :: vx_atS RX9 107 xE2 xNm, vx_ot w = true := by decide +kernel
theorem xb_0 : ∀ w ∈ (vx_atS RX9 85 xE0 xNm).filter (fun w => !goodWord w), w ∈ Cond.castable xE0 xE0 :: xk_d.map Cond.declares := by decide +kernel
theorem xb_1 : ∀ w ∈ (vx_atS RX9 243 xE1 xNm).filter (fun w => !goodWord w), w ∈ Cond.castable xE1 xE1 :: xk_d.map Cond.declares := by decide +kernel
theorem xb_2 : ∀ w ∈ (vx_atS RX9 107 xE2 xNm).filter (fun w => !goodWord w), w ∈ Cond.castable xE2 xE2 :: xk_d.map Cond.declares := by decide +kernel
