/-! doubles, nibbles, and what a plan's cells hold -/
/-- a method with a double answer -/
def Ctd (l : Launch) (y : MethodName) (w : List Cond) (rm : Room) (D : va_G) (cI : ClassId) (av : List Value) (ws : va_W) {S : Type} (post : UInt64 → S → Prop) (w1 : S → va_W) : Prop :=
  ∀ sz : Nat, Met l y w rm (va_Pc av (CP D cI ws sz)) (va_Qd post (BW D ws sz w1) (va_A ws sz)) rm.cells rm.slots (va_A ws sz)
section CRD
variable {p : Program} {l : Launch} {e : Env} {R : Room} {s : State} {m : MethodId} {args : Array Value} {below : List Frame} {meth : Method} {c : Code} {H : Heap} {locs : List Loc} {cells slots : Nat} {Q : State → Prop}
variable {cc : ByteArray} {pc : Nat} {ls : Array Slot} {D : va_G} {A : Nat → Prop} {ws : va_W} {S : Type} {w1 : S → va_W} {cI : ClassId}
theorem ry_dret {post : UInt64 → S → Prop} {z : UInt64} {sz : Nat} (hx : p.tables.exec = Jvm.exec) (hb : c.code = cc) (hr : meth.sig.returnType = some .double) (hlocks : meth.locks = false) (hA : A = va_A ws sz) (u : S) (hpost : post z u) (hP : va_P D vwCl (w1 u) H) (hD : va_D A (w1 u)) (hS : va_S A s.heap H locs) (hdg : decode cc pc = .ok (.dreturn, 1)) :
    W p l e R s m args below meth c H locs cells slots (MQ below (va_Qd post (BW D ws sz w1) (va_A ws sz)) args s cells slots A) (F0 m pc ls [.double z]) := by
  subst hA
  exact W.dret (v := z) hx hb hr (fun t ht hW => ⟨⟨z, u, rfl, hpost, by rw [ht]; exact hP, hD⟩, hS.F ht⟩) hS.2.2 hdg hlocks
variable {rest st0 As : List Value} {rm : Room} {wc wr : va_W} {a : Array Value}
theorem ry_cd {post : UInt64 → S → Prop} (hr : va_Run p l e R s m args below meth c H locs cells slots rm.cells rm.slots (F0 m pc ls st0) rest (va_Qd post (BW D wc H.size w1) (va_A wc H.size) a) (va_A wc H.size)) (hP : va_P D vwCl ws H) (hD : va_D A ws) (hS : va_S A s.heap H locs) (hA : ∀ q, s.heap.size ≤ q → A q)
    (isC isR : List Nat) (hC : isC.map (fun i => ws[i]?) = wc.map some) (hR : isR.map (fun i => ws[i]?) = wr.map some) (hn : va_nd isR = true) (hdis : ∀ i ∈ isR, i ∉ isC)
    (kk : ∀ (z : UInt64) (u : S) (H1 : Heap) (locs1 : List Loc), post z u → va_P D vwCl (wr ++ w1 u) H1 → va_D A (wr ++ w1 u) → va_S A s.heap H1 locs1 → W p l e R s m args below meth c H1 locs1 (cells + rm.cells) (slots + rm.slots) Q (F0 m (pc + 3) ls (.double z :: rest))) : W p l e R s m args below meth c H locs cells slots Q (F0 m pc ls st0) := by
  have hF := va_free (wc := wc) hD hS hA isC hC
  refine va_calld hr hS (fun q _ h => hF q h) hF fun r u t H1 L1 ht hvm hw hB hz1 hk1 hS1 => ?_
  obtain ⟨hP1, hD1⟩ := hB
  rw [ht] at hP1
  obtain ⟨hP2, hD2⟩ := va_join hP hD isC isR hC hR hn hdis hk1 hF hP1 hD1
  exact kk r u H1 L1 hw hP2 hD2 hS1
end CRD
theorem Ctd_of {l : Launch} {y : MethodName} {w w' : List Cond} {rm : Room} {D : va_G} {cI : ClassId} {av : List Value} {ws : va_W} {S : Type} {w1 : S → va_W} {cc : ByteArray} {maxL : Nat} {post : UInt64 → S → Prop} (hy : plainName y.cls = true) (hw : w = Cond.code y cc maxL (some .double) :: w') (hn : (lg_sl av).length ≤ maxL)
    (body : ∀ (p : Program) (e : Env) (s : State) (m : MethodId) (args : Array Value) (below : List Frame) (meth : Method) (c : Code) (A : Nat → Prop) (Q : State → Prop), Cx p s m args meth c cc maxL (some .double) w y.cls y.name D cI A →
      (∀ (z : UInt64) (u : S) (H : Heap) (locs : List Loc) (pc : Nat) (ls : Array Slot), post z u → va_P D vwCl (w1 u) H → va_D A (w1 u) → va_S A s.heap H locs → decode cc pc = .ok (.dreturn, 1) → W p l e rm s m args below meth c H locs rm.cells rm.slots Q (F0 m pc ls [.double z])) →
      va_P D vwCl ws s.heap → va_D A ws → va_S A s.heap s.heap [] → ∀ ls : Array Slot, lv_has ls maxL (lv_args 0 av) → W p l e rm s m args below meth c s.heap [] 0 0 Q (F0 m 0 ls [])) :
    Ctd l y w rm D cI av ws post w1 := by
  intro sz
  refine Met.ofW (cc := cc) (maxL := maxL) (ret := (some .double)) hy hw ?_
  intro p e s m args below meth c s₁ B hml hv
  obtain ⟨rfl, hsz, hP, hD0, hK⟩ := hv
  subst hsz
  rw [lg_entry_eq]
  exact body p e s m av.toArray below meth c (va_A ws s.heap.size) _ ⟨B.exec, B.bytes, hml, B.returns, findClass_of_methodNamed B.named, atoms_spec (ws := w) B.pre, B.notSynchronized, hK, fun q h => Or.inr h, (name_of_methodNamed B.named B.method).1⟩
    (fun z u H locs pc ls h1 h2 h3 h4 h5 => ry_dret B.exec B.bytes B.returns B.notSynchronized rfl u h1 h2 h3 h4 h5) hP hD0.self va_S.rf _ (lv_entry av hn)
/-- a quotient of ints, the divisor not 0, is no NaN -/
theorem av_ok {a b : Int} (h1 : 1 ≤ b ∧ b ≤ 2147483647) : vf_n64 (FP.ddiv (FP.i2d (iI a)) (FP.i2d (iI b))) := by
  have hb0 : iI b ≠ 0 := fun q => by
    have h2 := (iI_eq0 (x := b) (by omega)).mp q
    omega
  have h : FP.Core.dIsNaN (FP.ddiv (FP.i2d (iI a)) (FP.i2d (iI b))) = false := FP.Core.ddiv_out (FP.Core.i2d_fin (iI a)).notNaN (FP.Core.i2d_fin (iI b)) (fun hz => FP.Core.i2d_ne_zero hb0 ((FP.Core.zero_bits2 _).mp hz))
  generalize FP.ddiv (FP.i2d (iI a)) (FP.i2d (iI b)) = r at h
  have h2 : ¬ 9218868437227405312 < r.toNat % 2 ^ 63 := fun q => by
    rw [(FP.Core.isNaN_bits r).mpr q] at h
    cases h
  show r &&& 0x7fffffffffffffff ≤ 0x7ff0000000000000
  rw [UInt64.le_iff_toNat_le, UInt64.toNat_and, show (0x7fffffffffffffff : UInt64).toNat = 2 ^ 63 - 1 from rfl, Nat.and_two_pow_sub_one_eq_mod, show (0x7ff0000000000000 : UInt64).toNat = 9218868437227405312 from rfl]
  omega
/-- four bits of a long -/
def nib (v : Int64) (k : Nat) : Int := ((v.toBitVec.toNat / 2 ^ (60 - 4 * k) % 16 : Nat) : Int)
theorem nib_rng (v : Int64) (k : Nat) : 0 ≤ nib v k ∧ nib v k ≤ 15 := by
  unfold nib
  omega
theorem nb_16 (x : Nat) : x &&& 15 = x % 16 := Nat.and_two_pow_sub_one_eq_mod x 4
theorem nib_bv (x : BitVec 64) {s : Nat} (hs : s ≤ 60) : x.sshiftRight s &&& 15#64 = BitVec.ofNat 64 (x.toNat / 2 ^ s % 16) := by
  apply BitVec.eq_of_getLsbD_eq
  intro i hi
  rw [BitVec.getLsbD_and, BitVec.getLsbD_sshiftRight, BitVec.getLsbD_ofNat, BitVec.getLsbD_ofNat, show Nat.testBit 15 i = decide (i < 4) from Nat.testBit_two_pow_sub_one 4 i]
  rw [show (16 : Nat) = 2 ^ 4 from rfl, Nat.testBit_mod_two_pow, Nat.testBit_div_two_pow]
  by_cases h4 : i < 4
  · rw [if_pos (by omega)]
    rw [show x.getLsbD (s + i) = x.toNat.testBit (s + i) from rfl]
    simp [h4, hi, Nat.add_comm]
  · simp [h4]
theorem nib_S (v : Int64) {k : Nat} (hk : k < 16) : ((v >>> ((iI ((60 - 4 * k : Nat) : Int)).toInt64 &&& 63)) &&& 15).toInt32 = iI (nib v k) := by
  have key : ∀ k : Fin 16, (((iI ((60 - 4 * k.val : Nat) : Int)).toInt64 &&& 63).toBitVec.smod 64#64).toNat = 60 - 4 * k.val := by decide
  have h1 := key ⟨k, hk⟩
  simp only at h1
  have h2 : ((v >>> ((iI ((60 - 4 * k : Nat) : Int)).toInt64 &&& 63)) &&& 15).toBitVec = BitVec.ofNat 64 (v.toBitVec.toNat / 2 ^ (60 - 4 * k) % 16) := by
    have h3 : v.toBitVec.sshiftRight (60 - 4 * k) = v.toBitVec.sshiftRight (((iI ((60 - 4 * k : Nat) : Int)).toInt64 &&& 63).toBitVec.smod 64#64).toNat := by rw [h1]
    rw [← nib_bv v.toBitVec (by omega), h3]
    rfl
  apply Int32.toBitVec.inj
  rw [Int64.toBitVec_toInt32, h2]
  apply BitVec.eq_of_toNat_eq
  rw [BitVec.signExtend_eq_setWidth_of_le _ (by omega), BitVec.toNat_setWidth, BitVec.toNat_ofNat]
  unfold nib
  rw [iI_nat]
  show _ = (BitVec.ofNat 32 _).toNat
  rw [BitVec.toNat_ofNat]
  omega
theorem nib_U (v : Int64) {k : Nat} (hk : k < 16) : ((v.toUInt64 >>> ((iI ((60 - 4 * k : Nat) : Int)).toInt64.toUInt64 &&& Int64.toUInt64 63)).toInt64).toInt32 &&& iI 15 = iI (nib v k) := by
  have key : ∀ k : Fin 16, (((iI ((60 - 4 * k.val : Nat) : Int)).toInt64.toUInt64 &&& Int64.toUInt64 63).toBitVec % 64#64).toNat = 60 - 4 * k.val := by decide
  have h1 := key ⟨k, hk⟩
  simp only at h1
  have h2 : (v.toUInt64 >>> ((iI ((60 - 4 * k : Nat) : Int)).toInt64.toUInt64 &&& Int64.toUInt64 63)).toInt64.toBitVec = v.toBitVec >>> (60 - 4 * k) := by
    have h3 : v.toBitVec >>> (60 - 4 * k) = v.toBitVec >>> (((iI ((60 - 4 * k : Nat) : Int)).toInt64.toUInt64 &&& Int64.toUInt64 63).toBitVec % 64#64).toNat := by rw [h1]
    rw [h3]
    rfl
  apply Int32.toBitVec.inj
  rw [Int32.toBitVec_and, Int64.toBitVec_toInt32, h2]
  apply BitVec.eq_of_toNat_eq
  rw [BitVec.toNat_and, BitVec.signExtend_eq_setWidth_of_le _ (by omega), BitVec.toNat_setWidth, BitVec.toNat_ushiftRight, Nat.shiftRight_eq_div_pow, show (iI 15).toBitVec.toNat = 15 from rfl, nb_16]
  unfold nib
  rw [iI_nat]
  show _ = (BitVec.ofNat 32 _).toNat
  rw [BitVec.toNat_ofNat]
  generalize v.toBitVec.toNat / 2 ^ (60 - 4 * k) = t
  omega
section NB
variable {p : Program} {l : Launch} {e : Env} {R : Room} {s : State} {m : MethodId} {args : Array Value} {below : List Frame} {meth : Method} {c : Code} {H : Heap} {locs : List Loc} {cells slots : Nat} {Q : State → Prop}
variable {cc : ByteArray} {pc : Nat} {ls : Array Slot} {rest : List Value}
theorem ry_nibU (hx : p.tables.exec = Jvm.exec) (hb : c.code = cc) {sh : Int} {v : Int64} (k : Nat) (hk : sh = ((60 - 4 * k : Nat) : Int) ∧ k < 16) (d0 : decode cc pc = .ok (.lushr, 1)) (d1 : decode cc (pc + 1) = .ok (.l2i, 1)) (d2 : decode cc (pc + 2) = .ok (.bipush 15, 2)) (d4 : decode cc (pc + 4) = .ok (.iand, 1))
    (kk : W p l e R s m args below meth c H locs cells slots Q (F0 m (pc + 5) ls (.int (iI (nib v k)) :: rest))) : W p l e R s m args below meth c H locs cells slots Q (F0 m pc ls (.int (iI sh) :: .long v :: rest)) := by
  obtain ⟨rfl, hk⟩ := hk
  refine lv_lushr hx hb d0 rfl ?_
  refine lv_l2i hx hb d1 rfl ?_
  refine ry_bipush (v := 15) hx hb d2 (by decide) ?_
  refine lv_iand hx hb d4 ?_
  rw [nib_U v hk]
  exact kk
theorem ry_nibS (hx : p.tables.exec = Jvm.exec) (hb : c.code = cc) {own : String} {index : Nat} (hown : s.vm.findClass own = some m.cls) (hconst : (Jvm.Cond.constantLong own index 15).before args s = true) {sh : Int} {v : Int64} (k : Nat) (hk : sh = ((60 - 4 * k : Nat) : Int) ∧ k < 16) (d0 : decode cc pc = .ok (.lshr, 1)) (d1 : decode cc (pc + 1) = .ok (.ldc2_w index, 3)) (d4 : decode cc (pc + 4) = .ok (.land, 1)) (d5 : decode cc (pc + 5) = .ok (.l2i, 1))
    (kk : W p l e R s m args below meth c H locs cells slots Q (F0 m (pc + 6) ls (.int (iI (nib v k)) :: rest))) : W p l e R s m args below meth c H locs cells slots Q (F0 m pc ls (.int (iI sh) :: .long v :: rest)) := by
  obtain ⟨rfl, hk⟩ := hk
  refine lv_lshr hx hb d0 rfl ?_
  refine lv_ldc2 (v := 15) hx hb hown hconst d1 ?_
  refine lv_land hx hb d4 ?_
  refine lv_l2i hx hb d5 (nib_S v hk) ?_
  exact kk
end NB
/-- a plan's cells -/
theorem pl_feas {tx : Nat → Int} {n L hd pr gr : Nat} (hn : n ≤ 80) (hL : 1 ≤ L) (hh : hd ≤ 200) (hp : pr ≤ 20) (hg : 1 ≤ gr) (htx : ∀ j, j < n → 0 ≤ tx j ∧ tx j ≤ 15) {b : Nat} (hb : b < nbk tx n L hd pr gr) : pg_dp L (posl (cta tx (ps tx n L hd pr gr b) (ps tx n L hd pr gr (b + 1))) 16) (2 ^ L) < 1000000 := by
  have h := (ps_step hn hL hh hp hg htx hb).2.2.2
  simp only [bkc, bk] at h
  omega
theorem pl_rng {tx : Nat → Int} {n L hd pr gr : Nat} (hn : n ≤ 80) (hL : 1 ≤ L ∧ L ≤ 6) (hh : hd ≤ 200) (hp : pr ≤ 20) (hg : 1 ≤ gr) (htx : ∀ j, j < n → 0 ≤ tx j ∧ tx j ≤ 15) {b j : Nat} (hb : b < nbk tx n L hd pr gr) (hj : j < 16) :
    (0 ≤ pln tx n L hd pr gr (16 * b + j) ∧ pln tx n L hd pr gr (16 * b + j) ≤ L) ∧ (-1 ≤ pwd tx n L hd pr gr (16 * b + j) ∧ pwd tx n L hd pr gr (16 * b + j) ≤ 5000) := by
  have h1 := pg_cl_le hL.1 (pl_feas hn hL.1 hh hp hg htx hb) hj
  rw [pwd_at _ _ _ _ _ _ _ _ hj]
  have h0 := pln_at tx n L hd pr gr b j hj
  have h2 : 0 ≤ pln tx n L hd pr gr (16 * b + j) ∧ pln tx n L hd pr gr (16 * b + j) ≤ L := by omega
  refine ⟨h2, ?_⟩
  rw [wdv]
  by_cases e : pln tx n L hd pr gr (16 * b + j) = 0
  · rw [if_pos e]; omega
  · rw [if_neg e]
    have h3 := wb_le6 (fun s => pln tx n L hd pr gr (16 * b + s)) (k := (pln tx n L hd pr gr (16 * b + j)).toNat - 1) (by omega)
    have h4 := ce_le (fun s => pln tx n L hd pr gr (16 * b + s)) (pln tx n L hd pr gr (16 * b + j)) j
    omega
theorem pl_used {tx : Nat → Int} {n L hd pr gr : Nat} (hn : n ≤ 80) (hL : 1 ≤ L ∧ L ≤ 6) (hh : hd ≤ 200) (hp : pr ≤ 20) (hg : 1 ≤ gr) (htx : ∀ j, j < n → 0 ≤ tx j ∧ tx j ≤ 15) {k : Nat} (hk : k < n) :
    1 ≤ pln tx n L hd pr gr (16 * bof tx n L hd pr gr k + (tx k).toNat) ∧ 0 ≤ pwd tx n L hd pr gr (16 * bof tx n L hd pr gr k + (tx k).toNat) := by
  obtain ⟨hb, h1, h2⟩ := bof_ok hn hL.1 hh hp hg htx k hk
  have ht := htx k hk
  have hj : (tx k).toNat < 16 := by omega
  have h3 := pg_cl_le hL.1 (pl_feas hn hL.1 hh hp hg htx hb) hj
  have h4 : cta tx (ps tx n L hd pr gr (bof tx n L hd pr gr k)) (ps tx n L hd pr gr (bof tx n L hd pr gr k + 1)) (tx k).toNat ≠ 0 := by
    intro q
    have h5 := cta_mono (tx := tx) (a := ps tx n L hd pr gr (bof tx n L hd pr gr k)) (b := k + 1) (b' := ps tx n L hd pr gr (bof tx n L hd pr gr k + 1)) (by omega) (tx k).toNat
    have h6 := congrFun (cta_back (tx := tx) h1 ht.1) (tx k).toNat
    rw [up_self] at h6
    omega
  have h0 := pln_at tx n L hd pr gr (bof tx n L hd pr gr k) (tx k).toNat hj
  have h7 : pg_cl (cta tx (ps tx n L hd pr gr (bof tx n L hd pr gr k)) (ps tx n L hd pr gr (bof tx n L hd pr gr k + 1))) L (tx k).toNat ≠ 0 := fun q => h4 (h3.2.mpr q)
  refine ⟨by omega, ?_⟩
  rw [pwd_at _ _ _ _ _ _ _ _ hj, wdv, if_neg (by omega)]
  omega
theorem kc_step {tx : Nat → Int} {n L hd pr gr i : Nat} {ln wd ln1 wd1 lf : Nat → Int} (h1 : ∀ x, x < 16 * i → ln x = pln tx n L hd pr gr x ∧ wd x = pwd tx n L hd pr gr x)
    (h2 : ∀ j, j < 16 → lf j = ((pg_cl (cta tx (ps tx n L hd pr gr i) (ps tx n L hd pr gr (i + 1))) L j : Nat) : Int)) (h3 : ∀ j, j < 16 → ln1 (16 * i + j) = lf j ∧ wd1 (16 * i + j) = wdv lf j) (h4 : ∀ x, (x < 16 * i ∨ 16 * i + 16 ≤ x) → ln1 x = ln x ∧ wd1 x = wd x) :
    ∀ x, x < 16 * (i + 1) → ln1 x = pln tx n L hd pr gr x ∧ wd1 x = pwd tx n L hd pr gr x := by
  intro x hx
  by_cases e : x < 16 * i
  · rw [(h4 x (Or.inl e)).1, (h4 x (Or.inl e)).2]
    exact h1 x e
  · obtain ⟨j, rfl⟩ : ∃ j, x = 16 * i + j := ⟨x - 16 * i, by omega⟩
    have hj : j < 16 := by omega
    refine ⟨by rw [(h3 j hj).1, h2 j hj, pln_at _ _ _ _ _ _ _ _ hj], ?_⟩
    rw [(h3 j hj).2, pwd_at _ _ _ _ _ _ _ _ hj]
    exact wdv_congr (fun s hs => by
      show lf s = pln tx n L hd pr gr (16 * i + s)
      rw [h2 s hs, pln_at _ _ _ _ _ _ _ _ hs]) hj
