/-! rows of the law: the script, comparisons, and what every case has at hand -/
section LR
variable {p : Program} {l : Launch} {e : Env} {R : Room} {s : State} {m : MethodId} {args : Array Value} {below : List Frame} {meth : Method} {c : Code} {H : Heap} {locs : List Loc} {cells slots : Nat} {Q : State → Prop}
variable {cc : ByteArray} {pc : Nat} {ls : Array Slot} {rest : List Value} {A : Nat → Prop}
theorem ry_sld (hx : p.tables.exec = Jvm.exec) (hb : c.code = cc) {b L : Nat} {zs : Nat → Int} (hX : va_X b L (fun k => iI (zs k)) s s.heap) (hbl : b < s.heap.size) (hbA : ¬ A b) (hS : va_S A s.heap H locs) {i : Int} (j : Nat) (hi : i = (j : Int) ∧ j < L ∧ L ≤ 2048) {v : Int} (hv : zs j = v) (hdg : decode cc pc = .ok (.iaload, 1))
    (kk : W p l e R s m args below meth c H locs cells slots Q (F0 m (pc + 1) ls (.int (iI v) :: rest))) : W p l e R s m args below meth c H locs cells slots Q (F0 m pc ls (.int (iI i) :: .ref b :: rest)) := by
  obtain ⟨rfl, h1, h2⟩ := hi
  refine va_sld hx hb hX hbl hbA hS (iI_in (by omega) (by omega)) hdg ?_
  show W p l e R s m args below meth c H locs cells slots Q (F0 m (pc + 1) ls (.int (iI (zs (iI (j : Int)).toNatClampNeg)) :: rest))
  rw [iI_clamp (by omega), Int.toNat_natCast, hv]
  exact kk
theorem ry_slen (hx : p.tables.exec = Jvm.exec) (hb : c.code = cc) {b L : Nat} {xs : Nat → Int32} (hX : va_X b L xs s s.heap) (hbl : b < s.heap.size) (hbA : ¬ A b) (hS : va_S A s.heap H locs) (hdg : decode cc pc = .ok (.arraylength, 1))
    (kk : W p l e R s m args below meth c H locs cells slots Q (F0 m (pc + 1) ls (.int (iI (L : Int)) :: rest))) : W p l e R s m args below meth c H locs cells slots Q (F0 m pc ls (.ref b :: rest)) := by
  refine va_slen hx hb hX hbl hbA hS hdg ?_
  rw [show Int32.ofNat L = iI (L : Int) from (iI_nat L).symm]
  exact kk
theorem ry_lcmp0 (hx : p.tables.exec = Jvm.exec) (hb : c.code = cc) {x y : Int64} (hxy : x = y) (hdg : decode cc pc = .ok (.lcmp, 1))
    (k : W p l e R s m args below meth c H locs cells slots Q (F0 m (pc + 1) ls (.int (iI 0) :: rest))) : W p l e R s m args below meth c H locs cells slots Q (F0 m pc ls (.long y :: .long x :: rest)) := by
  subst hxy
  refine W.lcmp hx hb hdg ?_
  rw [show lg_cmp x x = iI 0 by simp [lg_cmp, iI_0]]
  exact k
theorem ry_dcmp0 (hx : p.tables.exec = Jvm.exec) (hb : c.code = cc) {x y : UInt64} (hxy : x = y) (hn : vf_n64 x) (hdg : decode cc pc = .ok (.dcmp .l, 1))
    (k : W p l e R s m args below meth c H locs cells slots Q (F0 m (pc + 1) ls (.int (iI 0) :: rest))) : W p l e R s m args below meth c H locs cells slots Q (F0 m pc ls (.double y :: .double x :: rest)) := by
  subst hxy
  have h1 : FP.Core.dIsNaN x = false := by
    cases hd : FP.Core.dIsNaN x with
    | false => rfl
    | true =>
      have h2 := (FP.Core.isNaN_bits x).mp hd
      have h3 : x &&& 0x7fffffffffffffff ≤ 0x7ff0000000000000 := hn
      rw [UInt64.le_iff_toNat_le, UInt64.toNat_and, show (0x7fffffffffffffff : UInt64).toNat = 2 ^ 63 - 1 from rfl, Nat.and_two_pow_sub_one_eq_mod, show (0x7ff0000000000000 : UInt64).toNat = 9218868437227405312 from rfl] at h3
      omega
  have h2 : FP.dcmp x x = some .eq := FP.Core.dcmp_refl h1
  refine lv_dcmp hx hb hdg ?_
  rw [h2]
  exact k
theorem ry_switchIn (hx : p.tables.exec = Jvm.exec) (hb : c.code = cc) {dflt : Int} {offs : Array Int} {len : Nat} {t : Nat} {off : Int} {tgt : Nat} (hdg : decode cc pc = .ok (.tableswitch dflt 0 27 offs, len)) (ht : t ≤ 27) (ho : offs[t]? = some off) (htg : (pc : Int) + off = (tgt : Int))
    (k : W p l e R s m args below meth c H locs cells slots Q (F0 m tgt ls rest)) : W p l e R s m args below meth c H locs cells slots Q (F0 m pc ls (.int (iI (t : Int)) :: rest)) := by
  have h1 : (iI (t : Int)).toInt = (t : Int) := iI_toInt (by omega)
  exact lv_tableIn hx hb hdg (by rw [h1]; omega) (by rw [h1]; omega) (by rw [h1]; simpa using ho) htg k
theorem ry_switchOut (hx : p.tables.exec = Jvm.exec) (hb : c.code = cc) {dflt : Int} {offs : Array Int} {len : Nat} {t : Nat} {tgt : Nat} (hdg : decode cc pc = .ok (.tableswitch dflt 0 27 offs, len)) (ht : 27 < t ∧ t < 32) (htg : (pc : Int) + dflt = (tgt : Int))
    (k : W p l e R s m args below meth c H locs cells slots Q (F0 m tgt ls rest)) : W p l e R s m args below meth c H locs cells slots Q (F0 m pc ls (.int (iI (t : Int)) :: rest)) := by
  have h1 : (iI (t : Int)).toInt = (t : Int) := iI_toInt (by omega)
  exact lv_tableOut hx hb hdg (Or.inr (by rw [h1]; omega)) htg k
end LR
theorem iI_and31 (z : Int) : ∃ t : Nat, t < 32 ∧ iI z &&& iI 31 = iI (t : Int) := by
  refine ⟨(iI z).toBitVec.toNat % 32, by omega, ?_⟩
  apply Int32.toBitVec.inj
  rw [Int32.toBitVec_and]
  apply BitVec.eq_of_toNat_eq
  rw [BitVec.toNat_and, show (iI 31).toBitVec.toNat = 2 ^ 5 - 1 from rfl, Nat.and_two_pow_sub_one_eq_mod, iI_nat]
  show _ = (BitVec.ofNat 32 _).toNat
  rw [BitVec.toNat_ofNat]
  omega
theorem n64_0 : vf_n64 FP.dconst0 := by
  unfold vf_n64
  decide +kernel
/-- what every case of the law has at hand -/
def LCX (p : Program) (l : Launch) (s : State) (m : MethodId) (args : Array Value) (c : Code) (D : va_G) (cI cJ cD : ClassId) (A : Nat → Prop) (b NL : Nat) (zs : Nat → Int) : Prop :=
  l.stackTraces = false ∧ p.tables.exec = Jvm.exec ∧ c.code = cL_law ∧ c.maxLocals = 9 ∧ s.vm.findClass RL = some m.cls ∧ (∀ w ∈ wsL_law, w.before args s = true) ∧ CKL D cI cJ cD s ∧ XK s.heap.size s ∧ (A = fun q : Nat => s.heap.size ≤ q) ∧ va_X b NL (fun k => iI (zs k)) s s.heap ∧ b < s.heap.size ∧ (∀ k, -2147483648 ≤ zs k ∧ zs k ≤ 2147483647) ∧ NL ≤ 2048
