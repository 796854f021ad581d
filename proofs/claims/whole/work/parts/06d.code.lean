abbrev rm_X2_sumWith : Room := { frames := 0, cells := 0, slots := 0, locals := 0 }
set_option maxHeartbeats 4000000 in
set_option maxRecDepth 100000 in
theorem k_X2_sumWith (vl : Launch) (D : va_G) (cI : ClassId) (f0 : Nat) (f1 : Nat) (f2 : Nat) (le : Nat → Int) (ro : Nat) (w : Nat) (l9 : Nat) (x : Int) (hro : 1 ≤ ro ∧ ro ≤ 16) (hx0 : -2147483648 ≤ x ∧ x ≤ 64) : Cti vl yX2_sumWith wsX2_sumWith rm_X2_sumWith D cI [.ref f0, .int (iI ((ro : Nat) : Int)), .int (iI ((w : Nat) : Int)), .int (iI ((l9 : Nat) : Int)), .int (iI x)] [(f0, .inr (2, [.ref f1, .ref f2])), (f2, .inl (cI, 1105, .inl (ia le)))] (fun (r : Int) (u : Unit) => ((x < 0 ∧ r = 1000000) ∨ (0 ≤ x ∧ r = ((w : Nat) : Int) * ((l9 : Nat) : Int) + le ((ro - 1) * 65 + x.toNat)))) (fun (u : Unit) => [(f0, .inr (2, [.ref f1, .ref f2])), (f2, .inl (cI, 1105, .inl (ia le)))]) := by
  refine Cti_of (cc := cX2_sumWith) (maxL := 5) (by decide) rfl (Nat.le_of_ble_eq_true rfl) ?_
  intro vp ve vs vm va vb vme vc vA vQ C0 hend hP hD hS ls hl
  obtain ⟨hx, hb, hml, hr, hown, hts, hlocks, hK, hA, hnm⟩ := C0
  have hin2 : ∀ w ∈ wsX20, w ∈ wsX2_sumWith := by decide +kernel
  have hl : lv_has ls 5 [(0, .ref f0), (1, .int (iI ((ro : Nat) : Int))), (2, .int (iI ((w : Nat) : Int))), (3, .int (iI ((l9 : Nat) : Int))), (4, .int (iI x))] := hl
  have hP : va_P D vwCl [(f0, .inr (2, [.ref f1, .ref f2])), (f2, .inl (cI, 1105, .inl (ia le)))] vs.heap := hP
  have hD : va_D vA [(f0, .inr (2, [.ref f1, .ref f2])), (f2, .inl (cI, 1105, .inl (ia le)))] := hD
  refine lv_iload hx hb dX2_sumWith_0 (lv_at hl 4 rfl) ?_
  refine ry_if_ge (tgt := 10) hx hb dX2_sumWith_2 (by decide) (by omega) (fun b02 => ?_) (fun b02 => ?_)
  · skip
    refine lv_iload_n hx hb dX2_sumWith_10 rfl (lv_at hl 2 rfl) ?_
    refine lv_iload_n hx hb dX2_sumWith_11 rfl (lv_at hl 3 rfl) ?_
    refine ry_imulN hx hb (w * l9) dX2_sumWith_12 ((Int.natCast_mul _ _).symm) ?_
    refine lv_aload_n hx hb dX2_sumWith_13 rfl (lv_at hl 0 rfl) ?_
    refine va_get (D := D) (ci := 2) (v := .ref f2) (C := RX2) (T := TX2) (N := 2) hx hb hts hin2 hown hK.1 hP 0 rfl rfl 1 (by decide) (hts (.fieldLink RX2 15 "BlockCoder$CodeFinder" "least" "[I") (by decide +kernel)) (fun _ h9 => h9) rfl dX2_sumWith_14 ?_
    refine lv_iload_n hx hb dX2_sumWith_17 rfl (lv_at hl 1 rfl) ?_
    refine ry_iconst (v := 1) hx hb dX2_sumWith_18 rfl ?_
    refine ry_isubN hx hb (ro - 1) dX2_sumWith_19 (by omega) ?_
    refine ry_bipush (v := 65) hx hb dX2_sumWith_20 (by decide) ?_
    refine ry_imulN hx hb ((ro - 1) * 65) dX2_sumWith_22 (by omega) ?_
    refine lv_iload hx hb dX2_sumWith_23 (lv_at hl 4 rfl) ?_
    refine ry_iadd hx hb dX2_sumWith_25 ?_
    refine ry_iald hx hb hK.1 hP 1 rfl rfl (by decide) ((ro - 1) * 65 + x.toNat) (by omega) dX2_sumWith_26 ?_
    refine ry_iadd hx hb dX2_sumWith_27 ?_
    exact hend _ () _ _ _ _ (by first | exact Or.inl ⟨by omega, rfl⟩ | exact Or.inr ⟨by omega, by rw [Int.natCast_mul]⟩ | exact Or.inr ⟨by omega, rfl⟩) (hP.sub [0, 1] rfl) (hD.sub [0, 1] (by decide) rfl) hS dX2_sumWith_28
  · skip
    refine ry_ldc (v := 1000000) hx hb hown (hts (.constant RX2 31 (iI 1000000)) (by decide +kernel)) dX2_sumWith_5 ?_
    refine lv_goto (tgt := 28) hx hb dX2_sumWith_7 (by decide) ?_
    exact hend _ () _ _ _ _ (by first | exact Or.inl ⟨by omega, rfl⟩ | exact Or.inr ⟨by omega, by rw [Int.natCast_mul]⟩ | exact Or.inr ⟨by omega, rfl⟩) (hP.sub [0, 1] rfl) (hD.sub [0, 1] (by decide) rfl) hS dX2_sumWith_28

abbrev rm_X2_fillRow : Room := { frames := 1, cells := 0, slots := 0, locals := 24 }
set_option maxHeartbeats 4000000 in
set_option maxRecDepth 100000 in
theorem k_X2_fillRow (vl : Launch) (D : va_G) (cI : ClassId) (f0 : Nat) (f1 : Nat) (f2 : Nat) (le : Nat → Int) (ro : Nat) (w : Nat) (L : Nat) (ws : List Nat) (hL : 1 ≤ L ∧ L ≤ 6) (hro : 1 ≤ ro ∧ ro ≤ 16) (hw : 1 ≤ w ∧ w ≤ 80) (hpv : ∀ room, room ≤ 2 ^ L → le ((ro - 1) * 65 + room) = ((pg_dp L ws room : Nat) : Int)) : Ctv vl yX2_fillRow wsX2_fillRow rm_X2_fillRow D cI [.ref f0, .int (iI ((ro : Nat) : Int)), .int (iI ((w : Nat) : Int)), .int (iI ((L : Nat) : Int))] [(f0, .inr (2, [.ref f1, .ref f2])), (f2, .inl (cI, 1105, .inl (ia le)))] (fun (u : (Nat → Int)) => (∀ room, room ≤ 2 ^ L → u (ro * 65 + room) = ((pg_dp L (w :: ws) room : Nat) : Int)) ∧ (∀ i, i < ro * 65 → u i = le i)) (fun (u : (Nat → Int)) => [(f0, .inr (2, [.ref f1, .ref f2])), (f2, .inl (cI, 1105, .inl (ia u)))]) := by
  refine Ctv_of (cc := cX2_fillRow) (maxL := 7) (by decide) rfl (Nat.le_of_ble_eq_true rfl) ?_
  intro vp ve vs vm va vb vme vc vA vQ C0 hend hP hD hS ls hl
  obtain ⟨hx, hb, hml, hr, hown, hts, hlocks, hK, hA, hnm⟩ := C0
  have hin2 : ∀ w ∈ wsX20, w ∈ wsX2_fillRow := by decide +kernel
  have hl : lv_has ls 7 [(0, .ref f0), (1, .int (iI ((ro : Nat) : Int))), (2, .int (iI ((w : Nat) : Int))), (3, .int (iI ((L : Nat) : Int)))] := hl
  have hP : va_P D vwCl [(f0, .inr (2, [.ref f1, .ref f2])), (f2, .inl (cI, 1105, .inl (ia le)))] vs.heap := hP
  have hD : va_D vA [(f0, .inr (2, [.ref f1, .ref f2])), (f2, .inl (cI, 1105, .inl (ia le)))] := hD
  have hpw := pow_le64 hL.2 (Nat.le_refl L)
  refine ry_iconst (v := 0) hx hb dX2_fillRow_0 rfl ?_
  refine lv_istore (lv' := [(4, .int (iI 0)), (0, .ref f0), (1, .int (iI ((ro : Nat) : Int))), (2, .int (iI ((w : Nat) : Int))), (3, .int (iI ((L : Nat) : Int)))]) hx hb dX2_fillRow_1 hl (by decide) rfl (fun ls hl => ?_)
  have cut_3 : ∀ (nn : Nat) (k : Nat) (le2 : Nat → Int), (k ≤ 2 ^ L + 1) → (∀ room, room < k → le2 (ro * 65 + room) = ((pg_dp L (w :: ws) room : Nat) : Int)) → (∀ i, i < ro * 65 → le2 i = le i) → (((2 ^ L : Nat) : Int) + 1 - ((k : Nat) : Int)) < (nn : Int) → ∀ (H : Heap) (locs : List Loc), va_P D vwCl [(f0, .inr (2, [.ref f1, .ref f2])), (f2, .inl (cI, 1105, .inl (ia le2)))] H → va_D vA [(f0, .inr (2, [.ref f1, .ref f2])), (f2, .inl (cI, 1105, .inl (ia le2)))] → va_S vA vs.heap H locs → ∀ ls : Array Slot, lv_has ls 7 [(0, .ref f0), (1, .int (iI ((ro : Nat) : Int))), (2, .int (iI ((w : Nat) : Int))), (3, .int (iI ((L : Nat) : Int))), (4, .int (iI ((k : Nat) : Int)))] → W vp vl ve rm_X2_fillRow vs vm va vb vme vc H locs 0 0 vQ (F0 vm 3 ls []) := by
    intro nn
    induction nn with
    | zero =>
      intro k le2 hk hrw hkeep hmu
      exact absurd hmu (by omega)
    | succ nn ih_3 =>
      intro k le2 hk hrw hkeep hmu H locs hP hD hS ls hl
      refine lv_iload hx hb dX2_fillRow_3 (lv_at hl 4 rfl) ?_
      refine ry_iconst (v := 1) hx hb dX2_fillRow_5 rfl ?_
      refine lv_iload_n hx hb dX2_fillRow_6 rfl (lv_at hl 3 rfl) ?_
      refine ry_shl1 hx hb L dX2_fillRow_7 (by omega) ?_
      refine ry_icmp_gt (tgt := 74) hx hb dX2_fillRow_8 (by decide) (by omega) (by omega) (fun b08 => ?_) (fun b08 => ?_)
      · skip
        exact hend (le2) _ _ _ _ ⟨fun room hr => hrw room (by omega), hkeep⟩ (hP.sub [0, 1] rfl) (hD.sub [0, 1] (by decide) rfl) hS dX2_fillRow_74
      · skip
        refine ry_ldc (v := 1000000) hx hb hown (hts (.constant RX2 31 (iI 1000000)) (by decide +kernel)) dX2_fillRow_11 ?_
        refine lv_istore (lv' := [(5, .int (iI 1000000)), (0, .ref f0), (1, .int (iI ((ro : Nat) : Int))), (2, .int (iI ((w : Nat) : Int))), (3, .int (iI ((L : Nat) : Int))), (4, .int (iI ((k : Nat) : Int)))]) hx hb dX2_fillRow_13 hl (by decide) rfl (fun ls hl => ?_)
        refine ry_iconst (v := 1) hx hb dX2_fillRow_15 rfl ?_
        refine lv_istore (lv' := [(6, .int (iI 1)), (5, .int (iI 1000000)), (0, .ref f0), (1, .int (iI ((ro : Nat) : Int))), (2, .int (iI ((w : Nat) : Int))), (3, .int (iI ((L : Nat) : Int))), (4, .int (iI ((k : Nat) : Int)))]) hx hb dX2_fillRow_16 hl (by decide) rfl (fun ls hl => ?_)
        have cut_18 : ∀ (nn : Nat) (bst : Nat) (l9 : Nat), (1 ≤ l9 ∧ l9 ≤ L + 1) → (k ≤ 2 ^ L) → (bst = pg_best L w k (pg_dp L ws) (l9 - 1)) → (bst ≤ 1000000) → (∀ room, room ≤ 2 ^ L → le2 ((ro - 1) * 65 + room) = ((pg_dp L ws room : Nat) : Int)) → (((L : Nat) : Int) + 1 - ((l9 : Nat) : Int)) < (nn : Int) → ∀ (H : Heap) (locs : List Loc), va_P D vwCl [(f0, .inr (2, [.ref f1, .ref f2])), (f2, .inl (cI, 1105, .inl (ia le2)))] H → va_D vA [(f0, .inr (2, [.ref f1, .ref f2])), (f2, .inl (cI, 1105, .inl (ia le2)))] → va_S vA vs.heap H locs → ∀ ls : Array Slot, lv_has ls 7 [(0, .ref f0), (1, .int (iI ((ro : Nat) : Int))), (2, .int (iI ((w : Nat) : Int))), (3, .int (iI ((L : Nat) : Int))), (4, .int (iI ((k : Nat) : Int))), (5, .int (iI ((bst : Nat) : Int))), (6, .int (iI ((l9 : Nat) : Int)))] → W vp vl ve rm_X2_fillRow vs vm va vb vme vc H locs 0 0 vQ (F0 vm 18 ls []) := by
          intro nn
          induction nn with
          | zero =>
            intro bst l9 hl9 hk7 hbv hbst hpo hmu
            exact absurd hmu (by omega)
          | succ nn ih_18 =>
            intro bst l9 hl9 hk7 hbv hbst hpo hmu H locs hP hD hS ls hl
            refine lv_iload hx hb dX2_fillRow_18 (lv_at hl 6 rfl) ?_
            refine lv_iload_n hx hb dX2_fillRow_20 rfl (lv_at hl 3 rfl) ?_
            refine ry_icmp_gt (tgt := 54) hx hb dX2_fillRow_21 (by decide) (by omega) (by omega) (fun b21 => ?_) (fun b21 => ?_)
            · skip
              refine lv_aload_n hx hb dX2_fillRow_54 rfl (lv_at hl 0 rfl) ?_
              refine va_get (D := D) (ci := 2) (v := .ref f2) (C := RX2) (T := TX2) (N := 2) hx hb hts hin2 hown hK.1 hP 0 rfl rfl 1 (by decide) (hts (.fieldLink RX2 15 "BlockCoder$CodeFinder" "least" "[I") (by decide +kernel)) (fun _ h9 => h9) rfl dX2_fillRow_55 ?_
              refine lv_iload_n hx hb dX2_fillRow_58 rfl (lv_at hl 1 rfl) ?_
              refine ry_bipush (v := 65) hx hb dX2_fillRow_59 (by decide) ?_
              refine ry_imulN hx hb (ro * 65) dX2_fillRow_61 (by omega) ?_
              refine lv_iload hx hb dX2_fillRow_62 (lv_at hl 4 rfl) ?_
              refine ry_iaddN hx hb ((ro * 65) + k) dX2_fillRow_64 (by omega) ?_
              refine lv_iload hx hb dX2_fillRow_65 (lv_at hl 5 rfl) ?_
              refine ry_iast hx hb hK.1 hP hD hS 1 rfl rfl (by decide) (ro * 65 + k) (by omega) dX2_fillRow_67 (fun H locs hP hD hS => ?_)
              have hP : va_P D vwCl [(f0, .inr (2, [.ref f1, .ref f2])), (f2, .inl (cI, 1105, .inl (ia (va_up le2 (ro * 65 + k) ((bst : Nat) : Int)))))] H := hP
              have hD : va_D vA [(f0, .inr (2, [.ref f1, .ref f2])), (f2, .inl (cI, 1105, .inl (ia (va_up le2 (ro * 65 + k) ((bst : Nat) : Int)))))] := hD
              refine ry_iinc (v := ((k + 1 : Nat) : Int)) (k := 4) (lv' := [(4, .int (iI ((k + 1 : Nat) : Int))), (0, .ref f0), (1, .int (iI ((ro : Nat) : Int))), (2, .int (iI ((w : Nat) : Int))), (3, .int (iI ((L : Nat) : Int))), (5, .int (iI ((bst : Nat) : Int))), (6, .int (iI ((l9 : Nat) : Int)))]) hx hb dX2_fillRow_68 hl rfl (by omega) (by decide) rfl (fun ls hl => ?_)
              refine lv_goto (tgt := 3) hx hb dX2_fillRow_71 (by decide) ?_
              exact ih_3 (k + 1) (va_up le2 (ro * 65 + k) ((bst : Nat) : Int)) (by omega) (fun room hj => by by_cases e9 : room = k; (rw [e9, up_self, hbv, show l9 - 1 = L by omega]; rfl); exact (up_ne _ _ (by omega)).trans (hrw room (by omega))) (fun i hi => (up_ne _ _ (by omega)).trans (hkeep i hi)) (by omega) _ _ (hP.sub [0, 1] rfl) (hD.sub [0, 1] (by decide) rfl) hS _ (lv_sub hl [1, 2, 3, 4, 0] rfl)
            · skip
              have hpl := pow_le64 (k := L - l9) hL.2 (by omega)
              refine lv_iload hx hb dX2_fillRow_24 (lv_at hl 5 rfl) ?_
              refine lv_aload_n hx hb dX2_fillRow_26 rfl (lv_at hl 0 rfl) ?_
              refine lv_iload_n hx hb dX2_fillRow_27 rfl (lv_at hl 1 rfl) ?_
              refine lv_iload_n hx hb dX2_fillRow_28 rfl (lv_at hl 2 rfl) ?_
              refine lv_iload hx hb dX2_fillRow_29 (lv_at hl 6 rfl) ?_
              refine lv_iload hx hb dX2_fillRow_31 (lv_at hl 4 rfl) ?_
              refine ry_iconst (v := 1) hx hb dX2_fillRow_33 rfl ?_
              refine lv_iload_n hx hb dX2_fillRow_34 rfl (lv_at hl 3 rfl) ?_
              refine lv_iload hx hb dX2_fillRow_35 (lv_at hl 6 rfl) ?_
              refine ry_isubN hx hb (L - l9) dX2_fillRow_37 (by omega) ?_
              refine ry_shl1 hx hb (L - l9) dX2_fillRow_38 (by omega) ?_
              refine ry_isub hx hb dX2_fillRow_39 ?_
              refine ry_ci (wr := []) (va_runV (As := [.int (iI ((ro : Nat) : Int)), .int (iI ((w : Nat) : Int)), .int (iI ((l9 : Nat) : Int)), .int (iI (((k : Nat) : Int) - ((2 ^ (L - l9) : Nat) : Int)))]) (rest := [.int (iI ((bst : Nat) : Int))]) ⟨hx, hb, hml, hown, hts⟩ (k_X2_sumWith vl D cI f0 f1 f2 le2 ro w l9 (((k : Nat) : Int) - ((2 ^ (L - l9) : Nat) : Int)) (by omega) (by omega) _) (cwV 4 hts gX2_fillRow_X2_sumWith rfl rfl rfl (by decide +kernel) ⟨Nat.le_of_ble_eq_true rfl, Nat.le_of_ble_eq_true rfl⟩) ⟨CP.blind, va_recv hK.1 hP (ci := 2) (q0 := 0) rfl rfl, ry_pre hK hP hD [0, 1] rfl rfl⟩ rfl rfl hl.1 rfl (lv_room (Nat.le_of_ble_eq_true rfl)) dX2_fillRow_40 ⟨Nat.le_of_ble_eq_true rfl, Nat.le_of_ble_eq_true rfl⟩) hP hD hS hA [0, 1] [] rfl rfl (by decide) (by decide) (fun z40 u40 H locs hp40 hP hD hS => ?_)
              try dsimp only at hp40
              have sw_40 := hp40
              have sw_40 : ((((k : Nat) : Int) - ((2 ^ (L - l9) : Nat) : Int)) < 0 ∧ z40 = 1000000) ∨ (0 ≤ (((k : Nat) : Int) - ((2 ^ (L - l9) : Nat) : Int)) ∧ z40 = ((w : Nat) : Int) * ((l9 : Nat) : Int) + le2 ((ro - 1) * 65 + (((k : Nat) : Int) - ((2 ^ (L - l9) : Nat) : Int)).toNat)) := sw_40
              have hP : va_P D vwCl [(f0, .inr (2, [.ref f1, .ref f2])), (f2, .inl (cI, 1105, .inl (ia le2)))] H := hP
              have hD : va_D vA [(f0, .inr (2, [.ref f1, .ref f2])), (f2, .inl (cI, 1105, .inl (ia le2)))] := hD
              have hwl : (w : Int) * (l9 : Int) = ((w * l9 : Nat) : Int) := (Int.natCast_mul w l9).symm
              have hwl2 : w * l9 ≤ 80 * 6 := Nat.mul_le_mul hw.2 (by omega)
              have hz : ((((k : Nat) : Int) - ((2 ^ (L - l9) : Nat) : Int)) < 0 ∧ z40 = 1000000) ∨ (0 ≤ (((k : Nat) : Int) - ((2 ^ (L - l9) : Nat) : Int)) ∧ z40 = (w : Int) * (l9 : Int) + ((pg_dp L ws (((k : Nat) : Int) - ((2 ^ (L - l9) : Nat) : Int)).toNat : Nat) : Int)) := by
                rcases sw_40 with h | h
                · exact Or.inl h
                · exact Or.inr ⟨h.1, by rw [h.2, hpo ((((k : Nat) : Int) - ((2 ^ (L - l9) : Nat) : Int)).toNat) (by omega)]⟩
              have hdc := pg_dp_cap L ws (((k : Nat) : Int) - ((2 ^ (L - l9) : Nat) : Int)).toNat
              have hbc := pg_best_cap L w k (pg_dp L ws) (l9 - 1)
              refine ry_min hx hb (hml.trans hl.1.symm) hown (hts (.methodLink RX2 36 Lib.Math.min.name) (by decide +kernel)) (hts (.static Lib.Math.min.name) (by decide +kernel)) (hts (.initialized "java/lang/Math") (by decide +kernel)) (hts (.code Lib.Math.min.name Lib.Math.min.code 2 (some .int)) (by decide +kernel)) (Nat.le_of_ble_eq_true rfl) (Nat.le_of_ble_eq_true rfl) (Nat.le_of_ble_eq_true rfl) (Nat.le_of_ble_eq_true rfl) (by omega) (by omega) dX2_fillRow_43 ?_
              refine lv_istore (lv' := [(5, .int (iI (min ((bst : Nat) : Int) z40))), (0, .ref f0), (1, .int (iI ((ro : Nat) : Int))), (2, .int (iI ((w : Nat) : Int))), (3, .int (iI ((L : Nat) : Int))), (4, .int (iI ((k : Nat) : Int))), (6, .int (iI ((l9 : Nat) : Int)))]) hx hb dX2_fillRow_46 hl (by decide) rfl (fun ls hl => ?_)
              refine ry_iinc (v := ((l9 + 1 : Nat) : Int)) (k := 6) (lv' := [(6, .int (iI ((l9 + 1 : Nat) : Int))), (5, .int (iI (min ((bst : Nat) : Int) z40))), (0, .ref f0), (1, .int (iI ((ro : Nat) : Int))), (2, .int (iI ((w : Nat) : Int))), (3, .int (iI ((L : Nat) : Int))), (4, .int (iI ((k : Nat) : Int)))]) hx hb dX2_fillRow_48 hl rfl (by omega) (by decide) rfl (fun ls hl => ?_)
              refine lv_goto (tgt := 18) hx hb dX2_fillRow_51 (by decide) ?_
              rw [show (min ((bst : Nat) : Int) z40 : Int) = ((pg_best L w k (pg_dp L ws) l9 : Nat) : Int) by exact fr_step hbv (by omega) rfl hz] at hl
              exact ih_18 (pg_best L w k (pg_dp L ws) l9) (l9 + 1) (by omega) (by omega) (by simp) (pg_best_cap _ _ _ _ _) (hpo) (by omega) _ _ (hP.sub [0, 1] rfl) (hD.sub [0, 1] (by decide) rfl) hS _ (lv_sub hl [2, 3, 4, 5, 6, 1, 0] rfl)
        exact cut_18 (Int.toNat (((L : Nat) : Int) + 1 - ((1 : Nat) : Int)) + 1) 1000000 1 (by omega) (by omega) (rfl) (by omega) (fun room hr => (hkeep _ (by omega)).trans (hpv room hr)) (by omega) _ _ (hP.sub [0, 1] rfl) (hD.sub [0, 1] (by decide) rfl) hS _ (lv_sub hl [2, 3, 4, 5, 6, 1, 0] rfl)
  exact cut_3 (Int.toNat (((2 ^ L : Nat) : Int) + 1 - ((0 : Nat) : Int)) + 1) 0 le (by omega) (fun j hj => absurd hj (by omega)) (fun i hi => rfl) (by omega) _ _ (hP.sub [0, 1] rfl) (hD.sub [0, 1] (by decide) rfl) hS _ (lv_sub hl [1, 2, 3, 4, 0] rfl)

abbrev rm_X2_shortestLength : Room := { frames := 1, cells := 0, slots := 0, locals := 24 }
set_option maxHeartbeats 4000000 in
set_option maxRecDepth 100000 in
theorem k_X2_shortestLength (vl : Launch) (D : va_G) (cI : ClassId) (f0 : Nat) (f1 : Nat) (f2 : Nat) (le : Nat → Int) (ro : Nat) (w : Nat) (room : Nat) (L : Nat) (ws : List Nat) (hL : 1 ≤ L ∧ L ≤ 6) (hro : 1 ≤ ro ∧ ro ≤ 16) (hw : 1 ≤ w ∧ w ≤ 80) (hrm : room ≤ 2 ^ L) (hpv : ∀ room, room ≤ 2 ^ L → le ((ro - 1) * 65 + room) = ((pg_dp L ws room : Nat) : Int)) (hcu : le (ro * 65 + room) = ((pg_dp L (w :: ws) room : Nat) : Int)) (hfe : pg_dp L (w :: ws) room < 1000000) : Cti vl yX2_shortestLength wsX2_shortestLength rm_X2_shortestLength D cI [.ref f0, .int (iI ((ro : Nat) : Int)), .int (iI ((w : Nat) : Int)), .int (iI ((room : Nat) : Int)), .int (iI ((L : Nat) : Int))] [(f0, .inr (2, [.ref f1, .ref f2])), (f2, .inl (cI, 1105, .inl (ia le)))] (fun (r : Int) (u : Unit) => (r = ((pg_short L w room ws : Nat) : Int))) (fun (u : Unit) => [(f0, .inr (2, [.ref f1, .ref f2])), (f2, .inl (cI, 1105, .inl (ia le)))]) := by
  refine Cti_of (cc := cX2_shortestLength) (maxL := 7) (by decide) rfl (Nat.le_of_ble_eq_true rfl) ?_
  intro vp ve vs vm va vb vme vc vA vQ C0 hend hP hD hS ls hl
  obtain ⟨hx, hb, hml, hr, hown, hts, hlocks, hK, hA, hnm⟩ := C0
  have hin2 : ∀ w ∈ wsX20, w ∈ wsX2_shortestLength := by decide +kernel
  have hl : lv_has ls 7 [(0, .ref f0), (1, .int (iI ((ro : Nat) : Int))), (2, .int (iI ((w : Nat) : Int))), (3, .int (iI ((room : Nat) : Int))), (4, .int (iI ((L : Nat) : Int)))] := hl
  have hP : va_P D vwCl [(f0, .inr (2, [.ref f1, .ref f2])), (f2, .inl (cI, 1105, .inl (ia le)))] vs.heap := hP
  have hD : va_D vA [(f0, .inr (2, [.ref f1, .ref f2])), (f2, .inl (cI, 1105, .inl (ia le)))] := hD
  have hpw := pow_le64 hL.2 (Nat.le_refl L)
  have hsh := pg_short_ok hL.1 hfe
  refine ry_iconst (v := 1) hx hb dX2_shortestLength_0 rfl ?_
  refine lv_istore (lv' := [(5, .int (iI 1)), (0, .ref f0), (1, .int (iI ((ro : Nat) : Int))), (2, .int (iI ((w : Nat) : Int))), (3, .int (iI ((room : Nat) : Int))), (4, .int (iI ((L : Nat) : Int)))]) hx hb dX2_shortestLength_1 hl (by decide) rfl (fun ls hl => ?_)
  have cut_3 : ∀ (nn : Nat) (l9 : Nat), (1 ≤ l9 ∧ l9 ≤ pg_short L w room ws) → (((L : Nat) : Int) - ((l9 : Nat) : Int)) < (nn : Int) → ∀ (H : Heap) (locs : List Loc), va_P D vwCl [(f0, .inr (2, [.ref f1, .ref f2])), (f2, .inl (cI, 1105, .inl (ia le)))] H → va_D vA [(f0, .inr (2, [.ref f1, .ref f2])), (f2, .inl (cI, 1105, .inl (ia le)))] → va_S vA vs.heap H locs → ∀ ls : Array Slot, lv_has ls 7 [(0, .ref f0), (1, .int (iI ((ro : Nat) : Int))), (2, .int (iI ((w : Nat) : Int))), (3, .int (iI ((room : Nat) : Int))), (4, .int (iI ((L : Nat) : Int))), (5, .int (iI ((l9 : Nat) : Int)))] → W vp vl ve rm_X2_shortestLength vs vm va vb vme vc H locs 0 0 vQ (F0 vm 3 ls []) := by
    intro nn
    induction nn with
    | zero =>
      intro l9 hl9 hmu
      exact absurd hmu (by omega)
    | succ nn ih_3 =>
      intro l9 hl9 hmu H locs hP hD hS ls hl
      refine lv_iload hx hb dX2_shortestLength_3 (lv_at hl 5 rfl) ?_
      refine lv_iload hx hb dX2_shortestLength_5 (lv_at hl 4 rfl) ?_
      refine ry_icmp_ge (tgt := 54) hx hb dX2_shortestLength_7 (by decide) (by omega) (by omega) (fun b07 => ?_) (fun b07 => ?_)
      · skip
        refine lv_iload hx hb dX2_shortestLength_54 (lv_at hl 4 rfl) ?_
        exact hend _ () _ _ _ _ (by omega) (hP.sub [0, 1] rfl) (hD.sub [0, 1] (by decide) rfl) hS dX2_shortestLength_56
      · skip
        have hpl := pow_le64 (k := L - l9) hL.2 (by omega)
        refine lv_iload_n hx hb dX2_shortestLength_10 rfl (lv_at hl 3 rfl) ?_
        refine ry_iconst (v := 1) hx hb dX2_shortestLength_11 rfl ?_
        refine lv_iload hx hb dX2_shortestLength_12 (lv_at hl 4 rfl) ?_
        refine lv_iload hx hb dX2_shortestLength_14 (lv_at hl 5 rfl) ?_
        refine ry_isubN hx hb (L - l9) dX2_shortestLength_16 (by omega) ?_
        refine ry_shl1 hx hb (L - l9) dX2_shortestLength_17 (by omega) ?_
        refine ry_isub hx hb dX2_shortestLength_18 ?_
        refine lv_istore (lv' := [(6, .int (iI (((room : Nat) : Int) - ((2 ^ (L - l9) : Nat) : Int)))), (0, .ref f0), (1, .int (iI ((ro : Nat) : Int))), (2, .int (iI ((w : Nat) : Int))), (3, .int (iI ((room : Nat) : Int))), (4, .int (iI ((L : Nat) : Int))), (5, .int (iI ((l9 : Nat) : Int)))]) hx hb dX2_shortestLength_19 hl (by decide) rfl (fun ls hl => ?_)
        refine lv_aload_n hx hb dX2_shortestLength_21 rfl (lv_at hl 1 rfl) ?_
        refine lv_iload_n hx hb dX2_shortestLength_22 rfl (lv_at hl 2 rfl) ?_
        refine lv_iload_n hx hb dX2_shortestLength_23 rfl (lv_at hl 3 rfl) ?_
        refine lv_iload hx hb dX2_shortestLength_24 (lv_at hl 6 rfl) ?_
        refine lv_iload hx hb dX2_shortestLength_26 (lv_at hl 0 rfl) ?_
        refine ry_ci (wr := []) (va_runV (As := [.int (iI ((ro : Nat) : Int)), .int (iI ((w : Nat) : Int)), .int (iI ((l9 : Nat) : Int)), .int (iI (((room : Nat) : Int) - ((2 ^ (L - l9) : Nat) : Int)))]) (rest := []) ⟨hx, hb, hml, hown, hts⟩ (k_X2_sumWith vl D cI f0 f1 f2 le ro w l9 (((room : Nat) : Int) - ((2 ^ (L - l9) : Nat) : Int)) (by omega) (by omega) _) (cwV 4 hts gX2_shortestLength_X2_sumWith rfl rfl rfl (by decide +kernel) ⟨Nat.le_of_ble_eq_true rfl, Nat.le_of_ble_eq_true rfl⟩) ⟨CP.blind, va_recv hK.1 hP (ci := 2) (q0 := 0) rfl rfl, ry_pre hK hP hD [0, 1] rfl rfl⟩ rfl rfl hl.1 rfl (lv_room (Nat.le_of_ble_eq_true rfl)) dX2_shortestLength_28 ⟨Nat.le_of_ble_eq_true rfl, Nat.le_of_ble_eq_true rfl⟩) hP hD hS hA [0, 1] [] rfl rfl (by decide) (by decide) (fun z28 u28 H locs hp28 hP hD hS => ?_)
        try dsimp only at hp28
        have sw_28 := hp28
        have sw_28 : ((((room : Nat) : Int) - ((2 ^ (L - l9) : Nat) : Int)) < 0 ∧ z28 = 1000000) ∨ (0 ≤ (((room : Nat) : Int) - ((2 ^ (L - l9) : Nat) : Int)) ∧ z28 = ((w : Nat) : Int) * ((l9 : Nat) : Int) + le ((ro - 1) * 65 + (((room : Nat) : Int) - ((2 ^ (L - l9) : Nat) : Int)).toNat)) := sw_28
        have hP : va_P D vwCl [(f0, .inr (2, [.ref f1, .ref f2])), (f2, .inl (cI, 1105, .inl (ia le)))] H := hP
        have hD : va_D vA [(f0, .inr (2, [.ref f1, .ref f2])), (f2, .inl (cI, 1105, .inl (ia le)))] := hD
        refine lv_aload_n hx hb dX2_shortestLength_31 rfl (lv_at hl 1 rfl) ?_
        refine va_get (D := D) (ci := 2) (v := .ref f2) (C := RX2) (T := TX2) (N := 2) hx hb hts hin2 hown hK.1 hP 0 rfl rfl 1 (by decide) (hts (.fieldLink RX2 15 "BlockCoder$CodeFinder" "least" "[I") (by decide +kernel)) (fun _ h9 => h9) rfl dX2_shortestLength_32 ?_
        refine lv_iload_n hx hb dX2_shortestLength_35 rfl (lv_at hl 2 rfl) ?_
        refine ry_bipush (v := 65) hx hb dX2_shortestLength_36 (by decide) ?_
        refine ry_imulN hx hb (ro * 65) dX2_shortestLength_38 (by omega) ?_
        refine lv_iload_n hx hb dX2_shortestLength_39 rfl (lv_at hl 4 rfl) ?_
        refine ry_iaddN hx hb ((ro * 65) + room) dX2_shortestLength_40 (by omega) ?_
        refine ry_iald hx hb hK.1 hP 1 rfl rfl (by decide) (ro * 65 + room) (by omega) dX2_shortestLength_41 ?_
        have hwl : (w : Int) * (l9 : Int) = ((w * l9 : Nat) : Int) := (Int.natCast_mul w l9).symm
        have hwl2 : w * l9 ≤ 80 * 6 := Nat.mul_le_mul hw.2 (by omega)
        have hz : ((((room : Nat) : Int) - ((2 ^ (L - l9) : Nat) : Int)) < 0 ∧ z28 = 1000000) ∨ (0 ≤ (((room : Nat) : Int) - ((2 ^ (L - l9) : Nat) : Int)) ∧ z28 = (w : Int) * (l9 : Int) + ((pg_dp L ws (((room : Nat) : Int) - ((2 ^ (L - l9) : Nat) : Int)).toNat : Nat) : Int)) := by
          rcases sw_28 with h | h
          · exact Or.inl h
          · exact Or.inr ⟨h.1, by rw [h.2, hpv ((((room : Nat) : Int) - ((2 ^ (L - l9) : Nat) : Int)).toNat) (by omega)]⟩
        have hdc := pg_dp_cap L ws (((room : Nat) : Int) - ((2 ^ (L - l9) : Nat) : Int)).toNat
        have hfi := fit_iff2 (j := l9) (w := w) (room := room) (ws := ws) (L := L) rfl hz hcu hfe
        refine ry_icmp_ne (tgt := 48) hx hb dX2_shortestLength_42 (by decide) (by omega) (by omega) (fun b42 => ?_) (fun b42 => ?_)
        · skip
          refine ry_iinc (v := ((l9 + 1 : Nat) : Int)) (k := 6) (lv' := [(5, .int (iI ((l9 + 1 : Nat) : Int))), (6, .int (iI (((room : Nat) : Int) - ((2 ^ (L - l9) : Nat) : Int)))), (0, .ref f0), (1, .int (iI ((ro : Nat) : Int))), (2, .int (iI ((w : Nat) : Int))), (3, .int (iI ((room : Nat) : Int))), (4, .int (iI ((L : Nat) : Int)))]) hx hb dX2_shortestLength_48 hl rfl (by omega) (by decide) rfl (fun ls hl => ?_)
          refine lv_goto (tgt := 3) hx hb dX2_shortestLength_51 (by decide) ?_
          have hl10 : l9 ≠ pg_short L w room ws := fun h => b42 (hfi.mpr (by rw [h]; exact hsh.1))
          exact ih_3 (l9 + 1) (by omega) (by omega) _ _ (hP.sub [0, 1] rfl) (hD.sub [0, 1] (by decide) rfl) hS _ (lv_sub hl [2, 3, 4, 5, 6, 0] rfl)
        · skip
          refine lv_iload hx hb dX2_shortestLength_45 (lv_at hl 6 rfl) ?_
          have hl10 : l9 = pg_short L w room ws := by
            rcases Nat.lt_or_ge l9 (pg_short L w room ws) with h | h
            · exact absurd (hfi.mp b42) (by rw [hsh.2.2.2 l9 hl9.1 h]; decide)
            · omega
          exact hend _ () _ _ _ _ (by rw [← hl10]) (hP.sub [0, 1] rfl) (hD.sub [0, 1] (by decide) rfl) hS dX2_shortestLength_47
  exact cut_3 (Int.toNat (((L : Nat) : Int) - ((1 : Nat) : Int)) + 1) 1 (by omega) (by omega) _ _ (hP.sub [0, 1] rfl) (hD.sub [0, 1] (by decide) rfl) hS _ (lv_sub hl [1, 2, 3, 4, 5, 0] rfl)

abbrev rm_X2_chooseLengths : Room := { frames := 2, cells := 0, slots := 0, locals := 50 }
set_option maxHeartbeats 4000000 in
set_option maxRecDepth 100000 in
theorem k_X2_chooseLengths (vl : Launch) (D : va_G) (cI : ClassId) (f0 : Nat) (f1 : Nat) (f2 : Nat) (lf : Nat → Int) (le : Nat → Int) (h0 : Nat) (a1 : Nat) (a2 : Nat) (kd : Nat) (cn : Nat → Int) (ro : Nat) (L : Nat) (c : Nat → Nat) (hL : 1 ≤ L ∧ L ≤ 6) (hc : ∀ j, j < 16 → cn j = ((c j : Nat) : Int)) (hc80 : ∀ j, j < 16 → c j ≤ 80) (hro : ro = (posl c 16).length) (htb : ∀ r, r ≤ 16 → ∀ room, room ≤ 2 ^ L → le ((posl c r).length * 65 + room) = ((pg_dp L (posl c r) room : Nat) : Int)) (hfe : pg_dp L (posl c 16) (2 ^ L) < 1000000) : Ctv vl yX2_chooseLengths wsX2_chooseLengths rm_X2_chooseLengths D cI [.ref f0, .ref h0, .int (iI ((ro : Nat) : Int)), .int (iI ((L : Nat) : Int))] [(f0, .inr (2, [.ref f1, .ref f2])), (f1, .inl (cI, 16, .inl (ia lf))), (f2, .inl (cI, 1105, .inl (ia le))), (h0, .inr (7, [.ref a1, .ref a2, .int (iI ((kd : Nat) : Int))])), (a1, .inl (cI, 16, .inl (ia cn)))] (fun (u : (Nat → Int)) => (∀ j, j < 16 → u j = ((pg_cl c L j : Nat) : Int))) (fun (u : (Nat → Int)) => [(f0, .inr (2, [.ref f1, .ref f2])), (f1, .inl (cI, 16, .inl (ia u))), (f2, .inl (cI, 1105, .inl (ia le))), (h0, .inr (7, [.ref a1, .ref a2, .int (iI ((kd : Nat) : Int))])), (a1, .inl (cI, 16, .inl (ia cn)))]) := by
  refine Ctv_of (cc := cX2_chooseLengths) (maxL := 8) (by decide) rfl (Nat.le_of_ble_eq_true rfl) ?_
  intro vp ve vs vm va vb vme vc vA vQ C0 hend hP hD hS ls hl
  obtain ⟨hx, hb, hml, hr, hown, hts, hlocks, hK, hA, hnm⟩ := C0
  have hin2 : ∀ w ∈ wsX20, w ∈ wsX2_chooseLengths := by decide +kernel
  have hin7 : ∀ w ∈ wsX70, w ∈ wsX2_chooseLengths := by decide +kernel
  have hl : lv_has ls 8 [(0, .ref f0), (1, .ref h0), (2, .int (iI ((ro : Nat) : Int))), (3, .int (iI ((L : Nat) : Int)))] := hl
  have hP : va_P D vwCl [(f0, .inr (2, [.ref f1, .ref f2])), (f1, .inl (cI, 16, .inl (ia lf))), (f2, .inl (cI, 1105, .inl (ia le))), (h0, .inr (7, [.ref a1, .ref a2, .int (iI ((kd : Nat) : Int))])), (a1, .inl (cI, 16, .inl (ia cn)))] vs.heap := hP
  have hD : va_D vA [(f0, .inr (2, [.ref f1, .ref f2])), (f1, .inl (cI, 16, .inl (ia lf))), (f2, .inl (cI, 1105, .inl (ia le))), (h0, .inr (7, [.ref a1, .ref a2, .int (iI ((kd : Nat) : Int))])), (a1, .inl (cI, 16, .inl (ia cn)))] := hD
  have hpw := pow_le64 hL.2 (Nat.le_refl L)
  refine lv_iload_n hx hb dX2_chooseLengths_0 rfl (lv_at hl 2 rfl) ?_
  refine lv_istore (lv' := [(4, .int (iI ((ro : Nat) : Int))), (0, .ref f0), (1, .ref h0), (2, .int (iI ((ro : Nat) : Int))), (3, .int (iI ((L : Nat) : Int)))]) hx hb dX2_chooseLengths_1 hl (by decide) rfl (fun ls hl => ?_)
  refine ry_iconst (v := 1) hx hb dX2_chooseLengths_3 rfl ?_
  refine lv_iload_n hx hb dX2_chooseLengths_4 rfl (lv_at hl 4 rfl) ?_
  refine ry_shl1 hx hb L dX2_chooseLengths_5 (by omega) ?_
  refine lv_istore (lv' := [(5, .int (iI ((2 ^ L : Nat) : Int))), (4, .int (iI ((ro : Nat) : Int))), (0, .ref f0), (1, .ref h0), (2, .int (iI ((ro : Nat) : Int))), (3, .int (iI ((L : Nat) : Int)))]) hx hb dX2_chooseLengths_6 hl (by decide) rfl (fun ls hl => ?_)
  refine ry_iconst (v := 0) hx hb dX2_chooseLengths_8 rfl ?_
  refine lv_istore (lv' := [(6, .int (iI 0)), (5, .int (iI ((2 ^ L : Nat) : Int))), (4, .int (iI ((ro : Nat) : Int))), (0, .ref f0), (1, .ref h0), (2, .int (iI ((ro : Nat) : Int))), (3, .int (iI ((L : Nat) : Int)))]) hx hb dX2_chooseLengths_9 hl (by decide) rfl (fun ls hl => ?_)
  have cut_11 : ∀ (nn : Nat) (k : Nat) (lf2 : Nat → Int), (k ≤ 16) → (∀ j, j < k → lf2 j = ((pg_cl c L j : Nat) : Int)) → (16 - ((k : Nat) : Int)) < (nn : Int) → ∀ (H : Heap) (locs : List Loc), va_P D vwCl [(f0, .inr (2, [.ref f1, .ref f2])), (f1, .inl (cI, 16, .inl (ia lf2))), (f2, .inl (cI, 1105, .inl (ia le))), (h0, .inr (7, [.ref a1, .ref a2, .int (iI ((kd : Nat) : Int))])), (a1, .inl (cI, 16, .inl (ia cn)))] H → va_D vA [(f0, .inr (2, [.ref f1, .ref f2])), (f1, .inl (cI, 16, .inl (ia lf2))), (f2, .inl (cI, 1105, .inl (ia le))), (h0, .inr (7, [.ref a1, .ref a2, .int (iI ((kd : Nat) : Int))])), (a1, .inl (cI, 16, .inl (ia cn)))] → va_S vA vs.heap H locs → ∀ ls : Array Slot, lv_has ls 8 [(0, .ref f0), (1, .ref h0), (3, .int (iI ((L : Nat) : Int))), (4, .int (iI (((posl c (16 - k)).length : Nat) : Int))), (5, .int (iI ((pg_rm c L k : Nat) : Int))), (6, .int (iI ((k : Nat) : Int)))] → W vp vl ve rm_X2_chooseLengths vs vm va vb vme vc H locs 0 0 vQ (F0 vm 11 ls []) := by
    intro nn
    induction nn with
    | zero =>
      intro k lf2 hk hcd hmu
      exact absurd hmu (by omega)
    | succ nn ih_11 =>
      intro k lf2 hk hcd hmu H locs hP hD hS ls hl
      refine lv_iload hx hb dX2_chooseLengths_11 (lv_at hl 5 rfl) ?_
      refine ry_bipush (v := 16) hx hb dX2_chooseLengths_13 (by decide) ?_
      refine ry_icmp_ge (tgt := 93) hx hb dX2_chooseLengths_15 (by decide) (by omega) (by omega) (fun b15 => ?_) (fun b15 => ?_)
      · skip
        exact hend (lf2) _ _ _ _ (fun j hj => hcd j (by omega)) (hP.sub [0, 1, 2, 3, 4] rfl) (hD.sub [0, 1, 2, 3, 4] (by decide) rfl) hS dX2_chooseLengths_93
      · skip
        have hck := hc k (by omega)
        have hck8 := hc80 k (by omega)
        have hrm := pg_rm_ok hL.1 hfe k (by omega)
        have hpll := posl_len_le c (16 - k)
        have hps9 : posl c (16 - k) = if c k = 0 then posl c (16 - (k + 1)) else c k :: posl c (16 - (k + 1)) := by
          rw [show 16 - k = (16 - (k + 1)) + 1 by omega, posl, show 15 - (16 - (k + 1)) = k by omega]
        refine lv_aload_n hx hb dX2_chooseLengths_18 rfl (lv_at hl 0 rfl) ?_
        refine va_get (D := D) (ci := 2) (v := .ref f1) (C := RX2) (T := TX2) (N := 2) hx hb hts hin2 hown hK.1 hP 0 rfl rfl 0 (by decide) (hts (.fieldLink RX2 9 "BlockCoder$CodeFinder" "lengths" "[I") (by decide +kernel)) (fun _ h9 => h9) rfl dX2_chooseLengths_19 ?_
        refine lv_iload hx hb dX2_chooseLengths_22 (lv_at hl 5 rfl) ?_
        refine ry_iconst (v := 0) hx hb dX2_chooseLengths_24 rfl ?_
        refine ry_iast hx hb hK.1 hP hD hS 1 rfl rfl (by decide) k (by omega) dX2_chooseLengths_25 (fun H locs hP hD hS => ?_)
        have hP : va_P D vwCl [(f0, .inr (2, [.ref f1, .ref f2])), (f1, .inl (cI, 16, .inl (ia (va_up lf2 k 0)))), (f2, .inl (cI, 1105, .inl (ia le))), (h0, .inr (7, [.ref a1, .ref a2, .int (iI ((kd : Nat) : Int))])), (a1, .inl (cI, 16, .inl (ia cn)))] H := hP
        have hD : va_D vA [(f0, .inr (2, [.ref f1, .ref f2])), (f1, .inl (cI, 16, .inl (ia (va_up lf2 k 0)))), (f2, .inl (cI, 1105, .inl (ia le))), (h0, .inr (7, [.ref a1, .ref a2, .int (iI ((kd : Nat) : Int))])), (a1, .inl (cI, 16, .inl (ia cn)))] := hD
        refine lv_aload_n hx hb dX2_chooseLengths_26 rfl (lv_at hl 1 rfl) ?_
        refine va_get (D := D) (ci := 7) (v := .ref a1) (C := RX7) (T := TX7) (N := 3) hx hb hts hin7 hown hK.1 hP 3 rfl rfl 0 (by decide) (hts (.fieldLink RX2 18 "BlockCoder$Tally" "counts" "[I") (by decide +kernel)) (fun _ h9 => h9) rfl dX2_chooseLengths_27 ?_
        refine lv_iload hx hb dX2_chooseLengths_30 (lv_at hl 5 rfl) ?_
        refine ry_iald hx hb hK.1 hP 4 rfl rfl (by decide) k (by omega) dX2_chooseLengths_32 ?_
        refine ry_if_le (tgt := 87) hx hb dX2_chooseLengths_33 (by decide) (by omega) (fun b33 => ?_) (fun b33 => ?_)
        · skip
          refine ry_iinc (v := ((k + 1 : Nat) : Int)) (k := 5) (lv' := [(6, .int (iI ((k + 1 : Nat) : Int))), (0, .ref f0), (1, .ref h0), (3, .int (iI ((L : Nat) : Int))), (4, .int (iI (((posl c (16 - k)).length : Nat) : Int))), (5, .int (iI ((pg_rm c L k : Nat) : Int)))]) hx hb dX2_chooseLengths_87 hl rfl (by omega) (by decide) rfl (fun ls hl => ?_)
          refine lv_goto (tgt := 11) hx hb dX2_chooseLengths_90 (by decide) ?_
          rw [show ((((posl c (16 - k)).length : Nat) : Int) : Int) = (((posl c (16 - (k + 1))).length : Nat) : Int) by (first | (rw [pg_rm, if_pos (by omega)]; done) | (rw [hps9, if_pos (by omega)]))] at hl
          rw [show (((pg_rm c L k : Nat) : Int) : Int) = ((pg_rm c L (k + 1) : Nat) : Int) by (first | (rw [pg_rm, if_pos (by omega)]; done) | (rw [hps9, if_pos (by omega)]))] at hl
          exact ih_11 (k + 1) (va_up lf2 k 0) (by omega) (up_lt (P := fun j z => z = ((pg_cl c L j : Nat) : Int)) hcd (by rw [pg_cl, if_pos (by omega)]; rfl)) (by omega) _ _ (hP.sub [0, 1, 2, 3, 4] rfl) (hD.sub [0, 1, 2, 3, 4] (by decide) rfl) hS _ (lv_sub hl [1, 2, 3, 4, 5, 0] rfl)
        · skip
          have hck0 : c k ≠ 0 := by omega
          have hok := pg_cl_ok hL.1 hfe (s := k) (by omega) hck0
          have hsh := pg_short_ok hL.1 hok.1
          have hpl9 : (posl c (16 - k)).length = (posl c (16 - (k + 1))).length + 1 := by rw [hps9, if_neg hck0, List.length_cons]
          have hft := hsh.1
          simp only [pg_fit, decide_eq_true_eq] at hft
          have hpp := pow_le64 (k := L - pg_short L (c k) (pg_rm c L k) (posl c (15 - k))) hL.2 (by omega)
          refine lv_iload hx hb dX2_chooseLengths_36 (lv_at hl 3 rfl) ?_
          refine ry_if_le (tgt := 87) hx hb dX2_chooseLengths_38 (by decide) (by omega) (fun b38 => absurd b38 (by omega)) (fun b38 => ?_)
          refine lv_iload hx hb dX2_chooseLengths_41 (lv_at hl 4 rfl) ?_
          refine ry_if_le (tgt := 87) hx hb dX2_chooseLengths_43 (by decide) (by omega) (fun b43 => absurd b43 (by omega)) (fun b43 => ?_)
          refine lv_aload_n hx hb dX2_chooseLengths_46 rfl (lv_at hl 0 rfl) ?_
          refine lv_iload hx hb dX2_chooseLengths_47 (lv_at hl 3 rfl) ?_
          refine lv_aload_n hx hb dX2_chooseLengths_49 rfl (lv_at hl 1 rfl) ?_
          refine va_get (D := D) (ci := 7) (v := .ref a1) (C := RX7) (T := TX7) (N := 3) hx hb hts hin7 hown hK.1 hP 3 rfl rfl 0 (by decide) (hts (.fieldLink RX2 18 "BlockCoder$Tally" "counts" "[I") (by decide +kernel)) (fun _ h9 => h9) rfl dX2_chooseLengths_50 ?_
          refine lv_iload hx hb dX2_chooseLengths_53 (lv_at hl 5 rfl) ?_
          refine ry_iald hx hb hK.1 hP 4 rfl rfl (by decide) k (by omega) dX2_chooseLengths_55 ?_
          refine lv_iload hx hb dX2_chooseLengths_56 (lv_at hl 4 rfl) ?_
          refine lv_iload_n hx hb dX2_chooseLengths_58 rfl (lv_at hl 2 rfl) ?_
          rw [show (cn k : Int) = ((c k : Nat) : Int) by exact hck]
          refine ry_ci (wr := [(f1, .inl (cI, 16, .inl (ia (va_up lf2 k 0)))), (h0, .inr (7, [.ref a1, .ref a2, .int (iI ((kd : Nat) : Int))])), (a1, .inl (cI, 16, .inl (ia cn)))]) (va_runV (As := [.int (iI (((posl c (16 - k)).length : Nat) : Int)), .int (iI ((c k : Nat) : Int)), .int (iI ((pg_rm c L k : Nat) : Int)), .int (iI ((L : Nat) : Int))]) (rest := []) ⟨hx, hb, hml, hown, hts⟩ (k_X2_shortestLength vl D cI f0 f1 f2 le ((posl c (16 - k)).length) (c k) (pg_rm c L k) L (posl c (15 - k)) (hL) (by omega) (by omega) (hrm.2) (fun room hr => by have h := htb (15 - k) (by omega) room hr; rw [show 15 - k = 16 - (k + 1) by omega] at h ⊢; rw [hpl9, Nat.add_sub_cancel]; exact h) (by have h := htb (16 - k) (by omega) (pg_rm c L k) hrm.2; rw [hok.2.1] at h; rw [hok.2.1]; exact h) (hok.1) _) (cwV 4 hts gX2_chooseLengths_X2_shortestLength rfl rfl rfl (by decide +kernel) ⟨Nat.le_of_ble_eq_true rfl, Nat.le_of_ble_eq_true rfl⟩) ⟨CP.blind, va_recv hK.1 hP (ci := 2) (q0 := 0) rfl rfl, ry_pre hK hP hD [0, 2] rfl rfl⟩ rfl rfl hl.1 rfl (lv_room (Nat.le_of_ble_eq_true rfl)) dX2_chooseLengths_59 ⟨Nat.le_of_ble_eq_true rfl, Nat.le_of_ble_eq_true rfl⟩) hP hD hS hA [0, 2] [1, 3, 4] rfl rfl (by decide) (by decide) (fun z59 u59 H locs hp59 hP hD hS => ?_)
          try dsimp only at hp59
          have rr_59 := hp59
          have rr_59 : z59 = ((pg_short L (c k) (pg_rm c L k) (posl c (15 - k)) : Nat) : Int) := rr_59
          have hP : va_P D vwCl [(f1, .inl (cI, 16, .inl (ia (va_up lf2 k 0)))), (h0, .inr (7, [.ref a1, .ref a2, .int (iI ((kd : Nat) : Int))])), (a1, .inl (cI, 16, .inl (ia cn))), (f0, .inr (2, [.ref f1, .ref f2])), (f2, .inl (cI, 1105, .inl (ia le)))] H := hP
          have hD : va_D vA [(f1, .inl (cI, 16, .inl (ia (va_up lf2 k 0)))), (h0, .inr (7, [.ref a1, .ref a2, .int (iI ((kd : Nat) : Int))])), (a1, .inl (cI, 16, .inl (ia cn))), (f0, .inr (2, [.ref f1, .ref f2])), (f2, .inl (cI, 1105, .inl (ia le)))] := hD
          rw [show (z59 : Int) = ((pg_short L (c k) (pg_rm c L k) (posl c (15 - k)) : Nat) : Int) from rr_59]
          refine lv_istore (lv' := [(7, .int (iI ((pg_short L (c k) (pg_rm c L k) (posl c (15 - k)) : Nat) : Int))), (0, .ref f0), (1, .ref h0), (3, .int (iI ((L : Nat) : Int))), (4, .int (iI (((posl c (16 - k)).length : Nat) : Int))), (5, .int (iI ((pg_rm c L k : Nat) : Int))), (6, .int (iI ((k : Nat) : Int)))]) hx hb dX2_chooseLengths_62 hl (by decide) rfl (fun ls hl => ?_)
          refine lv_aload_n hx hb dX2_chooseLengths_64 rfl (lv_at hl 1 rfl) ?_
          refine va_get (D := D) (ci := 2) (v := .ref f1) (C := RX2) (T := TX2) (N := 2) hx hb hts hin2 hown hK.1 hP 3 rfl rfl 0 (by decide) (hts (.fieldLink RX2 9 "BlockCoder$CodeFinder" "lengths" "[I") (by decide +kernel)) (fun _ h9 => h9) rfl dX2_chooseLengths_65 ?_
          refine lv_iload hx hb dX2_chooseLengths_68 (lv_at hl 6 rfl) ?_
          refine lv_iload hx hb dX2_chooseLengths_70 (lv_at hl 0 rfl) ?_
          refine ry_iast hx hb hK.1 hP hD hS 0 rfl rfl (by decide) k (by omega) dX2_chooseLengths_72 (fun H locs hP hD hS => ?_)
          have hP : va_P D vwCl [(f1, .inl (cI, 16, .inl (ia (va_up (va_up lf2 k 0) k ((pg_short L (c k) (pg_rm c L k) (posl c (15 - k)) : Nat) : Int))))), (h0, .inr (7, [.ref a1, .ref a2, .int (iI ((kd : Nat) : Int))])), (a1, .inl (cI, 16, .inl (ia cn))), (f0, .inr (2, [.ref f1, .ref f2])), (f2, .inl (cI, 1105, .inl (ia le)))] H := hP
          have hD : va_D vA [(f1, .inl (cI, 16, .inl (ia (va_up (va_up lf2 k 0) k ((pg_short L (c k) (pg_rm c L k) (posl c (15 - k)) : Nat) : Int))))), (h0, .inr (7, [.ref a1, .ref a2, .int (iI ((kd : Nat) : Int))])), (a1, .inl (cI, 16, .inl (ia cn))), (f0, .inr (2, [.ref f1, .ref f2])), (f2, .inl (cI, 1105, .inl (ia le)))] := hD
          refine lv_iload hx hb dX2_chooseLengths_73 (lv_at hl 5 rfl) ?_
          refine ry_iconst (v := 1) hx hb dX2_chooseLengths_75 rfl ?_
          refine lv_iload_n hx hb dX2_chooseLengths_76 rfl (lv_at hl 3 rfl) ?_
          refine lv_iload hx hb dX2_chooseLengths_77 (lv_at hl 0 rfl) ?_
          refine ry_isubN hx hb (L - (pg_short L (c k) (pg_rm c L k) (posl c (15 - k)))) dX2_chooseLengths_79 (by omega) ?_
          refine ry_shl1 hx hb (L - (pg_short L (c k) (pg_rm c L k) (posl c (15 - k)))) dX2_chooseLengths_80 (by omega) ?_
          refine ry_isubN hx hb ((pg_rm c L k) - (2 ^ (L - (pg_short L (c k) (pg_rm c L k) (posl c (15 - k)))))) dX2_chooseLengths_81 (by omega) ?_
          refine lv_istore (lv' := [(5, .int (iI (((pg_rm c L k) - (2 ^ (L - (pg_short L (c k) (pg_rm c L k) (posl c (15 - k))))) : Nat) : Int))), (7, .int (iI ((pg_short L (c k) (pg_rm c L k) (posl c (15 - k)) : Nat) : Int))), (0, .ref f0), (1, .ref h0), (3, .int (iI ((L : Nat) : Int))), (4, .int (iI (((posl c (16 - k)).length : Nat) : Int))), (6, .int (iI ((k : Nat) : Int)))]) hx hb dX2_chooseLengths_82 hl (by decide) rfl (fun ls hl => ?_)
          refine ry_iinc (v := (((posl c (16 - k)).length : Nat) : Int) + (-1)) (k := 5) (lv' := [(4, .int (iI ((((posl c (16 - k)).length : Nat) : Int) + (-1)))), (5, .int (iI (((pg_rm c L k) - (2 ^ (L - (pg_short L (c k) (pg_rm c L k) (posl c (15 - k))))) : Nat) : Int))), (7, .int (iI ((pg_short L (c k) (pg_rm c L k) (posl c (15 - k)) : Nat) : Int))), (0, .ref f0), (1, .ref h0), (3, .int (iI ((L : Nat) : Int))), (6, .int (iI ((k : Nat) : Int)))]) hx hb dX2_chooseLengths_84 hl rfl rfl (by decide) rfl (fun ls hl => ?_)
          refine ry_iinc (v := ((k + 1 : Nat) : Int)) (k := 6) (lv' := [(6, .int (iI ((k + 1 : Nat) : Int))), (4, .int (iI ((((posl c (16 - k)).length : Nat) : Int) + (-1)))), (5, .int (iI (((pg_rm c L k) - (2 ^ (L - (pg_short L (c k) (pg_rm c L k) (posl c (15 - k))))) : Nat) : Int))), (7, .int (iI ((pg_short L (c k) (pg_rm c L k) (posl c (15 - k)) : Nat) : Int))), (0, .ref f0), (1, .ref h0), (3, .int (iI ((L : Nat) : Int)))]) hx hb dX2_chooseLengths_87 hl rfl (by omega) (by decide) rfl (fun ls hl => ?_)
          refine lv_goto (tgt := 11) hx hb dX2_chooseLengths_90 (by decide) ?_
          rw [show ((((posl c (16 - k)).length : Nat) : Int) + (-1) : Int) = (((posl c (16 - (k + 1))).length : Nat) : Int) by (first | (rw [pg_rm, if_neg hck0]; done) | (rw [hpl9]; omega))] at hl
          rw [show ((((pg_rm c L k) - (2 ^ (L - (pg_short L (c k) (pg_rm c L k) (posl c (15 - k))))) : Nat) : Int) : Int) = ((pg_rm c L (k + 1) : Nat) : Int) by (first | (rw [pg_rm, if_neg hck0]; done) | (rw [hpl9]; omega))] at hl
          exact ih_11 (k + 1) (va_up (va_up lf2 k 0) k ((pg_short L (c k) (pg_rm c L k) (posl c (15 - k)) : Nat) : Int)) (by omega) (by rw [bx_uu]; exact up_lt (P := fun j z => z = ((pg_cl c L j : Nat) : Int)) hcd (by rw [pg_cl, if_neg hck0])) (by omega) _ _ (hP.sub [3, 0, 4, 1, 2] rfl) (hD.sub [3, 0, 4, 1, 2] (by decide) rfl) hS _ (lv_sub hl [4, 5, 6, 1, 2, 0] rfl)
  rw [show (((ro : Nat) : Int) : Int) = (((posl c (16 - 0)).length : Nat) : Int) by (first | rfl | rw [hro])] at hl
  rw [show (((2 ^ L : Nat) : Int) : Int) = ((pg_rm c L 0 : Nat) : Int) by (first | rfl | rw [hro])] at hl
  exact cut_11 (Int.toNat (16 - ((0 : Nat) : Int)) + 1) 0 lf (by omega) (fun j hj => absurd hj (by omega)) (by omega) _ _ (hP.sub [0, 1, 2, 3, 4] rfl) (hD.sub [0, 1, 2, 3, 4] (by decide) rfl) hS _ (lv_sub hl [3, 4, 6, 2, 1, 0] rfl)

abbrev rm_X2_find : Room := { frames := 3, cells := 0, slots := 0, locals := 77 }
set_option maxHeartbeats 4000000 in
set_option maxRecDepth 100000 in
theorem k_X2_find (vl : Launch) (D : va_G) (cI : ClassId) (f0 : Nat) (f1 : Nat) (f2 : Nat) (lf : Nat → Int) (le : Nat → Int) (h0 : Nat) (a1 : Nat) (a2 : Nat) (kd : Nat) (cn : Nat → Int) (L : Nat) (c : Nat → Nat) (hL : 1 ≤ L ∧ L ≤ 6) (hc : ∀ j, j < 16 → cn j = ((c j : Nat) : Int)) (hc80 : ∀ j, j < 16 → c j ≤ 80) (hz0 : ∀ i, i < 65 → le i = 0) (hfe : pg_dp L (posl c 16) (2 ^ L) < 1000000) : Ctv vl yX2_find wsX2_find rm_X2_find D cI [.ref f0, .ref h0, .int (iI ((L : Nat) : Int))] [(f0, .inr (2, [.ref f1, .ref f2])), (f1, .inl (cI, 16, .inl (ia lf))), (f2, .inl (cI, 1105, .inl (ia le))), (h0, .inr (7, [.ref a1, .ref a2, .int (iI ((kd : Nat) : Int))])), (a1, .inl (cI, 16, .inl (ia cn)))] (fun (u : (Nat → Int) × (Nat → Int)) => (∀ j, j < 16 → u.1 j = ((pg_cl c L j : Nat) : Int)) ∧ (∀ i, i < 65 → u.2 i = 0)) (fun (u : (Nat → Int) × (Nat → Int)) => [(f0, .inr (2, [.ref f1, .ref f2])), (f1, .inl (cI, 16, .inl (ia u.1))), (f2, .inl (cI, 1105, .inl (ia u.2))), (h0, .inr (7, [.ref a1, .ref a2, .int (iI ((kd : Nat) : Int))])), (a1, .inl (cI, 16, .inl (ia cn)))]) := by
  refine Ctv_of (cc := cX2_find) (maxL := 5) (by decide) rfl (Nat.le_of_ble_eq_true rfl) ?_
  intro vp ve vs vm va vb vme vc vA vQ C0 hend hP hD hS ls hl
  obtain ⟨hx, hb, hml, hr, hown, hts, hlocks, hK, hA, hnm⟩ := C0
  have hin7 : ∀ w ∈ wsX70, w ∈ wsX2_find := by decide +kernel
  have hl : lv_has ls 5 [(0, .ref f0), (1, .ref h0), (2, .int (iI ((L : Nat) : Int)))] := hl
  have hP : va_P D vwCl [(f0, .inr (2, [.ref f1, .ref f2])), (f1, .inl (cI, 16, .inl (ia lf))), (f2, .inl (cI, 1105, .inl (ia le))), (h0, .inr (7, [.ref a1, .ref a2, .int (iI ((kd : Nat) : Int))])), (a1, .inl (cI, 16, .inl (ia cn)))] vs.heap := hP
  have hD : va_D vA [(f0, .inr (2, [.ref f1, .ref f2])), (f1, .inl (cI, 16, .inl (ia lf))), (f2, .inl (cI, 1105, .inl (ia le))), (h0, .inr (7, [.ref a1, .ref a2, .int (iI ((kd : Nat) : Int))])), (a1, .inl (cI, 16, .inl (ia cn)))] := hD
  have hpw := pow_le64 hL.2 (Nat.le_refl L)
  refine ry_iconst (v := 0) hx hb dX2_find_0 rfl ?_
  refine lv_istore_n (lv' := [(3, .int (iI 0)), (0, .ref f0), (1, .ref h0), (2, .int (iI ((L : Nat) : Int)))]) hx hb dX2_find_1 rfl hl (by decide) rfl (fun ls hl => ?_)
  refine ry_bipush (v := 15) hx hb dX2_find_2 (by decide) ?_
  refine lv_istore (lv' := [(4, .int (iI 15)), (3, .int (iI 0)), (0, .ref f0), (1, .ref h0), (2, .int (iI ((L : Nat) : Int)))]) hx hb dX2_find_4 hl (by decide) rfl (fun ls hl => ?_)
  have cut_6 : ∀ (nn : Nat) (q : Nat) (le2 : Nat → Int), (q ≤ 16) → (∀ r, r ≤ 16 - q → ∀ room, room ≤ 2 ^ L → le2 ((posl c r).length * 65 + room) = ((pg_dp L (posl c r) room : Nat) : Int)) → (∀ i, i < 65 → le2 i = 0) → (((q : Nat) : Int)) < (nn : Int) → ∀ (H : Heap) (locs : List Loc), va_P D vwCl [(f0, .inr (2, [.ref f1, .ref f2])), (f1, .inl (cI, 16, .inl (ia lf))), (f2, .inl (cI, 1105, .inl (ia le2))), (h0, .inr (7, [.ref a1, .ref a2, .int (iI ((kd : Nat) : Int))])), (a1, .inl (cI, 16, .inl (ia cn)))] H → va_D vA [(f0, .inr (2, [.ref f1, .ref f2])), (f1, .inl (cI, 16, .inl (ia lf))), (f2, .inl (cI, 1105, .inl (ia le2))), (h0, .inr (7, [.ref a1, .ref a2, .int (iI ((kd : Nat) : Int))])), (a1, .inl (cI, 16, .inl (ia cn)))] → va_S vA vs.heap H locs → ∀ ls : Array Slot, lv_has ls 5 [(0, .ref f0), (1, .ref h0), (2, .int (iI ((L : Nat) : Int))), (3, .int (iI (((posl c (16 - q)).length : Nat) : Int))), (4, .int (iI (((q : Nat) : Int) - 1)))] → W vp vl ve rm_X2_find vs vm va vb vme vc H locs 0 0 vQ (F0 vm 6 ls []) := by
    intro nn
    induction nn with
    | zero =>
      intro q le2 hq htb hz2 hmu
      exact absurd hmu (by omega)
    | succ nn ih_6 =>
      intro q le2 hq htb hz2 hmu H locs hP hD hS ls hl
      refine lv_iload hx hb dX2_find_6 (lv_at hl 4 rfl) ?_
      refine ry_if_lt (tgt := 43) hx hb dX2_find_8 (by decide) (by omega) (fun b08 => ?_) (fun b08 => ?_)
      · skip
        refine lv_aload_n hx hb dX2_find_43 rfl (lv_at hl 0 rfl) ?_
        refine lv_aload_n hx hb dX2_find_44 rfl (lv_at hl 1 rfl) ?_
        refine lv_iload_n hx hb dX2_find_45 rfl (lv_at hl 3 rfl) ?_
        refine lv_iload_n hx hb dX2_find_46 rfl (lv_at hl 2 rfl) ?_
        refine ry_cv (wr := []) (va_runV (As := [.ref h0, .int (iI (((posl c (16 - q)).length : Nat) : Int)), .int (iI ((L : Nat) : Int))]) (rest := []) ⟨hx, hb, hml, hown, hts⟩ (k_X2_chooseLengths vl D cI f0 f1 f2 lf le2 h0 a1 a2 kd cn ((posl c (16 - q)).length) L c (hL) (hc) (hc80) (by rw [show q = 0 by omega]) (fun r hr => htb r (by omega)) (hfe) _) (cwV 3 hts gX2_find_X2_chooseLengths rfl rfl rfl (by decide +kernel) ⟨Nat.le_of_ble_eq_true rfl, Nat.le_of_ble_eq_true rfl⟩) ⟨CP.blind, va_recv hK.1 hP (ci := 2) (q0 := 0) rfl rfl, ry_pre hK hP hD [0, 1, 2, 3, 4] rfl rfl⟩ rfl rfl hl.1 rfl (lv_room (Nat.le_of_ble_eq_true rfl)) dX2_find_47 ⟨Nat.le_of_ble_eq_true rfl, Nat.le_of_ble_eq_true rfl⟩) hP hD hS hA [0, 1, 2, 3, 4] [] rfl rfl (by decide) (by decide) (fun u47 H locs hp47 hP hD hS => ?_)
        obtain ⟨lf1_1, rfl⟩ : ∃ z9, z9 = u47 := ⟨_, rfl⟩
        try dsimp only at hp47
        have fc_47 := hp47
        have fc_47 : ∀ j, j < 16 → lf1_1 j = ((pg_cl c L j : Nat) : Int) := fc_47
        have hP : va_P D vwCl [(f0, .inr (2, [.ref f1, .ref f2])), (f1, .inl (cI, 16, .inl (ia lf1_1))), (f2, .inl (cI, 1105, .inl (ia le2))), (h0, .inr (7, [.ref a1, .ref a2, .int (iI ((kd : Nat) : Int))])), (a1, .inl (cI, 16, .inl (ia cn)))] H := hP
        have hD : va_D vA [(f0, .inr (2, [.ref f1, .ref f2])), (f1, .inl (cI, 16, .inl (ia lf1_1))), (f2, .inl (cI, 1105, .inl (ia le2))), (h0, .inr (7, [.ref a1, .ref a2, .int (iI ((kd : Nat) : Int))])), (a1, .inl (cI, 16, .inl (ia cn)))] := hD
        exact hend (lf1_1, le2) _ _ _ _ ⟨by first | (dsimp only; done) | (dsimp only; exact (fc_47)) | exact (fc_47), by first | (dsimp only; done) | (dsimp only; exact (hz2)) | exact (hz2)⟩ (hP.sub [0, 1, 2, 3, 4] rfl) (hD.sub [0, 1, 2, 3, 4] (by decide) rfl) hS dX2_find_50
      · skip
        have hcq := hc (q - 1) (by omega)
        have hcq8 := hc80 (q - 1) (by omega)
        have hpst := posl_step c (q := q) (by omega) (by omega)
        have hpll := posl_len_le c (16 - q)
        refine lv_aload_n hx hb dX2_find_11 rfl (lv_at hl 1 rfl) ?_
        refine va_get (D := D) (ci := 7) (v := .ref a1) (C := RX7) (T := TX7) (N := 3) hx hb hts hin7 hown hK.1 hP 3 rfl rfl 0 (by decide) (hts (.fieldLink RX2 18 "BlockCoder$Tally" "counts" "[I") (by decide +kernel)) (fun _ h9 => h9) rfl dX2_find_12 ?_
        refine lv_iload hx hb dX2_find_15 (lv_at hl 4 rfl) ?_
        refine ry_iald hx hb hK.1 hP 4 rfl rfl (by decide) (q - 1) (by omega) dX2_find_17 ?_
        refine ry_if_le (tgt := 37) hx hb dX2_find_18 (by decide) (by omega) (fun b18 => ?_) (fun b18 => ?_)
        · skip
          refine ry_iinc (v := (((q : Nat) : Int) - 1) + (-1)) (k := 4) (lv' := [(4, .int (iI ((((q : Nat) : Int) - 1) + (-1)))), (0, .ref f0), (1, .ref h0), (2, .int (iI ((L : Nat) : Int))), (3, .int (iI (((posl c (16 - q)).length : Nat) : Int)))]) hx hb dX2_find_37 hl rfl rfl (by decide) rfl (fun ls hl => ?_)
          refine lv_goto (tgt := 6) hx hb dX2_find_40 (by decide) ?_
          have hpsz : posl c (17 - q) = posl c (16 - q) := by rw [hpst, if_pos (by omega)]
          rw [show ((((posl c (16 - q)).length : Nat) : Int) : Int) = (((posl c (16 - (q - 1))).length : Nat) : Int) by (first | omega | (rw [show 16 - (q - 1) = 17 - q by omega, hpsz]))] at hl
          rw [show ((((q : Nat) : Int) - 1) + (-1) : Int) = (((q - 1 : Nat) : Int) - 1) by (first | omega | (rw [show 16 - (q - 1) = 17 - q by omega, hpsz]))] at hl
          exact ih_6 (q - 1) le2 (by omega) (fun r hr room hm => by by_cases e9 : r = 17 - q; (rw [e9, hpsz]; exact htb (16 - q) (by omega) room hm); exact htb r (by omega) room hm) (hz2) (by omega) _ _ (hP.sub [0, 1, 2, 3, 4] rfl) (hD.sub [0, 1, 2, 3, 4] (by decide) rfl) hS _ (lv_sub hl [1, 2, 3, 4, 0] rfl)
        · skip
          have hcn0 : c (q - 1) ≠ 0 := by omega
          have hpsn : posl c (17 - q) = c (q - 1) :: posl c (16 - q) := by rw [hpst, if_neg hcn0]
          refine ry_iinc (v := ((((posl c (16 - q)).length) + 1 : Nat) : Int)) (k := 3) (lv' := [(3, .int (iI ((((posl c (16 - q)).length) + 1 : Nat) : Int))), (0, .ref f0), (1, .ref h0), (2, .int (iI ((L : Nat) : Int))), (4, .int (iI (((q : Nat) : Int) - 1)))]) hx hb dX2_find_21 hl rfl (by omega) (by decide) rfl (fun ls hl => ?_)
          refine lv_aload_n hx hb dX2_find_24 rfl (lv_at hl 1 rfl) ?_
          refine lv_iload_n hx hb dX2_find_25 rfl (lv_at hl 0 rfl) ?_
          refine lv_aload_n hx hb dX2_find_26 rfl (lv_at hl 2 rfl) ?_
          refine va_get (D := D) (ci := 7) (v := .ref a1) (C := RX7) (T := TX7) (N := 3) hx hb hts hin7 hown hK.1 hP 3 rfl rfl 0 (by decide) (hts (.fieldLink RX2 18 "BlockCoder$Tally" "counts" "[I") (by decide +kernel)) (fun _ h9 => h9) rfl dX2_find_27 ?_
          refine lv_iload hx hb dX2_find_30 (lv_at hl 4 rfl) ?_
          refine ry_iald hx hb hK.1 hP 4 rfl rfl (by decide) (q - 1) (by omega) dX2_find_32 ?_
          refine lv_iload_n hx hb dX2_find_33 rfl (lv_at hl 3 rfl) ?_
          rw [show (cn (q - 1) : Int) = ((c (q - 1) : Nat) : Int) by exact hcq]
          refine ry_cv (wr := [(f1, .inl (cI, 16, .inl (ia lf))), (h0, .inr (7, [.ref a1, .ref a2, .int (iI ((kd : Nat) : Int))])), (a1, .inl (cI, 16, .inl (ia cn)))]) (va_runV (As := [.int (iI ((((posl c (16 - q)).length) + 1 : Nat) : Int)), .int (iI ((c (q - 1) : Nat) : Int)), .int (iI ((L : Nat) : Int))]) (rest := []) ⟨hx, hb, hml, hown, hts⟩ (k_X2_fillRow vl D cI f0 f1 f2 le2 (((posl c (16 - q)).length) + 1) (c (q - 1)) L (posl c (16 - q)) (hL) (by omega) (by omega) (fun room hr => by rw [Nat.add_sub_cancel]; exact htb (16 - q) (Nat.le_refl _) room hr) _) (cwV 3 hts gX2_find_X2_fillRow rfl rfl rfl (by decide +kernel) ⟨Nat.le_of_ble_eq_true rfl, Nat.le_of_ble_eq_true rfl⟩) ⟨CP.blind, va_recv hK.1 hP (ci := 2) (q0 := 0) rfl rfl, ry_pre hK hP hD [0, 2] rfl rfl⟩ rfl rfl hl.1 rfl (lv_room (Nat.le_of_ble_eq_true rfl)) dX2_find_34 ⟨Nat.le_of_ble_eq_true rfl, Nat.le_of_ble_eq_true rfl⟩) hP hD hS hA [0, 2] [1, 3, 4] rfl rfl (by decide) (by decide) (fun u34 H locs hp34 hP hD hS => ?_)
          obtain ⟨le1_2, rfl⟩ : ∃ z9, z9 = u34 := ⟨_, rfl⟩
          try dsimp only at hp34
          obtain ⟨fr1_34, fr2_34⟩ := hp34
          have fr1_34 : ∀ room, room ≤ 2 ^ L → le1_2 ((((posl c (16 - q)).length) + 1) * 65 + room) = ((pg_dp L ((c (q - 1)) :: (posl c (16 - q))) room : Nat) : Int) := fr1_34
          have fr2_34 : ∀ i, i < (((posl c (16 - q)).length) + 1) * 65 → le1_2 i = le2 i := fr2_34
          have hP : va_P D vwCl [(f1, .inl (cI, 16, .inl (ia lf))), (h0, .inr (7, [.ref a1, .ref a2, .int (iI ((kd : Nat) : Int))])), (a1, .inl (cI, 16, .inl (ia cn))), (f0, .inr (2, [.ref f1, .ref f2])), (f2, .inl (cI, 1105, .inl (ia le1_2)))] H := hP
          have hD : va_D vA [(f1, .inl (cI, 16, .inl (ia lf))), (h0, .inr (7, [.ref a1, .ref a2, .int (iI ((kd : Nat) : Int))])), (a1, .inl (cI, 16, .inl (ia cn))), (f0, .inr (2, [.ref f1, .ref f2])), (f2, .inl (cI, 1105, .inl (ia le1_2)))] := hD
          refine ry_iinc (v := (((q : Nat) : Int) - 1) + (-1)) (k := 4) (lv' := [(4, .int (iI ((((q : Nat) : Int) - 1) + (-1)))), (3, .int (iI ((((posl c (16 - q)).length) + 1 : Nat) : Int))), (0, .ref f0), (1, .ref h0), (2, .int (iI ((L : Nat) : Int)))]) hx hb dX2_find_37 hl rfl rfl (by decide) rfl (fun ls hl => ?_)
          refine lv_goto (tgt := 6) hx hb dX2_find_40 (by decide) ?_
          rw [show (((((posl c (16 - q)).length) + 1 : Nat) : Int) : Int) = (((posl c (16 - (q - 1))).length : Nat) : Int) by (first | omega | (rw [show 16 - (q - 1) = 17 - q by omega, hpsn, List.length_cons]))] at hl
          rw [show ((((q : Nat) : Int) - 1) + (-1) : Int) = (((q - 1 : Nat) : Int) - 1) by (first | omega | (rw [show 16 - (q - 1) = 17 - q by omega, hpsn, List.length_cons]))] at hl
          exact ih_6 (q - 1) le1_2 (by omega) (fun r hr room hm => by by_cases e9 : r = 17 - q; (rw [e9, hpsn]; rw [List.length_cons]; exact fr1_34 room hm); (have h9 := posl_mono c r (16 - q) (by omega); rw [fr2_34 _ (by omega)]; exact htb r (by omega) room hm)) (fun i hi => (fr2_34 i (by omega)).trans (hz2 i hi)) (by omega) _ _ (hP.sub [3, 0, 4, 1, 2] rfl) (hD.sub [3, 0, 4, 1, 2] (by decide) rfl) hS _ (lv_sub hl [2, 3, 4, 1, 0] rfl)
  rw [show (0 : Int) = (((posl c (16 - 16)).length : Nat) : Int) by (first | rfl | omega)] at hl
  rw [show (15 : Int) = (((16 : Nat) : Int) - 1) by (first | rfl | omega)] at hl
  exact cut_6 (Int.toNat (((16 : Nat) : Int)) + 1) 16 le (by omega) (fun r hr room hm => by have e9 : r = 0 := (by omega); rw [e9]; simp only [posl, pg_dp, List.length_nil]; exact hz0 _ (by omega)) (hz0) (by omega) _ _ (hP.sub [0, 1, 2, 3, 4] rfl) (hD.sub [0, 1, 2, 3, 4] (by decide) rfl) hS _ (lv_sub hl [2, 3, 4, 1, 0] rfl)
