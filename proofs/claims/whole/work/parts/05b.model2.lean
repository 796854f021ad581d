abbrev rm_X10_from : Room := { frames := 0, cells := 0, slots := 0, locals := 0 }
set_option maxHeartbeats 4000000 in
set_option maxRecDepth 100000 in
theorem k_X10_from (vl : Launch) (D : va_G) (cI : ClassId) (m0 : Nat) (th : Int) (n : Nat) (r_tx : Nat) (L : Nat) (hd : Nat) (pr : Nat) (gr : Nat) (md : Int) (co : Int) (nb : Nat) (r_st : Nat) (r_ln : Nat) (r_wd : Nat) (bt : Nat) (r_bi : Nat) (gt : Nat) (r_go : Nat) (r_cn : Nat) (r_le : Nat) (r_cd : Nat) (r_bc : Nat) (r_bb : Nat) (r_be : Nat) (le : Nat → Int) (s0 : Nat) (x : Int) (hs0 : s0 ≤ 16) (hx0 : -2147483648 ≤ x ∧ x ≤ 64) : Cti vl yX10_from wsX10_from rm_X10_from D cI [.ref m0, .int (iI ((s0 : Nat) : Int)), .int (iI x)] [(m0, .inr (10, [.int (iI th), .int (iI ((n : Nat) : Int)), .ref r_tx, .int (iI ((L : Nat) : Int)), .int (iI ((hd : Nat) : Int)), .int (iI ((pr : Nat) : Int)), .int (iI ((gr : Nat) : Int)), .int (iI md), .int (iI co), .int (iI ((nb : Nat) : Int)), .ref r_st, .ref r_ln, .ref r_wd, .int (iI ((bt : Nat) : Int)), .ref r_bi, .int (iI ((gt : Nat) : Int)), .ref r_go, .ref r_cn, .ref r_le, .ref r_cd, .ref r_bc, .ref r_bb, .ref r_be])), (r_le, .inl (cI, 1105, .inl (ia le)))] (fun (r : Int) (u : Unit) => ((x < 0 ∧ r = 1000000) ∨ (0 ≤ x ∧ r = le (65 * s0 + x.toNat)))) (fun (u : Unit) => [(m0, .inr (10, [.int (iI th), .int (iI ((n : Nat) : Int)), .ref r_tx, .int (iI ((L : Nat) : Int)), .int (iI ((hd : Nat) : Int)), .int (iI ((pr : Nat) : Int)), .int (iI ((gr : Nat) : Int)), .int (iI md), .int (iI co), .int (iI ((nb : Nat) : Int)), .ref r_st, .ref r_ln, .ref r_wd, .int (iI ((bt : Nat) : Int)), .ref r_bi, .int (iI ((gt : Nat) : Int)), .ref r_go, .ref r_cn, .ref r_le, .ref r_cd, .ref r_bc, .ref r_bb, .ref r_be])), (r_le, .inl (cI, 1105, .inl (ia le)))]) := by
  refine Cti_of (cc := cX10_from) (maxL := 3) (by decide) rfl (Nat.le_of_ble_eq_true rfl) ?_
  intro vp ve vs vm va vb vme vc vA vQ C0 hend hP hD hS ls hl
  obtain ⟨hx, hb, hml, hr, hown, hts, hlocks, hK, hA, hnm⟩ := C0
  have hin10 : ∀ w ∈ wsX100, w ∈ wsX10_from := by decide +kernel
  have hl : lv_has ls 3 [(0, .ref m0), (1, .int (iI ((s0 : Nat) : Int))), (2, .int (iI x))] := hl
  have hP : va_P D vwCl [(m0, .inr (10, [.int (iI th), .int (iI ((n : Nat) : Int)), .ref r_tx, .int (iI ((L : Nat) : Int)), .int (iI ((hd : Nat) : Int)), .int (iI ((pr : Nat) : Int)), .int (iI ((gr : Nat) : Int)), .int (iI md), .int (iI co), .int (iI ((nb : Nat) : Int)), .ref r_st, .ref r_ln, .ref r_wd, .int (iI ((bt : Nat) : Int)), .ref r_bi, .int (iI ((gt : Nat) : Int)), .ref r_go, .ref r_cn, .ref r_le, .ref r_cd, .ref r_bc, .ref r_bb, .ref r_be])), (r_le, .inl (cI, 1105, .inl (ia le)))] vs.heap := hP
  have hD : va_D vA [(m0, .inr (10, [.int (iI th), .int (iI ((n : Nat) : Int)), .ref r_tx, .int (iI ((L : Nat) : Int)), .int (iI ((hd : Nat) : Int)), .int (iI ((pr : Nat) : Int)), .int (iI ((gr : Nat) : Int)), .int (iI md), .int (iI co), .int (iI ((nb : Nat) : Int)), .ref r_st, .ref r_ln, .ref r_wd, .int (iI ((bt : Nat) : Int)), .ref r_bi, .int (iI ((gt : Nat) : Int)), .ref r_go, .ref r_cn, .ref r_le, .ref r_cd, .ref r_bc, .ref r_bb, .ref r_be])), (r_le, .inl (cI, 1105, .inl (ia le)))] := hD
  refine lv_iload_n hx hb dX10_from_0 rfl (lv_at hl 2 rfl) ?_
  refine ry_if_ge (tgt := 9) hx hb dX10_from_1 (by decide) (by omega) (fun b01 => ?_) (fun b01 => ?_)
  · skip
    refine lv_aload_n hx hb dX10_from_9 rfl (lv_at hl 0 rfl) ?_
    refine va_get (D := D) (ci := 10) (v := .ref r_le) (C := RX10) (T := TX10) (N := 23) hx hb hts hin10 hown hK.1 hP 0 rfl rfl 18 (by decide) (hts (.fieldLink RX10 44 "BlockCoderModel" "least" "[I") (by decide +kernel)) (fun _ h9 => h9) rfl dX10_from_10 ?_
    refine ry_bipush (v := 65) hx hb dX10_from_13 (by decide) ?_
    refine lv_iload_n hx hb dX10_from_15 rfl (lv_at hl 1 rfl) ?_
    refine ry_imulN hx hb (65 * s0) dX10_from_16 (by omega) ?_
    refine lv_iload_n hx hb dX10_from_17 rfl (lv_at hl 2 rfl) ?_
    refine ry_iadd hx hb dX10_from_18 ?_
    refine ry_iald hx hb hK.1 hP 1 rfl rfl (by decide) (65 * s0 + x.toNat) (by omega) dX10_from_19 ?_
    exact hend _ () _ _ _ _ (by first | exact Or.inl ⟨by omega, rfl⟩ | exact Or.inr ⟨by omega, rfl⟩) (hP.sub [0, 1] rfl) (hD.sub [0, 1] (by decide) rfl) hS dX10_from_20
  · skip
    refine ry_ldc (v := 1000000) hx hb hown (hts (.constant RX10 85 (iI 1000000)) (by decide +kernel)) dX10_from_4 ?_
    refine lv_goto (tgt := 20) hx hb dX10_from_6 (by decide) ?_
    exact hend _ () _ _ _ _ (by first | exact Or.inl ⟨by omega, rfl⟩ | exact Or.inr ⟨by omega, rfl⟩) (hP.sub [0, 1] rfl) (hD.sub [0, 1] (by decide) rfl) hS dX10_from_20

abbrev rm_X10_sumOfLengths : Room := { frames := 1, cells := 0, slots := 0, locals := 22 }
set_option maxHeartbeats 4000000 in
set_option maxRecDepth 100000 in
theorem k_X10_sumOfLengths (vl : Launch) (D : va_G) (cI : ClassId) (m0 : Nat) (th : Int) (n : Nat) (r_tx : Nat) (L : Nat) (hd : Nat) (pr : Nat) (gr : Nat) (md : Int) (co : Int) (nb : Nat) (r_st : Nat) (r_ln : Nat) (r_wd : Nat) (bt : Nat) (r_bi : Nat) (gt : Nat) (r_go : Nat) (r_cn : Nat) (r_le : Nat) (r_cd : Nat) (r_bc : Nat) (r_bb : Nat) (r_be : Nat) (cn : Nat → Int) (le : Nat → Int) (c : Nat → Nat) (hL : 1 ≤ L ∧ L ≤ 6) (hc : ∀ j, j < 16 → cn j = ((c j : Nat) : Int)) (hc80 : ∀ j, j < 16 → c j ≤ 80) : Cti vl yX10_sumOfLengths wsX10_sumOfLengths rm_X10_sumOfLengths D cI [.ref m0] [(m0, .inr (10, [.int (iI th), .int (iI ((n : Nat) : Int)), .ref r_tx, .int (iI ((L : Nat) : Int)), .int (iI ((hd : Nat) : Int)), .int (iI ((pr : Nat) : Int)), .int (iI ((gr : Nat) : Int)), .int (iI md), .int (iI co), .int (iI ((nb : Nat) : Int)), .ref r_st, .ref r_ln, .ref r_wd, .int (iI ((bt : Nat) : Int)), .ref r_bi, .int (iI ((gt : Nat) : Int)), .ref r_go, .ref r_cn, .ref r_le, .ref r_cd, .ref r_bc, .ref r_bb, .ref r_be])), (r_cn, .inl (cI, 16, .inl (ia cn))), (r_le, .inl (cI, 1105, .inl (ia le)))] (fun (r : Int) (u : (Nat → Int)) => (∀ r, r ≤ 16 → ∀ room, room ≤ 2 ^ L → u (65 * (16 - r) + room) = ((pg_dp L (posl c r) room : Nat) : Int)) ∧ (r = ((pg_dp L (posl c 16) (2 ^ L) : Nat) : Int))) (fun (u : (Nat → Int)) => [(m0, .inr (10, [.int (iI th), .int (iI ((n : Nat) : Int)), .ref r_tx, .int (iI ((L : Nat) : Int)), .int (iI ((hd : Nat) : Int)), .int (iI ((pr : Nat) : Int)), .int (iI ((gr : Nat) : Int)), .int (iI md), .int (iI co), .int (iI ((nb : Nat) : Int)), .ref r_st, .ref r_ln, .ref r_wd, .int (iI ((bt : Nat) : Int)), .ref r_bi, .int (iI ((gt : Nat) : Int)), .ref r_go, .ref r_cn, .ref r_le, .ref r_cd, .ref r_bc, .ref r_bb, .ref r_be])), (r_cn, .inl (cI, 16, .inl (ia cn))), (r_le, .inl (cI, 1105, .inl (ia u)))]) := by
  refine Cti_of (cc := cX10_sumOfLengths) (maxL := 6) (by decide) rfl (Nat.le_of_ble_eq_true rfl) ?_
  intro vp ve vs vm va vb vme vc vA vQ C0 hend hP hD hS ls hl
  obtain ⟨hx, hb, hml, hr, hown, hts, hlocks, hK, hA, hnm⟩ := C0
  have hin10 : ∀ w ∈ wsX100, w ∈ wsX10_sumOfLengths := by decide +kernel
  have hl : lv_has ls 6 [(0, .ref m0)] := hl
  have hP : va_P D vwCl [(m0, .inr (10, [.int (iI th), .int (iI ((n : Nat) : Int)), .ref r_tx, .int (iI ((L : Nat) : Int)), .int (iI ((hd : Nat) : Int)), .int (iI ((pr : Nat) : Int)), .int (iI ((gr : Nat) : Int)), .int (iI md), .int (iI co), .int (iI ((nb : Nat) : Int)), .ref r_st, .ref r_ln, .ref r_wd, .int (iI ((bt : Nat) : Int)), .ref r_bi, .int (iI ((gt : Nat) : Int)), .ref r_go, .ref r_cn, .ref r_le, .ref r_cd, .ref r_bc, .ref r_bb, .ref r_be])), (r_cn, .inl (cI, 16, .inl (ia cn))), (r_le, .inl (cI, 1105, .inl (ia le)))] vs.heap := hP
  have hD : va_D vA [(m0, .inr (10, [.int (iI th), .int (iI ((n : Nat) : Int)), .ref r_tx, .int (iI ((L : Nat) : Int)), .int (iI ((hd : Nat) : Int)), .int (iI ((pr : Nat) : Int)), .int (iI ((gr : Nat) : Int)), .int (iI md), .int (iI co), .int (iI ((nb : Nat) : Int)), .ref r_st, .ref r_ln, .ref r_wd, .int (iI ((bt : Nat) : Int)), .ref r_bi, .int (iI ((gt : Nat) : Int)), .ref r_go, .ref r_cn, .ref r_le, .ref r_cd, .ref r_bc, .ref r_bb, .ref r_be])), (r_cn, .inl (cI, 16, .inl (ia cn))), (r_le, .inl (cI, 1105, .inl (ia le)))] := hD
  have hpw := pow_le64 hL.2 (Nat.le_refl L)
  refine ry_iconst (v := 1) hx hb dX10_sumOfLengths_0 rfl ?_
  refine lv_aload_n hx hb dX10_sumOfLengths_1 rfl (lv_at hl 0 rfl) ?_
  refine va_get (D := D) (ci := 10) (v := .int (iI ((L : Nat) : Int))) (C := RX10) (T := TX10) (N := 23) hx hb hts hin10 hown hK.1 hP 0 rfl rfl 3 (by decide) (hts (.fieldLink RX10 13 "BlockCoderModel" "limit" "I") (by decide +kernel)) (fun _ h9 => h9) rfl dX10_sumOfLengths_2 ?_
  refine ry_shl1 hx hb L dX10_sumOfLengths_5 (by omega) ?_
  refine lv_istore_n (lv' := [(1, .int (iI ((2 ^ L : Nat) : Int))), (0, .ref m0)]) hx hb dX10_sumOfLengths_6 rfl hl (by decide) rfl (fun ls hl => ?_)
  refine ry_iconst (v := 0) hx hb dX10_sumOfLengths_7 rfl ?_
  refine lv_istore_n (lv' := [(2, .int (iI 0)), (1, .int (iI ((2 ^ L : Nat) : Int))), (0, .ref m0)]) hx hb dX10_sumOfLengths_8 rfl hl (by decide) rfl (fun ls hl => ?_)
  have cut_9 : ∀ (nn : Nat) (k : Nat) (le2 : Nat → Int), (k ≤ 2 ^ L + 1) → (∀ j, j < k → le2 (1040 + j) = 0) → (((2 ^ L : Nat) : Int) + 1 - ((k : Nat) : Int)) < (nn : Int) → ∀ (H : Heap) (locs : List Loc), va_P D vwCl [(m0, .inr (10, [.int (iI th), .int (iI ((n : Nat) : Int)), .ref r_tx, .int (iI ((L : Nat) : Int)), .int (iI ((hd : Nat) : Int)), .int (iI ((pr : Nat) : Int)), .int (iI ((gr : Nat) : Int)), .int (iI md), .int (iI co), .int (iI ((nb : Nat) : Int)), .ref r_st, .ref r_ln, .ref r_wd, .int (iI ((bt : Nat) : Int)), .ref r_bi, .int (iI ((gt : Nat) : Int)), .ref r_go, .ref r_cn, .ref r_le, .ref r_cd, .ref r_bc, .ref r_bb, .ref r_be])), (r_cn, .inl (cI, 16, .inl (ia cn))), (r_le, .inl (cI, 1105, .inl (ia le2)))] H → va_D vA [(m0, .inr (10, [.int (iI th), .int (iI ((n : Nat) : Int)), .ref r_tx, .int (iI ((L : Nat) : Int)), .int (iI ((hd : Nat) : Int)), .int (iI ((pr : Nat) : Int)), .int (iI ((gr : Nat) : Int)), .int (iI md), .int (iI co), .int (iI ((nb : Nat) : Int)), .ref r_st, .ref r_ln, .ref r_wd, .int (iI ((bt : Nat) : Int)), .ref r_bi, .int (iI ((gt : Nat) : Int)), .ref r_go, .ref r_cn, .ref r_le, .ref r_cd, .ref r_bc, .ref r_bb, .ref r_be])), (r_cn, .inl (cI, 16, .inl (ia cn))), (r_le, .inl (cI, 1105, .inl (ia le2)))] → va_S vA vs.heap H locs → ∀ ls : Array Slot, lv_has ls 6 [(0, .ref m0), (1, .int (iI ((2 ^ L : Nat) : Int))), (2, .int (iI ((k : Nat) : Int)))] → W vp vl ve rm_X10_sumOfLengths vs vm va vb vme vc H locs 0 0 vQ (F0 vm 9 ls []) := by
    intro nn
    induction nn with
    | zero =>
      intro k le2 hk hz0 hmu
      exact absurd hmu (by omega)
    | succ nn ih_9 =>
      intro k le2 hk hz0 hmu H locs hP hD hS ls hl
      refine lv_iload_n hx hb dX10_sumOfLengths_9 rfl (lv_at hl 2 rfl) ?_
      refine lv_iload_n hx hb dX10_sumOfLengths_10 rfl (lv_at hl 1 rfl) ?_
      refine ry_icmp_gt (tgt := 31) hx hb dX10_sumOfLengths_11 (by decide) (by omega) (by omega) (fun b11 => ?_) (fun b11 => ?_)
      · skip
        refine ry_bipush (v := 15) hx hb dX10_sumOfLengths_31 (by decide) ?_
        refine lv_istore_n (lv' := [(2, .int (iI 15)), (0, .ref m0), (1, .int (iI ((2 ^ L : Nat) : Int)))]) hx hb dX10_sumOfLengths_33 rfl hl (by decide) rfl (fun ls hl => ?_)
        have cut_34 : ∀ (nn : Nat) (q : Nat) (le3 : Nat → Int), (q ≤ 16) → (∀ r, r ≤ 16 - q → ∀ room, room ≤ 2 ^ L → le3 (65 * (16 - r) + room) = ((pg_dp L (posl c r) room : Nat) : Int)) → (((q : Nat) : Int)) < (nn : Int) → ∀ (H : Heap) (locs : List Loc), va_P D vwCl [(m0, .inr (10, [.int (iI th), .int (iI ((n : Nat) : Int)), .ref r_tx, .int (iI ((L : Nat) : Int)), .int (iI ((hd : Nat) : Int)), .int (iI ((pr : Nat) : Int)), .int (iI ((gr : Nat) : Int)), .int (iI md), .int (iI co), .int (iI ((nb : Nat) : Int)), .ref r_st, .ref r_ln, .ref r_wd, .int (iI ((bt : Nat) : Int)), .ref r_bi, .int (iI ((gt : Nat) : Int)), .ref r_go, .ref r_cn, .ref r_le, .ref r_cd, .ref r_bc, .ref r_bb, .ref r_be])), (r_cn, .inl (cI, 16, .inl (ia cn))), (r_le, .inl (cI, 1105, .inl (ia le3)))] H → va_D vA [(m0, .inr (10, [.int (iI th), .int (iI ((n : Nat) : Int)), .ref r_tx, .int (iI ((L : Nat) : Int)), .int (iI ((hd : Nat) : Int)), .int (iI ((pr : Nat) : Int)), .int (iI ((gr : Nat) : Int)), .int (iI md), .int (iI co), .int (iI ((nb : Nat) : Int)), .ref r_st, .ref r_ln, .ref r_wd, .int (iI ((bt : Nat) : Int)), .ref r_bi, .int (iI ((gt : Nat) : Int)), .ref r_go, .ref r_cn, .ref r_le, .ref r_cd, .ref r_bc, .ref r_bb, .ref r_be])), (r_cn, .inl (cI, 16, .inl (ia cn))), (r_le, .inl (cI, 1105, .inl (ia le3)))] → va_S vA vs.heap H locs → ∀ ls : Array Slot, lv_has ls 6 [(0, .ref m0), (1, .int (iI ((2 ^ L : Nat) : Int))), (2, .int (iI (((q : Nat) : Int) - 1)))] → W vp vl ve rm_X10_sumOfLengths vs vm va vb vme vc H locs 0 0 vQ (F0 vm 34 ls []) := by
          intro nn
          induction nn with
          | zero =>
            intro q le3 hq htb hmu
            exact absurd hmu (by omega)
          | succ nn ih_34 =>
            intro q le3 hq htb hmu H locs hP hD hS ls hl
            refine lv_iload_n hx hb dX10_sumOfLengths_34 rfl (lv_at hl 2 rfl) ?_
            refine ry_if_lt (tgt := 156) hx hb dX10_sumOfLengths_35 (by decide) (by omega) (fun b35 => ?_) (fun b35 => ?_)
            · skip
              refine lv_aload_n hx hb dX10_sumOfLengths_156 rfl (lv_at hl 0 rfl) ?_
              refine ry_iconst (v := 0) hx hb dX10_sumOfLengths_157 rfl ?_
              refine lv_iload_n hx hb dX10_sumOfLengths_158 rfl (lv_at hl 1 rfl) ?_
              refine ry_ci (wr := [(r_cn, .inl (cI, 16, .inl (ia cn)))]) (va_runV (As := [.int (iI 0), .int (iI ((2 ^ L : Nat) : Int))]) (rest := []) ⟨hx, hb, hml, hown, hts⟩ (k_X10_from vl D cI m0 th n r_tx L hd pr gr md co nb r_st r_ln r_wd bt r_bi gt r_go r_cn r_le r_cd r_bc r_bb r_be le3 0 ((2 ^ L : Nat) : Int) (by omega) (by omega) _) (cwV 2 hts gX10_sumOfLengths_X10_from rfl rfl rfl (by decide +kernel) ⟨Nat.le_of_ble_eq_true rfl, Nat.le_of_ble_eq_true rfl⟩) ⟨CP.blind, va_recv hK.1 hP (ci := 10) (q0 := 0) rfl rfl, ry_pre hK hP hD [0, 2] rfl rfl⟩ rfl rfl hl.1 rfl (lv_room (Nat.le_of_ble_eq_true rfl)) dX10_sumOfLengths_159 ⟨Nat.le_of_ble_eq_true rfl, Nat.le_of_ble_eq_true rfl⟩) hP hD hS hA [0, 2] [1] rfl rfl (by decide) (by decide) (fun z159 u159 H locs hp159 hP hD hS => ?_)
              try dsimp only at hp159
              have fr_159 := hp159
              have fr_159 : (((2 ^ L : Nat) : Int) < 0 ∧ z159 = 1000000) ∨ (0 ≤ ((2 ^ L : Nat) : Int) ∧ z159 = le3 (65 * 0 + ((2 ^ L : Nat) : Int).toNat)) := fr_159
              have hP : va_P D vwCl [(r_cn, .inl (cI, 16, .inl (ia cn))), (m0, .inr (10, [.int (iI th), .int (iI ((n : Nat) : Int)), .ref r_tx, .int (iI ((L : Nat) : Int)), .int (iI ((hd : Nat) : Int)), .int (iI ((pr : Nat) : Int)), .int (iI ((gr : Nat) : Int)), .int (iI md), .int (iI co), .int (iI ((nb : Nat) : Int)), .ref r_st, .ref r_ln, .ref r_wd, .int (iI ((bt : Nat) : Int)), .ref r_bi, .int (iI ((gt : Nat) : Int)), .ref r_go, .ref r_cn, .ref r_le, .ref r_cd, .ref r_bc, .ref r_bb, .ref r_be])), (r_le, .inl (cI, 1105, .inl (ia le3)))] H := hP
              have hD : va_D vA [(r_cn, .inl (cI, 16, .inl (ia cn))), (m0, .inr (10, [.int (iI th), .int (iI ((n : Nat) : Int)), .ref r_tx, .int (iI ((L : Nat) : Int)), .int (iI ((hd : Nat) : Int)), .int (iI ((pr : Nat) : Int)), .int (iI ((gr : Nat) : Int)), .int (iI md), .int (iI co), .int (iI ((nb : Nat) : Int)), .ref r_st, .ref r_ln, .ref r_wd, .int (iI ((bt : Nat) : Int)), .ref r_bi, .int (iI ((gt : Nat) : Int)), .ref r_go, .ref r_cn, .ref r_le, .ref r_cd, .ref r_bc, .ref r_bb, .ref r_be])), (r_le, .inl (cI, 1105, .inl (ia le3)))] := hD
              exact hend _ (le3) _ _ _ _ ⟨fun r hr => htb r (by omega), by rcases fr_159 with h | h; (exact absurd h.1 (by omega)); (rw [h.2, Int.toNat_natCast]; have := htb 16 (by omega) (2 ^ L) (Nat.le_refl _); simpa using this)⟩ (hP.sub [1, 0, 2] rfl) (hD.sub [1, 0, 2] (by decide) rfl) hS dX10_sumOfLengths_162
            · skip
              refine ry_iconst (v := 0) hx hb dX10_sumOfLengths_38 rfl ?_
              refine lv_istore_n (lv' := [(3, .int (iI 0)), (0, .ref m0), (1, .int (iI ((2 ^ L : Nat) : Int))), (2, .int (iI (((q : Nat) : Int) - 1)))]) hx hb dX10_sumOfLengths_39 rfl hl (by decide) rfl (fun ls hl => ?_)
              have cut_40 : ∀ (nn : Nat) (k : Nat) (le4 : Nat → Int), (1 ≤ q) → (k ≤ 2 ^ L + 1) → (∀ r, r ≤ 16 - q → ∀ room, room ≤ 2 ^ L → le4 (65 * (16 - r) + room) = ((pg_dp L (posl c r) room : Nat) : Int)) → (∀ room, room < k → le4 (65 * (q - 1) + room) = ((pg_dp L (posl c (17 - q)) room : Nat) : Int)) → (((2 ^ L : Nat) : Int) + 1 - ((k : Nat) : Int)) < (nn : Int) → ∀ (H : Heap) (locs : List Loc), va_P D vwCl [(m0, .inr (10, [.int (iI th), .int (iI ((n : Nat) : Int)), .ref r_tx, .int (iI ((L : Nat) : Int)), .int (iI ((hd : Nat) : Int)), .int (iI ((pr : Nat) : Int)), .int (iI ((gr : Nat) : Int)), .int (iI md), .int (iI co), .int (iI ((nb : Nat) : Int)), .ref r_st, .ref r_ln, .ref r_wd, .int (iI ((bt : Nat) : Int)), .ref r_bi, .int (iI ((gt : Nat) : Int)), .ref r_go, .ref r_cn, .ref r_le, .ref r_cd, .ref r_bc, .ref r_bb, .ref r_be])), (r_cn, .inl (cI, 16, .inl (ia cn))), (r_le, .inl (cI, 1105, .inl (ia le4)))] H → va_D vA [(m0, .inr (10, [.int (iI th), .int (iI ((n : Nat) : Int)), .ref r_tx, .int (iI ((L : Nat) : Int)), .int (iI ((hd : Nat) : Int)), .int (iI ((pr : Nat) : Int)), .int (iI ((gr : Nat) : Int)), .int (iI md), .int (iI co), .int (iI ((nb : Nat) : Int)), .ref r_st, .ref r_ln, .ref r_wd, .int (iI ((bt : Nat) : Int)), .ref r_bi, .int (iI ((gt : Nat) : Int)), .ref r_go, .ref r_cn, .ref r_le, .ref r_cd, .ref r_bc, .ref r_bb, .ref r_be])), (r_cn, .inl (cI, 16, .inl (ia cn))), (r_le, .inl (cI, 1105, .inl (ia le4)))] → va_S vA vs.heap H locs → ∀ ls : Array Slot, lv_has ls 6 [(0, .ref m0), (1, .int (iI ((2 ^ L : Nat) : Int))), (2, .int (iI (((q : Nat) : Int) - 1))), (3, .int (iI ((k : Nat) : Int)))] → W vp vl ve rm_X10_sumOfLengths vs vm va vb vme vc H locs 0 0 vQ (F0 vm 40 ls []) := by
                intro nn
                induction nn with
                | zero =>
                  intro k le4 hq1 hk htb hrow hmu
                  exact absurd hmu (by omega)
                | succ nn ih_40 =>
                  intro k le4 hq1 hk htb hrow hmu H locs hP hD hS ls hl
                  refine lv_iload_n hx hb dX10_sumOfLengths_40 rfl (lv_at hl 3 rfl) ?_
                  refine lv_iload_n hx hb dX10_sumOfLengths_41 rfl (lv_at hl 1 rfl) ?_
                  refine ry_icmp_gt (tgt := 150) hx hb dX10_sumOfLengths_42 (by decide) (by omega) (by omega) (fun b42 => ?_) (fun b42 => ?_)
                  · skip
                    refine ry_iinc (v := (((q : Nat) : Int) - 1) + (-1)) (k := 2) (lv' := [(2, .int (iI ((((q : Nat) : Int) - 1) + (-1)))), (0, .ref m0), (1, .int (iI ((2 ^ L : Nat) : Int))), (3, .int (iI ((k : Nat) : Int)))]) hx hb dX10_sumOfLengths_150 hl rfl rfl (by decide) rfl (fun ls hl => ?_)
                    refine lv_goto (tgt := 34) hx hb dX10_sumOfLengths_153 (by decide) ?_
                    rw [show ((((q : Nat) : Int) - 1) + (-1) : Int) = (((q - 1 : Nat) : Int) - 1) by omega] at hl
                    exact ih_34 (q - 1) le4 (by omega) (fun r hr room hm => by by_cases e9 : r = 17 - q; (subst e9; rw [show 65 * (16 - (17 - q)) + room = 65 * (q - 1) + room by omega]; exact hrow room (by omega)); exact htb r (by omega) room hm) (by omega) _ _ (hP.sub [0, 1, 2] rfl) (hD.sub [0, 1, 2] (by decide) rfl) hS _ (lv_sub hl [1, 2, 0] rfl)
                  · skip
                    have hcq := hc (q - 1) (by omega); have hcq8 := hc80 (q - 1) (by omega)
                    refine lv_aload_n hx hb dX10_sumOfLengths_45 rfl (lv_at hl 0 rfl) ?_
                    refine va_get (D := D) (ci := 10) (v := .ref r_cn) (C := RX10) (T := TX10) (N := 23) hx hb hts hin10 hown hK.1 hP 0 rfl rfl 17 (by decide) (hts (.fieldLink RX10 41 "BlockCoderModel" "counts" "[I") (by decide +kernel)) (fun _ h9 => h9) rfl dX10_sumOfLengths_46 ?_
                    refine lv_iload_n hx hb dX10_sumOfLengths_49 rfl (lv_at hl 2 rfl) ?_
                    refine ry_iald hx hb hK.1 hP 1 rfl rfl (by decide) (q - 1) (by omega) dX10_sumOfLengths_50 ?_
                    refine ry_if_ne (tgt := 65) hx hb dX10_sumOfLengths_51 (by decide) (by omega) (fun b51 => ?_) (fun b51 => ?_)
                    · skip
                      refine ry_ldc (v := 1000000) hx hb hown (hts (.constant RX10 85 (iI 1000000)) (by decide +kernel)) dX10_sumOfLengths_65 ?_
                      refine lv_istore (lv' := [(4, .int (iI 1000000)), (0, .ref m0), (1, .int (iI ((2 ^ L : Nat) : Int))), (2, .int (iI (((q : Nat) : Int) - 1))), (3, .int (iI ((k : Nat) : Int)))]) hx hb dX10_sumOfLengths_67 hl (by decide) rfl (fun ls hl => ?_)
                      refine ry_iconst (v := 1) hx hb dX10_sumOfLengths_69 rfl ?_
                      refine lv_istore (lv' := [(5, .int (iI 1)), (4, .int (iI 1000000)), (0, .ref m0), (1, .int (iI ((2 ^ L : Nat) : Int))), (2, .int (iI (((q : Nat) : Int) - 1))), (3, .int (iI ((k : Nat) : Int)))]) hx hb dX10_sumOfLengths_70 hl (by decide) rfl (fun ls hl => ?_)
                      have cut_72 : ∀ (nn : Nat) (bst : Nat) (l9 : Nat), (1 ≤ l9 ∧ l9 ≤ L + 1) → (bst ≤ 1000000) → ((c (q - 1) = 0 ∧ bst = pg_dp L (posl c (16 - q)) k) ∨ (c (q - 1) ≠ 0 ∧ bst = pg_best L (c (q - 1)) k (pg_dp L (posl c (16 - q))) (l9 - 1))) → (((L : Nat) : Int) + 1 - ((l9 : Nat) : Int)) < (nn : Int) → ∀ (H : Heap) (locs : List Loc), va_P D vwCl [(m0, .inr (10, [.int (iI th), .int (iI ((n : Nat) : Int)), .ref r_tx, .int (iI ((L : Nat) : Int)), .int (iI ((hd : Nat) : Int)), .int (iI ((pr : Nat) : Int)), .int (iI ((gr : Nat) : Int)), .int (iI md), .int (iI co), .int (iI ((nb : Nat) : Int)), .ref r_st, .ref r_ln, .ref r_wd, .int (iI ((bt : Nat) : Int)), .ref r_bi, .int (iI ((gt : Nat) : Int)), .ref r_go, .ref r_cn, .ref r_le, .ref r_cd, .ref r_bc, .ref r_bb, .ref r_be])), (r_cn, .inl (cI, 16, .inl (ia cn))), (r_le, .inl (cI, 1105, .inl (ia le4)))] H → va_D vA [(m0, .inr (10, [.int (iI th), .int (iI ((n : Nat) : Int)), .ref r_tx, .int (iI ((L : Nat) : Int)), .int (iI ((hd : Nat) : Int)), .int (iI ((pr : Nat) : Int)), .int (iI ((gr : Nat) : Int)), .int (iI md), .int (iI co), .int (iI ((nb : Nat) : Int)), .ref r_st, .ref r_ln, .ref r_wd, .int (iI ((bt : Nat) : Int)), .ref r_bi, .int (iI ((gt : Nat) : Int)), .ref r_go, .ref r_cn, .ref r_le, .ref r_cd, .ref r_bc, .ref r_bb, .ref r_be])), (r_cn, .inl (cI, 16, .inl (ia cn))), (r_le, .inl (cI, 1105, .inl (ia le4)))] → va_S vA vs.heap H locs → ∀ ls : Array Slot, lv_has ls 6 [(0, .ref m0), (1, .int (iI ((2 ^ L : Nat) : Int))), (2, .int (iI (((q : Nat) : Int) - 1))), (3, .int (iI ((k : Nat) : Int))), (4, .int (iI ((bst : Nat) : Int))), (5, .int (iI ((l9 : Nat) : Int)))] → W vp vl ve rm_X10_sumOfLengths vs vm va vb vme vc H locs 0 0 vQ (F0 vm 72 ls []) := by
                        intro nn
                        induction nn with
                        | zero =>
                          intro bst l9 hl9 hbst hbv hmu
                          exact absurd hmu (by omega)
                        | succ nn ih_72 =>
                          intro bst l9 hl9 hbst hbv hmu H locs hP hD hS ls hl
                          refine lv_iload hx hb dX10_sumOfLengths_72 (lv_at hl 5 rfl) ?_
                          refine lv_aload_n hx hb dX10_sumOfLengths_74 rfl (lv_at hl 0 rfl) ?_
                          refine va_get (D := D) (ci := 10) (v := .int (iI ((L : Nat) : Int))) (C := RX10) (T := TX10) (N := 23) hx hb hts hin10 hown hK.1 hP 0 rfl rfl 3 (by decide) (hts (.fieldLink RX10 13 "BlockCoderModel" "limit" "I") (by decide +kernel)) (fun _ h9 => h9) rfl dX10_sumOfLengths_75 ?_
                          refine ry_icmp_gt (tgt := 131) hx hb dX10_sumOfLengths_78 (by decide) (by omega) (by omega) (fun b78 => ?_) (fun b78 => ?_)
                          · skip
                            have hfin : bst = pg_dp L (posl c (17 - q)) k := by
                              rw [posl_step c (by omega) (by omega)]
                              rcases hbv with ⟨h1, h2⟩ | ⟨h1, h2⟩
                              · rw [if_pos h1]; exact h2
                              · rw [if_neg h1, pg_dp]; first | rw [h2, show l9 - 1 = L by omega] | exact absurd h1 (by omega)
                            refine lv_aload_n hx hb dX10_sumOfLengths_131 rfl (lv_at hl 0 rfl) ?_
                            refine va_get (D := D) (ci := 10) (v := .ref r_le) (C := RX10) (T := TX10) (N := 23) hx hb hts hin10 hown hK.1 hP 0 rfl rfl 18 (by decide) (hts (.fieldLink RX10 44 "BlockCoderModel" "least" "[I") (by decide +kernel)) (fun _ h9 => h9) rfl dX10_sumOfLengths_132 ?_
                            refine ry_bipush (v := 65) hx hb dX10_sumOfLengths_135 (by decide) ?_
                            refine lv_iload_n hx hb dX10_sumOfLengths_137 rfl (lv_at hl 2 rfl) ?_
                            refine ry_imul hx hb dX10_sumOfLengths_138 ?_
                            refine lv_iload_n hx hb dX10_sumOfLengths_139 rfl (lv_at hl 3 rfl) ?_
                            refine ry_iadd hx hb dX10_sumOfLengths_140 ?_
                            refine lv_iload hx hb dX10_sumOfLengths_141 (lv_at hl 4 rfl) ?_
                            refine ry_iast hx hb hK.1 hP hD hS 2 rfl rfl (by decide) (65 * (q - 1) + k) (by omega) dX10_sumOfLengths_143 (fun H locs hP hD hS => ?_)
                            have hP : va_P D vwCl [(m0, .inr (10, [.int (iI th), .int (iI ((n : Nat) : Int)), .ref r_tx, .int (iI ((L : Nat) : Int)), .int (iI ((hd : Nat) : Int)), .int (iI ((pr : Nat) : Int)), .int (iI ((gr : Nat) : Int)), .int (iI md), .int (iI co), .int (iI ((nb : Nat) : Int)), .ref r_st, .ref r_ln, .ref r_wd, .int (iI ((bt : Nat) : Int)), .ref r_bi, .int (iI ((gt : Nat) : Int)), .ref r_go, .ref r_cn, .ref r_le, .ref r_cd, .ref r_bc, .ref r_bb, .ref r_be])), (r_cn, .inl (cI, 16, .inl (ia cn))), (r_le, .inl (cI, 1105, .inl (ia (va_up le4 (65 * (q - 1) + k) ((bst : Nat) : Int)))))] H := hP
                            have hD : va_D vA [(m0, .inr (10, [.int (iI th), .int (iI ((n : Nat) : Int)), .ref r_tx, .int (iI ((L : Nat) : Int)), .int (iI ((hd : Nat) : Int)), .int (iI ((pr : Nat) : Int)), .int (iI ((gr : Nat) : Int)), .int (iI md), .int (iI co), .int (iI ((nb : Nat) : Int)), .ref r_st, .ref r_ln, .ref r_wd, .int (iI ((bt : Nat) : Int)), .ref r_bi, .int (iI ((gt : Nat) : Int)), .ref r_go, .ref r_cn, .ref r_le, .ref r_cd, .ref r_bc, .ref r_bb, .ref r_be])), (r_cn, .inl (cI, 16, .inl (ia cn))), (r_le, .inl (cI, 1105, .inl (ia (va_up le4 (65 * (q - 1) + k) ((bst : Nat) : Int)))))] := hD
                            refine ry_iinc (v := ((k + 1 : Nat) : Int)) (k := 3) (lv' := [(3, .int (iI ((k + 1 : Nat) : Int))), (0, .ref m0), (1, .int (iI ((2 ^ L : Nat) : Int))), (2, .int (iI (((q : Nat) : Int) - 1))), (4, .int (iI ((bst : Nat) : Int))), (5, .int (iI ((l9 : Nat) : Int)))]) hx hb dX10_sumOfLengths_144 hl rfl (by omega) (by decide) rfl (fun ls hl => ?_)
                            refine lv_goto (tgt := 40) hx hb dX10_sumOfLengths_147 (by decide) ?_
                            exact ih_40 (k + 1) (va_up le4 (65 * (q - 1) + k) ((bst : Nat) : Int)) (by omega) (by omega) (fun r hr room hm => (up_ne _ _ (by omega)).trans (htb r hr room hm)) (fun room hj => by by_cases e9 : room = k; (subst e9; rw [up_self, hfin]); exact (up_ne _ _ (by omega)).trans (hrow room (by omega))) (by omega) _ _ (hP.sub [0, 1, 2] rfl) (hD.sub [0, 1, 2] (by decide) rfl) hS _ (lv_sub hl [1, 2, 3, 0] rfl)
                          · skip
                            have hpl := pow_le64 (k := L - l9) hL.2 (by omega)
                            refine lv_aload_n hx hb dX10_sumOfLengths_81 rfl (lv_at hl 0 rfl) ?_
                            refine va_get (D := D) (ci := 10) (v := .ref r_cn) (C := RX10) (T := TX10) (N := 23) hx hb hts hin10 hown hK.1 hP 0 rfl rfl 17 (by decide) (hts (.fieldLink RX10 41 "BlockCoderModel" "counts" "[I") (by decide +kernel)) (fun _ h9 => h9) rfl dX10_sumOfLengths_82 ?_
                            refine lv_iload_n hx hb dX10_sumOfLengths_85 rfl (lv_at hl 2 rfl) ?_
                            refine ry_iald hx hb hK.1 hP 1 rfl rfl (by decide) (q - 1) (by omega) dX10_sumOfLengths_86 ?_
                            refine ry_if_le (tgt := 131) hx hb dX10_sumOfLengths_87 (by decide) (by omega) (fun b87 => ?_) (fun b87 => ?_)
                            · skip
                              have hfin : bst = pg_dp L (posl c (17 - q)) k := by
                                rw [posl_step c (by omega) (by omega)]
                                rcases hbv with ⟨h1, h2⟩ | ⟨h1, h2⟩
                                · rw [if_pos h1]; exact h2
                                · rw [if_neg h1, pg_dp]; first | rw [h2, show l9 - 1 = L by omega] | exact absurd h1 (by omega)
                              refine lv_aload_n hx hb dX10_sumOfLengths_131 rfl (lv_at hl 0 rfl) ?_
                              refine va_get (D := D) (ci := 10) (v := .ref r_le) (C := RX10) (T := TX10) (N := 23) hx hb hts hin10 hown hK.1 hP 0 rfl rfl 18 (by decide) (hts (.fieldLink RX10 44 "BlockCoderModel" "least" "[I") (by decide +kernel)) (fun _ h9 => h9) rfl dX10_sumOfLengths_132 ?_
                              refine ry_bipush (v := 65) hx hb dX10_sumOfLengths_135 (by decide) ?_
                              refine lv_iload_n hx hb dX10_sumOfLengths_137 rfl (lv_at hl 2 rfl) ?_
                              refine ry_imul hx hb dX10_sumOfLengths_138 ?_
                              refine lv_iload_n hx hb dX10_sumOfLengths_139 rfl (lv_at hl 3 rfl) ?_
                              refine ry_iadd hx hb dX10_sumOfLengths_140 ?_
                              refine lv_iload hx hb dX10_sumOfLengths_141 (lv_at hl 4 rfl) ?_
                              refine ry_iast hx hb hK.1 hP hD hS 2 rfl rfl (by decide) (65 * (q - 1) + k) (by omega) dX10_sumOfLengths_143 (fun H locs hP hD hS => ?_)
                              have hP : va_P D vwCl [(m0, .inr (10, [.int (iI th), .int (iI ((n : Nat) : Int)), .ref r_tx, .int (iI ((L : Nat) : Int)), .int (iI ((hd : Nat) : Int)), .int (iI ((pr : Nat) : Int)), .int (iI ((gr : Nat) : Int)), .int (iI md), .int (iI co), .int (iI ((nb : Nat) : Int)), .ref r_st, .ref r_ln, .ref r_wd, .int (iI ((bt : Nat) : Int)), .ref r_bi, .int (iI ((gt : Nat) : Int)), .ref r_go, .ref r_cn, .ref r_le, .ref r_cd, .ref r_bc, .ref r_bb, .ref r_be])), (r_cn, .inl (cI, 16, .inl (ia cn))), (r_le, .inl (cI, 1105, .inl (ia (va_up le4 (65 * (q - 1) + k) ((bst : Nat) : Int)))))] H := hP
                              have hD : va_D vA [(m0, .inr (10, [.int (iI th), .int (iI ((n : Nat) : Int)), .ref r_tx, .int (iI ((L : Nat) : Int)), .int (iI ((hd : Nat) : Int)), .int (iI ((pr : Nat) : Int)), .int (iI ((gr : Nat) : Int)), .int (iI md), .int (iI co), .int (iI ((nb : Nat) : Int)), .ref r_st, .ref r_ln, .ref r_wd, .int (iI ((bt : Nat) : Int)), .ref r_bi, .int (iI ((gt : Nat) : Int)), .ref r_go, .ref r_cn, .ref r_le, .ref r_cd, .ref r_bc, .ref r_bb, .ref r_be])), (r_cn, .inl (cI, 16, .inl (ia cn))), (r_le, .inl (cI, 1105, .inl (ia (va_up le4 (65 * (q - 1) + k) ((bst : Nat) : Int)))))] := hD
                              refine ry_iinc (v := ((k + 1 : Nat) : Int)) (k := 3) (lv' := [(3, .int (iI ((k + 1 : Nat) : Int))), (0, .ref m0), (1, .int (iI ((2 ^ L : Nat) : Int))), (2, .int (iI (((q : Nat) : Int) - 1))), (4, .int (iI ((bst : Nat) : Int))), (5, .int (iI ((l9 : Nat) : Int)))]) hx hb dX10_sumOfLengths_144 hl rfl (by omega) (by decide) rfl (fun ls hl => ?_)
                              refine lv_goto (tgt := 40) hx hb dX10_sumOfLengths_147 (by decide) ?_
                              exact ih_40 (k + 1) (va_up le4 (65 * (q - 1) + k) ((bst : Nat) : Int)) (by omega) (by omega) (fun r hr room hm => (up_ne _ _ (by omega)).trans (htb r hr room hm)) (fun room hj => by by_cases e9 : room = k; (subst e9; rw [up_self, hfin]); exact (up_ne _ _ (by omega)).trans (hrow room (by omega))) (by omega) _ _ (hP.sub [0, 1, 2] rfl) (hD.sub [0, 1, 2] (by decide) rfl) hS _ (lv_sub hl [1, 2, 3, 0] rfl)
                            · skip
                              refine lv_iload hx hb dX10_sumOfLengths_90 (lv_at hl 4 rfl) ?_
                              refine lv_aload_n hx hb dX10_sumOfLengths_92 rfl (lv_at hl 0 rfl) ?_
                              refine va_get (D := D) (ci := 10) (v := .ref r_cn) (C := RX10) (T := TX10) (N := 23) hx hb hts hin10 hown hK.1 hP 0 rfl rfl 17 (by decide) (hts (.fieldLink RX10 41 "BlockCoderModel" "counts" "[I") (by decide +kernel)) (fun _ h9 => h9) rfl dX10_sumOfLengths_93 ?_
                              refine lv_iload_n hx hb dX10_sumOfLengths_96 rfl (lv_at hl 2 rfl) ?_
                              refine ry_iald hx hb hK.1 hP 1 rfl rfl (by decide) (q - 1) (by omega) dX10_sumOfLengths_97 ?_
                              refine lv_iload hx hb dX10_sumOfLengths_98 (lv_at hl 5 rfl) ?_
                              refine ry_imul hx hb dX10_sumOfLengths_100 ?_
                              refine lv_aload_n hx hb dX10_sumOfLengths_101 rfl (lv_at hl 0 rfl) ?_
                              refine lv_iload_n hx hb dX10_sumOfLengths_102 rfl (lv_at hl 2 rfl) ?_
                              refine ry_iconst (v := 1) hx hb dX10_sumOfLengths_103 rfl ?_
                              refine ry_iadd hx hb dX10_sumOfLengths_104 ?_
                              refine lv_iload_n hx hb dX10_sumOfLengths_105 rfl (lv_at hl 3 rfl) ?_
                              refine ry_iconst (v := 1) hx hb dX10_sumOfLengths_106 rfl ?_
                              refine lv_aload_n hx hb dX10_sumOfLengths_107 rfl (lv_at hl 0 rfl) ?_
                              refine va_get (D := D) (ci := 10) (v := .int (iI ((L : Nat) : Int))) (C := RX10) (T := TX10) (N := 23) hx hb hts hin10 hown hK.1 hP 0 rfl rfl 3 (by decide) (hts (.fieldLink RX10 13 "BlockCoderModel" "limit" "I") (by decide +kernel)) (fun _ h9 => h9) rfl dX10_sumOfLengths_108 ?_
                              refine lv_iload hx hb dX10_sumOfLengths_111 (lv_at hl 5 rfl) ?_
                              refine ry_isubN hx hb (L - l9) dX10_sumOfLengths_113 (by omega) ?_
                              refine ry_shl1 hx hb (L - l9) dX10_sumOfLengths_114 (by omega) ?_
                              refine ry_isub hx hb dX10_sumOfLengths_115 ?_
                              rw [show ((((q : Nat) : Int) - 1) + 1 : Int) = ((q : Nat) : Int) by omega]
                              refine ry_ci (wr := [(r_cn, .inl (cI, 16, .inl (ia cn)))]) (va_runV (As := [.int (iI ((q : Nat) : Int)), .int (iI (((k : Nat) : Int) - ((2 ^ (L - l9) : Nat) : Int)))]) (rest := [.int (iI ((cn (q - 1)) * ((l9 : Nat) : Int))), .int (iI ((bst : Nat) : Int))]) ⟨hx, hb, hml, hown, hts⟩ (k_X10_from vl D cI m0 th n r_tx L hd pr gr md co nb r_st r_ln r_wd bt r_bi gt r_go r_cn r_le r_cd r_bc r_bb r_be le4 q (((k : Nat) : Int) - ((2 ^ (L - l9) : Nat) : Int)) (by omega) (by omega) _) (cwV 2 hts gX10_sumOfLengths_X10_from rfl rfl rfl (by decide +kernel) ⟨Nat.le_of_ble_eq_true rfl, Nat.le_of_ble_eq_true rfl⟩) ⟨CP.blind, va_recv hK.1 hP (ci := 10) (q0 := 0) rfl rfl, ry_pre hK hP hD [0, 2] rfl rfl⟩ rfl rfl hl.1 rfl (lv_room (Nat.le_of_ble_eq_true rfl)) dX10_sumOfLengths_116 ⟨Nat.le_of_ble_eq_true rfl, Nat.le_of_ble_eq_true rfl⟩) hP hD hS hA [0, 2] [1] rfl rfl (by decide) (by decide) (fun z116 u116 H locs hp116 hP hD hS => ?_)
                              try dsimp only at hp116
                              have fr_116 := hp116
                              have fr_116 : ((((k : Nat) : Int) - ((2 ^ (L - l9) : Nat) : Int)) < 0 ∧ z116 = 1000000) ∨ (0 ≤ (((k : Nat) : Int) - ((2 ^ (L - l9) : Nat) : Int)) ∧ z116 = le4 (65 * q + (((k : Nat) : Int) - ((2 ^ (L - l9) : Nat) : Int)).toNat)) := fr_116
                              have hP : va_P D vwCl [(r_cn, .inl (cI, 16, .inl (ia cn))), (m0, .inr (10, [.int (iI th), .int (iI ((n : Nat) : Int)), .ref r_tx, .int (iI ((L : Nat) : Int)), .int (iI ((hd : Nat) : Int)), .int (iI ((pr : Nat) : Int)), .int (iI ((gr : Nat) : Int)), .int (iI md), .int (iI co), .int (iI ((nb : Nat) : Int)), .ref r_st, .ref r_ln, .ref r_wd, .int (iI ((bt : Nat) : Int)), .ref r_bi, .int (iI ((gt : Nat) : Int)), .ref r_go, .ref r_cn, .ref r_le, .ref r_cd, .ref r_bc, .ref r_bb, .ref r_be])), (r_le, .inl (cI, 1105, .inl (ia le4)))] H := hP
                              have hD : va_D vA [(r_cn, .inl (cI, 16, .inl (ia cn))), (m0, .inr (10, [.int (iI th), .int (iI ((n : Nat) : Int)), .ref r_tx, .int (iI ((L : Nat) : Int)), .int (iI ((hd : Nat) : Int)), .int (iI ((pr : Nat) : Int)), .int (iI ((gr : Nat) : Int)), .int (iI md), .int (iI co), .int (iI ((nb : Nat) : Int)), .ref r_st, .ref r_ln, .ref r_wd, .int (iI ((bt : Nat) : Int)), .ref r_bi, .int (iI ((gt : Nat) : Int)), .ref r_go, .ref r_cn, .ref r_le, .ref r_cd, .ref r_bc, .ref r_bb, .ref r_be])), (r_le, .inl (cI, 1105, .inl (ia le4)))] := hD
                              refine ry_iadd hx hb dX10_sumOfLengths_119 ?_
                              have hm := mul_le480 (a := cn (q - 1)) (l := l9) (by omega) (by omega)
                              have hz : ((((k : Nat) : Int) - ((2 ^ (L - l9) : Nat) : Int)) < 0 ∧ z116 = 1000000) ∨ (0 ≤ (((k : Nat) : Int) - ((2 ^ (L - l9) : Nat) : Int)) ∧ z116 = ((pg_dp L (posl c (16 - q)) (((k : Nat) : Int) - ((2 ^ (L - l9) : Nat) : Int)).toNat : Nat) : Int)) := by
                                rcases fr_116 with h | h
                                · exact Or.inl h
                                · exact Or.inr ⟨h.1, by rw [h.2]; have := htb (16 - q) (by omega) (((k : Nat) : Int) - ((2 ^ (L - l9) : Nat) : Int)).toNat (by omega); rw [show 16 - (16 - q) = q by omega] at this; exact this⟩
                              have hdc := pg_dp_cap L (posl c (16 - q)) (((k : Nat) : Int) - ((2 ^ (L - l9) : Nat) : Int)).toNat
                              have hbv2 : c (q - 1) ≠ 0 ∧ bst = pg_best L (c (q - 1)) k (pg_dp L (posl c (16 - q))) (l9 - 1) := by
                                rcases hbv with h | h
                                · exact absurd h.1 (by omega)
                                · exact h
                              refine ry_min hx hb (hml.trans hl.1.symm) hown (hts (.methodLink RX10 90 Lib.Math.min.name) (by decide +kernel)) (hts (.static Lib.Math.min.name) (by decide +kernel)) (hts (.initialized "java/lang/Math") (by decide +kernel)) (hts (.code Lib.Math.min.name Lib.Math.min.code 2 (some .int)) (by decide +kernel)) (Nat.le_of_ble_eq_true rfl) (Nat.le_of_ble_eq_true rfl) (Nat.le_of_ble_eq_true rfl) (Nat.le_of_ble_eq_true rfl) (by omega) (by omega) dX10_sumOfLengths_120 ?_
                              refine lv_istore (lv' := [(4, .int (iI (min ((bst : Nat) : Int) (((cn (q - 1)) * ((l9 : Nat) : Int)) + z116)))), (0, .ref m0), (1, .int (iI ((2 ^ L : Nat) : Int))), (2, .int (iI (((q : Nat) : Int) - 1))), (3, .int (iI ((k : Nat) : Int))), (5, .int (iI ((l9 : Nat) : Int)))]) hx hb dX10_sumOfLengths_123 hl (by decide) rfl (fun ls hl => ?_)
                              refine ry_iinc (v := ((l9 + 1 : Nat) : Int)) (k := 5) (lv' := [(5, .int (iI ((l9 + 1 : Nat) : Int))), (4, .int (iI (min ((bst : Nat) : Int) (((cn (q - 1)) * ((l9 : Nat) : Int)) + z116)))), (0, .ref m0), (1, .int (iI ((2 ^ L : Nat) : Int))), (2, .int (iI (((q : Nat) : Int) - 1))), (3, .int (iI ((k : Nat) : Int)))]) hx hb dX10_sumOfLengths_125 hl rfl (by omega) (by decide) rfl (fun ls hl => ?_)
                              refine lv_goto (tgt := 72) hx hb dX10_sumOfLengths_128 (by decide) ?_
                              rw [show (min ((bst : Nat) : Int) (((cn (q - 1)) * ((l9 : Nat) : Int)) + z116) : Int) = ((pg_best L (c (q - 1)) k (pg_dp L (posl c (16 - q))) l9 : Nat) : Int) by exact sl_step hbv2.2 (by omega) (hc _ (by omega)) rfl hz] at hl
                              exact ih_72 (pg_best L (c (q - 1)) k (pg_dp L (posl c (16 - q))) l9) (l9 + 1) (by omega) (pg_best_cap _ _ _ _ _) (Or.inr ⟨hbv2.1, by simp⟩) (by omega) _ _ (hP.sub [1, 0, 2] rfl) (hD.sub [1, 0, 2] (by decide) rfl) hS _ (lv_sub hl [2, 3, 4, 5, 1, 0] rfl)
                      exact cut_72 (Int.toNat (((L : Nat) : Int) + 1 - ((1 : Nat) : Int)) + 1) 1000000 1 (by omega) (by omega) (Or.inr ⟨by omega, rfl⟩) (by omega) _ _ (hP.sub [0, 1, 2] rfl) (hD.sub [0, 1, 2] (by decide) rfl) hS _ (lv_sub hl [2, 3, 4, 5, 1, 0] rfl)
                    · skip
                      refine lv_aload_n hx hb dX10_sumOfLengths_54 rfl (lv_at hl 0 rfl) ?_
                      refine lv_iload_n hx hb dX10_sumOfLengths_55 rfl (lv_at hl 2 rfl) ?_
                      refine ry_iconst (v := 1) hx hb dX10_sumOfLengths_56 rfl ?_
                      refine ry_iadd hx hb dX10_sumOfLengths_57 ?_
                      refine lv_iload_n hx hb dX10_sumOfLengths_58 rfl (lv_at hl 3 rfl) ?_
                      rw [show ((((q : Nat) : Int) - 1) + 1 : Int) = ((q : Nat) : Int) by omega]
                      refine ry_ci (wr := [(r_cn, .inl (cI, 16, .inl (ia cn)))]) (va_runV (As := [.int (iI ((q : Nat) : Int)), .int (iI ((k : Nat) : Int))]) (rest := []) ⟨hx, hb, hml, hown, hts⟩ (k_X10_from vl D cI m0 th n r_tx L hd pr gr md co nb r_st r_ln r_wd bt r_bi gt r_go r_cn r_le r_cd r_bc r_bb r_be le4 q ((k : Nat) : Int) (by omega) (by omega) _) (cwV 2 hts gX10_sumOfLengths_X10_from rfl rfl rfl (by decide +kernel) ⟨Nat.le_of_ble_eq_true rfl, Nat.le_of_ble_eq_true rfl⟩) ⟨CP.blind, va_recv hK.1 hP (ci := 10) (q0 := 0) rfl rfl, ry_pre hK hP hD [0, 2] rfl rfl⟩ rfl rfl hl.1 rfl (lv_room (Nat.le_of_ble_eq_true rfl)) dX10_sumOfLengths_59 ⟨Nat.le_of_ble_eq_true rfl, Nat.le_of_ble_eq_true rfl⟩) hP hD hS hA [0, 2] [1] rfl rfl (by decide) (by decide) (fun z59 u59 H locs hp59 hP hD hS => ?_)
                      try dsimp only at hp59
                      have fr_59 := hp59
                      have fr_59 : (((k : Nat) : Int) < 0 ∧ z59 = 1000000) ∨ (0 ≤ ((k : Nat) : Int) ∧ z59 = le4 (65 * q + ((k : Nat) : Int).toNat)) := fr_59
                      have hP : va_P D vwCl [(r_cn, .inl (cI, 16, .inl (ia cn))), (m0, .inr (10, [.int (iI th), .int (iI ((n : Nat) : Int)), .ref r_tx, .int (iI ((L : Nat) : Int)), .int (iI ((hd : Nat) : Int)), .int (iI ((pr : Nat) : Int)), .int (iI ((gr : Nat) : Int)), .int (iI md), .int (iI co), .int (iI ((nb : Nat) : Int)), .ref r_st, .ref r_ln, .ref r_wd, .int (iI ((bt : Nat) : Int)), .ref r_bi, .int (iI ((gt : Nat) : Int)), .ref r_go, .ref r_cn, .ref r_le, .ref r_cd, .ref r_bc, .ref r_bb, .ref r_be])), (r_le, .inl (cI, 1105, .inl (ia le4)))] H := hP
                      have hD : va_D vA [(r_cn, .inl (cI, 16, .inl (ia cn))), (m0, .inr (10, [.int (iI th), .int (iI ((n : Nat) : Int)), .ref r_tx, .int (iI ((L : Nat) : Int)), .int (iI ((hd : Nat) : Int)), .int (iI ((pr : Nat) : Int)), .int (iI ((gr : Nat) : Int)), .int (iI md), .int (iI co), .int (iI ((nb : Nat) : Int)), .ref r_st, .ref r_ln, .ref r_wd, .int (iI ((bt : Nat) : Int)), .ref r_bi, .int (iI ((gt : Nat) : Int)), .ref r_go, .ref r_cn, .ref r_le, .ref r_cd, .ref r_bc, .ref r_bb, .ref r_be])), (r_le, .inl (cI, 1105, .inl (ia le4)))] := hD
                      refine lv_goto (tgt := 67) hx hb dX10_sumOfLengths_62 (by decide) ?_
                      refine lv_istore (lv' := [(4, .int (iI z59)), (0, .ref m0), (1, .int (iI ((2 ^ L : Nat) : Int))), (2, .int (iI (((q : Nat) : Int) - 1))), (3, .int (iI ((k : Nat) : Int)))]) hx hb dX10_sumOfLengths_67 hl (by decide) rfl (fun ls hl => ?_)
                      refine ry_iconst (v := 1) hx hb dX10_sumOfLengths_69 rfl ?_
                      refine lv_istore (lv' := [(5, .int (iI 1)), (4, .int (iI z59)), (0, .ref m0), (1, .int (iI ((2 ^ L : Nat) : Int))), (2, .int (iI (((q : Nat) : Int) - 1))), (3, .int (iI ((k : Nat) : Int)))]) hx hb dX10_sumOfLengths_70 hl (by decide) rfl (fun ls hl => ?_)
                      have cut_72 : ∀ (nn : Nat) (bst : Nat) (l9 : Nat), (1 ≤ l9 ∧ l9 ≤ L + 1) → (bst ≤ 1000000) → ((c (q - 1) = 0 ∧ bst = pg_dp L (posl c (16 - q)) k) ∨ (c (q - 1) ≠ 0 ∧ bst = pg_best L (c (q - 1)) k (pg_dp L (posl c (16 - q))) (l9 - 1))) → (((L : Nat) : Int) + 1 - ((l9 : Nat) : Int)) < (nn : Int) → ∀ (H : Heap) (locs : List Loc), va_P D vwCl [(m0, .inr (10, [.int (iI th), .int (iI ((n : Nat) : Int)), .ref r_tx, .int (iI ((L : Nat) : Int)), .int (iI ((hd : Nat) : Int)), .int (iI ((pr : Nat) : Int)), .int (iI ((gr : Nat) : Int)), .int (iI md), .int (iI co), .int (iI ((nb : Nat) : Int)), .ref r_st, .ref r_ln, .ref r_wd, .int (iI ((bt : Nat) : Int)), .ref r_bi, .int (iI ((gt : Nat) : Int)), .ref r_go, .ref r_cn, .ref r_le, .ref r_cd, .ref r_bc, .ref r_bb, .ref r_be])), (r_cn, .inl (cI, 16, .inl (ia cn))), (r_le, .inl (cI, 1105, .inl (ia le4)))] H → va_D vA [(m0, .inr (10, [.int (iI th), .int (iI ((n : Nat) : Int)), .ref r_tx, .int (iI ((L : Nat) : Int)), .int (iI ((hd : Nat) : Int)), .int (iI ((pr : Nat) : Int)), .int (iI ((gr : Nat) : Int)), .int (iI md), .int (iI co), .int (iI ((nb : Nat) : Int)), .ref r_st, .ref r_ln, .ref r_wd, .int (iI ((bt : Nat) : Int)), .ref r_bi, .int (iI ((gt : Nat) : Int)), .ref r_go, .ref r_cn, .ref r_le, .ref r_cd, .ref r_bc, .ref r_bb, .ref r_be])), (r_cn, .inl (cI, 16, .inl (ia cn))), (r_le, .inl (cI, 1105, .inl (ia le4)))] → va_S vA vs.heap H locs → ∀ ls : Array Slot, lv_has ls 6 [(0, .ref m0), (1, .int (iI ((2 ^ L : Nat) : Int))), (2, .int (iI (((q : Nat) : Int) - 1))), (3, .int (iI ((k : Nat) : Int))), (4, .int (iI ((bst : Nat) : Int))), (5, .int (iI ((l9 : Nat) : Int)))] → W vp vl ve rm_X10_sumOfLengths vs vm va vb vme vc H locs 0 0 vQ (F0 vm 72 ls []) := by
                        intro nn
                        induction nn with
                        | zero =>
                          intro bst l9 hl9 hbst hbv hmu
                          exact absurd hmu (by omega)
                        | succ nn ih_72 =>
                          intro bst l9 hl9 hbst hbv hmu H locs hP hD hS ls hl
                          refine lv_iload hx hb dX10_sumOfLengths_72 (lv_at hl 5 rfl) ?_
                          refine lv_aload_n hx hb dX10_sumOfLengths_74 rfl (lv_at hl 0 rfl) ?_
                          refine va_get (D := D) (ci := 10) (v := .int (iI ((L : Nat) : Int))) (C := RX10) (T := TX10) (N := 23) hx hb hts hin10 hown hK.1 hP 0 rfl rfl 3 (by decide) (hts (.fieldLink RX10 13 "BlockCoderModel" "limit" "I") (by decide +kernel)) (fun _ h9 => h9) rfl dX10_sumOfLengths_75 ?_
                          refine ry_icmp_gt (tgt := 131) hx hb dX10_sumOfLengths_78 (by decide) (by omega) (by omega) (fun b78 => ?_) (fun b78 => ?_)
                          · skip
                            have hfin : bst = pg_dp L (posl c (17 - q)) k := by
                              rw [posl_step c (by omega) (by omega)]
                              rcases hbv with ⟨h1, h2⟩ | ⟨h1, h2⟩
                              · rw [if_pos h1]; exact h2
                              · rw [if_neg h1, pg_dp]; first | rw [h2, show l9 - 1 = L by omega] | exact absurd h1 (by omega)
                            refine lv_aload_n hx hb dX10_sumOfLengths_131 rfl (lv_at hl 0 rfl) ?_
                            refine va_get (D := D) (ci := 10) (v := .ref r_le) (C := RX10) (T := TX10) (N := 23) hx hb hts hin10 hown hK.1 hP 0 rfl rfl 18 (by decide) (hts (.fieldLink RX10 44 "BlockCoderModel" "least" "[I") (by decide +kernel)) (fun _ h9 => h9) rfl dX10_sumOfLengths_132 ?_
                            refine ry_bipush (v := 65) hx hb dX10_sumOfLengths_135 (by decide) ?_
                            refine lv_iload_n hx hb dX10_sumOfLengths_137 rfl (lv_at hl 2 rfl) ?_
                            refine ry_imul hx hb dX10_sumOfLengths_138 ?_
                            refine lv_iload_n hx hb dX10_sumOfLengths_139 rfl (lv_at hl 3 rfl) ?_
                            refine ry_iadd hx hb dX10_sumOfLengths_140 ?_
                            refine lv_iload hx hb dX10_sumOfLengths_141 (lv_at hl 4 rfl) ?_
                            refine ry_iast hx hb hK.1 hP hD hS 2 rfl rfl (by decide) (65 * (q - 1) + k) (by omega) dX10_sumOfLengths_143 (fun H locs hP hD hS => ?_)
                            have hP : va_P D vwCl [(m0, .inr (10, [.int (iI th), .int (iI ((n : Nat) : Int)), .ref r_tx, .int (iI ((L : Nat) : Int)), .int (iI ((hd : Nat) : Int)), .int (iI ((pr : Nat) : Int)), .int (iI ((gr : Nat) : Int)), .int (iI md), .int (iI co), .int (iI ((nb : Nat) : Int)), .ref r_st, .ref r_ln, .ref r_wd, .int (iI ((bt : Nat) : Int)), .ref r_bi, .int (iI ((gt : Nat) : Int)), .ref r_go, .ref r_cn, .ref r_le, .ref r_cd, .ref r_bc, .ref r_bb, .ref r_be])), (r_cn, .inl (cI, 16, .inl (ia cn))), (r_le, .inl (cI, 1105, .inl (ia (va_up le4 (65 * (q - 1) + k) ((bst : Nat) : Int)))))] H := hP
                            have hD : va_D vA [(m0, .inr (10, [.int (iI th), .int (iI ((n : Nat) : Int)), .ref r_tx, .int (iI ((L : Nat) : Int)), .int (iI ((hd : Nat) : Int)), .int (iI ((pr : Nat) : Int)), .int (iI ((gr : Nat) : Int)), .int (iI md), .int (iI co), .int (iI ((nb : Nat) : Int)), .ref r_st, .ref r_ln, .ref r_wd, .int (iI ((bt : Nat) : Int)), .ref r_bi, .int (iI ((gt : Nat) : Int)), .ref r_go, .ref r_cn, .ref r_le, .ref r_cd, .ref r_bc, .ref r_bb, .ref r_be])), (r_cn, .inl (cI, 16, .inl (ia cn))), (r_le, .inl (cI, 1105, .inl (ia (va_up le4 (65 * (q - 1) + k) ((bst : Nat) : Int)))))] := hD
                            refine ry_iinc (v := ((k + 1 : Nat) : Int)) (k := 3) (lv' := [(3, .int (iI ((k + 1 : Nat) : Int))), (0, .ref m0), (1, .int (iI ((2 ^ L : Nat) : Int))), (2, .int (iI (((q : Nat) : Int) - 1))), (4, .int (iI ((bst : Nat) : Int))), (5, .int (iI ((l9 : Nat) : Int)))]) hx hb dX10_sumOfLengths_144 hl rfl (by omega) (by decide) rfl (fun ls hl => ?_)
                            refine lv_goto (tgt := 40) hx hb dX10_sumOfLengths_147 (by decide) ?_
                            exact ih_40 (k + 1) (va_up le4 (65 * (q - 1) + k) ((bst : Nat) : Int)) (by omega) (by omega) (fun r hr room hm => (up_ne _ _ (by omega)).trans (htb r hr room hm)) (fun room hj => by by_cases e9 : room = k; (subst e9; rw [up_self, hfin]); exact (up_ne _ _ (by omega)).trans (hrow room (by omega))) (by omega) _ _ (hP.sub [0, 1, 2] rfl) (hD.sub [0, 1, 2] (by decide) rfl) hS _ (lv_sub hl [1, 2, 3, 0] rfl)
                          · skip
                            have hpl := pow_le64 (k := L - l9) hL.2 (by omega)
                            refine lv_aload_n hx hb dX10_sumOfLengths_81 rfl (lv_at hl 0 rfl) ?_
                            refine va_get (D := D) (ci := 10) (v := .ref r_cn) (C := RX10) (T := TX10) (N := 23) hx hb hts hin10 hown hK.1 hP 0 rfl rfl 17 (by decide) (hts (.fieldLink RX10 41 "BlockCoderModel" "counts" "[I") (by decide +kernel)) (fun _ h9 => h9) rfl dX10_sumOfLengths_82 ?_
                            refine lv_iload_n hx hb dX10_sumOfLengths_85 rfl (lv_at hl 2 rfl) ?_
                            refine ry_iald hx hb hK.1 hP 1 rfl rfl (by decide) (q - 1) (by omega) dX10_sumOfLengths_86 ?_
                            refine ry_if_le (tgt := 131) hx hb dX10_sumOfLengths_87 (by decide) (by omega) (fun b87 => ?_) (fun b87 => ?_)
                            · skip
                              have hfin : bst = pg_dp L (posl c (17 - q)) k := by
                                rw [posl_step c (by omega) (by omega)]
                                rcases hbv with ⟨h1, h2⟩ | ⟨h1, h2⟩
                                · rw [if_pos h1]; exact h2
                                · rw [if_neg h1, pg_dp]; first | rw [h2, show l9 - 1 = L by omega] | exact absurd h1 (by omega)
                              refine lv_aload_n hx hb dX10_sumOfLengths_131 rfl (lv_at hl 0 rfl) ?_
                              refine va_get (D := D) (ci := 10) (v := .ref r_le) (C := RX10) (T := TX10) (N := 23) hx hb hts hin10 hown hK.1 hP 0 rfl rfl 18 (by decide) (hts (.fieldLink RX10 44 "BlockCoderModel" "least" "[I") (by decide +kernel)) (fun _ h9 => h9) rfl dX10_sumOfLengths_132 ?_
                              refine ry_bipush (v := 65) hx hb dX10_sumOfLengths_135 (by decide) ?_
                              refine lv_iload_n hx hb dX10_sumOfLengths_137 rfl (lv_at hl 2 rfl) ?_
                              refine ry_imul hx hb dX10_sumOfLengths_138 ?_
                              refine lv_iload_n hx hb dX10_sumOfLengths_139 rfl (lv_at hl 3 rfl) ?_
                              refine ry_iadd hx hb dX10_sumOfLengths_140 ?_
                              refine lv_iload hx hb dX10_sumOfLengths_141 (lv_at hl 4 rfl) ?_
                              refine ry_iast hx hb hK.1 hP hD hS 2 rfl rfl (by decide) (65 * (q - 1) + k) (by omega) dX10_sumOfLengths_143 (fun H locs hP hD hS => ?_)
                              have hP : va_P D vwCl [(m0, .inr (10, [.int (iI th), .int (iI ((n : Nat) : Int)), .ref r_tx, .int (iI ((L : Nat) : Int)), .int (iI ((hd : Nat) : Int)), .int (iI ((pr : Nat) : Int)), .int (iI ((gr : Nat) : Int)), .int (iI md), .int (iI co), .int (iI ((nb : Nat) : Int)), .ref r_st, .ref r_ln, .ref r_wd, .int (iI ((bt : Nat) : Int)), .ref r_bi, .int (iI ((gt : Nat) : Int)), .ref r_go, .ref r_cn, .ref r_le, .ref r_cd, .ref r_bc, .ref r_bb, .ref r_be])), (r_cn, .inl (cI, 16, .inl (ia cn))), (r_le, .inl (cI, 1105, .inl (ia (va_up le4 (65 * (q - 1) + k) ((bst : Nat) : Int)))))] H := hP
                              have hD : va_D vA [(m0, .inr (10, [.int (iI th), .int (iI ((n : Nat) : Int)), .ref r_tx, .int (iI ((L : Nat) : Int)), .int (iI ((hd : Nat) : Int)), .int (iI ((pr : Nat) : Int)), .int (iI ((gr : Nat) : Int)), .int (iI md), .int (iI co), .int (iI ((nb : Nat) : Int)), .ref r_st, .ref r_ln, .ref r_wd, .int (iI ((bt : Nat) : Int)), .ref r_bi, .int (iI ((gt : Nat) : Int)), .ref r_go, .ref r_cn, .ref r_le, .ref r_cd, .ref r_bc, .ref r_bb, .ref r_be])), (r_cn, .inl (cI, 16, .inl (ia cn))), (r_le, .inl (cI, 1105, .inl (ia (va_up le4 (65 * (q - 1) + k) ((bst : Nat) : Int)))))] := hD
                              refine ry_iinc (v := ((k + 1 : Nat) : Int)) (k := 3) (lv' := [(3, .int (iI ((k + 1 : Nat) : Int))), (0, .ref m0), (1, .int (iI ((2 ^ L : Nat) : Int))), (2, .int (iI (((q : Nat) : Int) - 1))), (4, .int (iI ((bst : Nat) : Int))), (5, .int (iI ((l9 : Nat) : Int)))]) hx hb dX10_sumOfLengths_144 hl rfl (by omega) (by decide) rfl (fun ls hl => ?_)
                              refine lv_goto (tgt := 40) hx hb dX10_sumOfLengths_147 (by decide) ?_
                              exact ih_40 (k + 1) (va_up le4 (65 * (q - 1) + k) ((bst : Nat) : Int)) (by omega) (by omega) (fun r hr room hm => (up_ne _ _ (by omega)).trans (htb r hr room hm)) (fun room hj => by by_cases e9 : room = k; (subst e9; rw [up_self, hfin]); exact (up_ne _ _ (by omega)).trans (hrow room (by omega))) (by omega) _ _ (hP.sub [0, 1, 2] rfl) (hD.sub [0, 1, 2] (by decide) rfl) hS _ (lv_sub hl [1, 2, 3, 0] rfl)
                            · skip
                              refine lv_iload hx hb dX10_sumOfLengths_90 (lv_at hl 4 rfl) ?_
                              refine lv_aload_n hx hb dX10_sumOfLengths_92 rfl (lv_at hl 0 rfl) ?_
                              refine va_get (D := D) (ci := 10) (v := .ref r_cn) (C := RX10) (T := TX10) (N := 23) hx hb hts hin10 hown hK.1 hP 0 rfl rfl 17 (by decide) (hts (.fieldLink RX10 41 "BlockCoderModel" "counts" "[I") (by decide +kernel)) (fun _ h9 => h9) rfl dX10_sumOfLengths_93 ?_
                              refine lv_iload_n hx hb dX10_sumOfLengths_96 rfl (lv_at hl 2 rfl) ?_
                              refine ry_iald hx hb hK.1 hP 1 rfl rfl (by decide) (q - 1) (by omega) dX10_sumOfLengths_97 ?_
                              refine lv_iload hx hb dX10_sumOfLengths_98 (lv_at hl 5 rfl) ?_
                              refine ry_imul hx hb dX10_sumOfLengths_100 ?_
                              refine lv_aload_n hx hb dX10_sumOfLengths_101 rfl (lv_at hl 0 rfl) ?_
                              refine lv_iload_n hx hb dX10_sumOfLengths_102 rfl (lv_at hl 2 rfl) ?_
                              refine ry_iconst (v := 1) hx hb dX10_sumOfLengths_103 rfl ?_
                              refine ry_iadd hx hb dX10_sumOfLengths_104 ?_
                              refine lv_iload_n hx hb dX10_sumOfLengths_105 rfl (lv_at hl 3 rfl) ?_
                              refine ry_iconst (v := 1) hx hb dX10_sumOfLengths_106 rfl ?_
                              refine lv_aload_n hx hb dX10_sumOfLengths_107 rfl (lv_at hl 0 rfl) ?_
                              refine va_get (D := D) (ci := 10) (v := .int (iI ((L : Nat) : Int))) (C := RX10) (T := TX10) (N := 23) hx hb hts hin10 hown hK.1 hP 0 rfl rfl 3 (by decide) (hts (.fieldLink RX10 13 "BlockCoderModel" "limit" "I") (by decide +kernel)) (fun _ h9 => h9) rfl dX10_sumOfLengths_108 ?_
                              refine lv_iload hx hb dX10_sumOfLengths_111 (lv_at hl 5 rfl) ?_
                              refine ry_isubN hx hb (L - l9) dX10_sumOfLengths_113 (by omega) ?_
                              refine ry_shl1 hx hb (L - l9) dX10_sumOfLengths_114 (by omega) ?_
                              refine ry_isub hx hb dX10_sumOfLengths_115 ?_
                              rw [show ((((q : Nat) : Int) - 1) + 1 : Int) = ((q : Nat) : Int) by omega]
                              refine ry_ci (wr := [(r_cn, .inl (cI, 16, .inl (ia cn)))]) (va_runV (As := [.int (iI ((q : Nat) : Int)), .int (iI (((k : Nat) : Int) - ((2 ^ (L - l9) : Nat) : Int)))]) (rest := [.int (iI ((cn (q - 1)) * ((l9 : Nat) : Int))), .int (iI ((bst : Nat) : Int))]) ⟨hx, hb, hml, hown, hts⟩ (k_X10_from vl D cI m0 th n r_tx L hd pr gr md co nb r_st r_ln r_wd bt r_bi gt r_go r_cn r_le r_cd r_bc r_bb r_be le4 q (((k : Nat) : Int) - ((2 ^ (L - l9) : Nat) : Int)) (by omega) (by omega) _) (cwV 2 hts gX10_sumOfLengths_X10_from rfl rfl rfl (by decide +kernel) ⟨Nat.le_of_ble_eq_true rfl, Nat.le_of_ble_eq_true rfl⟩) ⟨CP.blind, va_recv hK.1 hP (ci := 10) (q0 := 0) rfl rfl, ry_pre hK hP hD [0, 2] rfl rfl⟩ rfl rfl hl.1 rfl (lv_room (Nat.le_of_ble_eq_true rfl)) dX10_sumOfLengths_116 ⟨Nat.le_of_ble_eq_true rfl, Nat.le_of_ble_eq_true rfl⟩) hP hD hS hA [0, 2] [1] rfl rfl (by decide) (by decide) (fun z116 u116 H locs hp116 hP hD hS => ?_)
                              try dsimp only at hp116
                              have fr_116 := hp116
                              have fr_116 : ((((k : Nat) : Int) - ((2 ^ (L - l9) : Nat) : Int)) < 0 ∧ z116 = 1000000) ∨ (0 ≤ (((k : Nat) : Int) - ((2 ^ (L - l9) : Nat) : Int)) ∧ z116 = le4 (65 * q + (((k : Nat) : Int) - ((2 ^ (L - l9) : Nat) : Int)).toNat)) := fr_116
                              have hP : va_P D vwCl [(r_cn, .inl (cI, 16, .inl (ia cn))), (m0, .inr (10, [.int (iI th), .int (iI ((n : Nat) : Int)), .ref r_tx, .int (iI ((L : Nat) : Int)), .int (iI ((hd : Nat) : Int)), .int (iI ((pr : Nat) : Int)), .int (iI ((gr : Nat) : Int)), .int (iI md), .int (iI co), .int (iI ((nb : Nat) : Int)), .ref r_st, .ref r_ln, .ref r_wd, .int (iI ((bt : Nat) : Int)), .ref r_bi, .int (iI ((gt : Nat) : Int)), .ref r_go, .ref r_cn, .ref r_le, .ref r_cd, .ref r_bc, .ref r_bb, .ref r_be])), (r_le, .inl (cI, 1105, .inl (ia le4)))] H := hP
                              have hD : va_D vA [(r_cn, .inl (cI, 16, .inl (ia cn))), (m0, .inr (10, [.int (iI th), .int (iI ((n : Nat) : Int)), .ref r_tx, .int (iI ((L : Nat) : Int)), .int (iI ((hd : Nat) : Int)), .int (iI ((pr : Nat) : Int)), .int (iI ((gr : Nat) : Int)), .int (iI md), .int (iI co), .int (iI ((nb : Nat) : Int)), .ref r_st, .ref r_ln, .ref r_wd, .int (iI ((bt : Nat) : Int)), .ref r_bi, .int (iI ((gt : Nat) : Int)), .ref r_go, .ref r_cn, .ref r_le, .ref r_cd, .ref r_bc, .ref r_bb, .ref r_be])), (r_le, .inl (cI, 1105, .inl (ia le4)))] := hD
                              refine ry_iadd hx hb dX10_sumOfLengths_119 ?_
                              have hm := mul_le480 (a := cn (q - 1)) (l := l9) (by omega) (by omega)
                              have hz : ((((k : Nat) : Int) - ((2 ^ (L - l9) : Nat) : Int)) < 0 ∧ z116 = 1000000) ∨ (0 ≤ (((k : Nat) : Int) - ((2 ^ (L - l9) : Nat) : Int)) ∧ z116 = ((pg_dp L (posl c (16 - q)) (((k : Nat) : Int) - ((2 ^ (L - l9) : Nat) : Int)).toNat : Nat) : Int)) := by
                                rcases fr_116 with h | h
                                · exact Or.inl h
                                · exact Or.inr ⟨h.1, by rw [h.2]; have := htb (16 - q) (by omega) (((k : Nat) : Int) - ((2 ^ (L - l9) : Nat) : Int)).toNat (by omega); rw [show 16 - (16 - q) = q by omega] at this; exact this⟩
                              have hdc := pg_dp_cap L (posl c (16 - q)) (((k : Nat) : Int) - ((2 ^ (L - l9) : Nat) : Int)).toNat
                              have hbv2 : c (q - 1) ≠ 0 ∧ bst = pg_best L (c (q - 1)) k (pg_dp L (posl c (16 - q))) (l9 - 1) := by
                                rcases hbv with h | h
                                · exact absurd h.1 (by omega)
                                · exact h
                              refine ry_min hx hb (hml.trans hl.1.symm) hown (hts (.methodLink RX10 90 Lib.Math.min.name) (by decide +kernel)) (hts (.static Lib.Math.min.name) (by decide +kernel)) (hts (.initialized "java/lang/Math") (by decide +kernel)) (hts (.code Lib.Math.min.name Lib.Math.min.code 2 (some .int)) (by decide +kernel)) (Nat.le_of_ble_eq_true rfl) (Nat.le_of_ble_eq_true rfl) (Nat.le_of_ble_eq_true rfl) (Nat.le_of_ble_eq_true rfl) (by omega) (by omega) dX10_sumOfLengths_120 ?_
                              refine lv_istore (lv' := [(4, .int (iI (min ((bst : Nat) : Int) (((cn (q - 1)) * ((l9 : Nat) : Int)) + z116)))), (0, .ref m0), (1, .int (iI ((2 ^ L : Nat) : Int))), (2, .int (iI (((q : Nat) : Int) - 1))), (3, .int (iI ((k : Nat) : Int))), (5, .int (iI ((l9 : Nat) : Int)))]) hx hb dX10_sumOfLengths_123 hl (by decide) rfl (fun ls hl => ?_)
                              refine ry_iinc (v := ((l9 + 1 : Nat) : Int)) (k := 5) (lv' := [(5, .int (iI ((l9 + 1 : Nat) : Int))), (4, .int (iI (min ((bst : Nat) : Int) (((cn (q - 1)) * ((l9 : Nat) : Int)) + z116)))), (0, .ref m0), (1, .int (iI ((2 ^ L : Nat) : Int))), (2, .int (iI (((q : Nat) : Int) - 1))), (3, .int (iI ((k : Nat) : Int)))]) hx hb dX10_sumOfLengths_125 hl rfl (by omega) (by decide) rfl (fun ls hl => ?_)
                              refine lv_goto (tgt := 72) hx hb dX10_sumOfLengths_128 (by decide) ?_
                              rw [show (min ((bst : Nat) : Int) (((cn (q - 1)) * ((l9 : Nat) : Int)) + z116) : Int) = ((pg_best L (c (q - 1)) k (pg_dp L (posl c (16 - q))) l9 : Nat) : Int) by exact sl_step hbv2.2 (by omega) (hc _ (by omega)) rfl hz] at hl
                              exact ih_72 (pg_best L (c (q - 1)) k (pg_dp L (posl c (16 - q))) l9) (l9 + 1) (by omega) (pg_best_cap _ _ _ _ _) (Or.inr ⟨hbv2.1, by simp⟩) (by omega) _ _ (hP.sub [1, 0, 2] rfl) (hD.sub [1, 0, 2] (by decide) rfl) hS _ (lv_sub hl [2, 3, 4, 5, 1, 0] rfl)
                      have hz59 : z59 = ((pg_dp L (posl c (16 - q)) k : Nat) : Int) := by
                        rcases fr_59 with h | h
                        · exact absurd h.1 (by omega)
                        · rw [h.2, Int.toNat_natCast]; have := htb (16 - q) (by omega) k (by omega); rw [show 16 - (16 - q) = q by omega] at this; exact this
                      rw [show (z59 : Int) = ((pg_dp L (posl c (16 - q)) k : Nat) : Int) by exact hz59] at hl
                      exact cut_72 (Int.toNat (((L : Nat) : Int) + 1 - ((1 : Nat) : Int)) + 1) (pg_dp L (posl c (16 - q)) k) 1 (by omega) (pg_dp_cap _ _ _) (Or.inl ⟨by omega, rfl⟩) (by omega) _ _ (hP.sub [1, 0, 2] rfl) (hD.sub [1, 0, 2] (by decide) rfl) hS _ (lv_sub hl [2, 3, 4, 5, 1, 0] rfl)
              exact cut_40 (Int.toNat (((2 ^ L : Nat) : Int) + 1 - ((0 : Nat) : Int)) + 1) 0 le3 (by omega) (by omega) (htb) (fun j hj => absurd hj (by omega)) (by omega) _ _ (hP.sub [0, 1, 2] rfl) (hD.sub [0, 1, 2] (by decide) rfl) hS _ (lv_sub hl [1, 2, 3, 0] rfl)
        rw [show (15 : Int) = (((16 : Nat) : Int) - 1) by omega] at hl
        exact cut_34 (Int.toNat (((16 : Nat) : Int)) + 1) 16 le2 (by omega) (fun r hr room hm => by obtain rfl : r = 0 := (by omega); (simp only [posl, pg_dp]; exact hz0 room (by omega))) (by omega) _ _ (hP.sub [0, 1, 2] rfl) (hD.sub [0, 1, 2] (by decide) rfl) hS _ (lv_sub hl [1, 2, 0] rfl)
      · skip
        refine lv_aload_n hx hb dX10_sumOfLengths_14 rfl (lv_at hl 0 rfl) ?_
        refine va_get (D := D) (ci := 10) (v := .ref r_le) (C := RX10) (T := TX10) (N := 23) hx hb hts hin10 hown hK.1 hP 0 rfl rfl 18 (by decide) (hts (.fieldLink RX10 44 "BlockCoderModel" "least" "[I") (by decide +kernel)) (fun _ h9 => h9) rfl dX10_sumOfLengths_15 ?_
        refine ry_sipush (v := 1040) hx hb dX10_sumOfLengths_18 (by decide) ?_
        refine lv_iload_n hx hb dX10_sumOfLengths_21 rfl (lv_at hl 2 rfl) ?_
        refine ry_iaddN hx hb (1040 + k) dX10_sumOfLengths_22 (by omega) ?_
        refine ry_iconst (v := 0) hx hb dX10_sumOfLengths_23 rfl ?_
        refine ry_iast hx hb hK.1 hP hD hS 2 rfl rfl (by decide) (1040 + k) (by omega) dX10_sumOfLengths_24 (fun H locs hP hD hS => ?_)
        have hP : va_P D vwCl [(m0, .inr (10, [.int (iI th), .int (iI ((n : Nat) : Int)), .ref r_tx, .int (iI ((L : Nat) : Int)), .int (iI ((hd : Nat) : Int)), .int (iI ((pr : Nat) : Int)), .int (iI ((gr : Nat) : Int)), .int (iI md), .int (iI co), .int (iI ((nb : Nat) : Int)), .ref r_st, .ref r_ln, .ref r_wd, .int (iI ((bt : Nat) : Int)), .ref r_bi, .int (iI ((gt : Nat) : Int)), .ref r_go, .ref r_cn, .ref r_le, .ref r_cd, .ref r_bc, .ref r_bb, .ref r_be])), (r_cn, .inl (cI, 16, .inl (ia cn))), (r_le, .inl (cI, 1105, .inl (ia (va_up le2 (1040 + k) 0))))] H := hP
        have hD : va_D vA [(m0, .inr (10, [.int (iI th), .int (iI ((n : Nat) : Int)), .ref r_tx, .int (iI ((L : Nat) : Int)), .int (iI ((hd : Nat) : Int)), .int (iI ((pr : Nat) : Int)), .int (iI ((gr : Nat) : Int)), .int (iI md), .int (iI co), .int (iI ((nb : Nat) : Int)), .ref r_st, .ref r_ln, .ref r_wd, .int (iI ((bt : Nat) : Int)), .ref r_bi, .int (iI ((gt : Nat) : Int)), .ref r_go, .ref r_cn, .ref r_le, .ref r_cd, .ref r_bc, .ref r_bb, .ref r_be])), (r_cn, .inl (cI, 16, .inl (ia cn))), (r_le, .inl (cI, 1105, .inl (ia (va_up le2 (1040 + k) 0))))] := hD
        refine ry_iinc (v := ((k + 1 : Nat) : Int)) (k := 2) (lv' := [(2, .int (iI ((k + 1 : Nat) : Int))), (0, .ref m0), (1, .int (iI ((2 ^ L : Nat) : Int)))]) hx hb dX10_sumOfLengths_25 hl rfl (by omega) (by decide) rfl (fun ls hl => ?_)
        refine lv_goto (tgt := 9) hx hb dX10_sumOfLengths_28 (by decide) ?_
        exact ih_9 (k + 1) (va_up le2 (1040 + k) 0) (by omega) (fun j hj => by by_cases e9 : j = k; (subst e9; exact up_self _ _ _); exact (up_ne _ _ (by omega)).trans (hz0 j (by omega))) (by omega) _ _ (hP.sub [0, 1, 2] rfl) (hD.sub [0, 1, 2] (by decide) rfl) hS _ (lv_sub hl [1, 2, 0] rfl)
  exact cut_9 (Int.toNat (((2 ^ L : Nat) : Int) + 1 - ((0 : Nat) : Int)) + 1) 0 le (by omega) (fun j hj => absurd hj (by omega)) (by omega) _ _ (hP.sub [0, 1, 2] rfl) (hD.sub [0, 1, 2] (by decide) rfl) hS _ (lv_sub hl [2, 1, 0] rfl)
